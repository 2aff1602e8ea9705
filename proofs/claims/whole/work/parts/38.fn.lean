def b_X12_order_178 (k88 : Int32 → Sg → Option (Int32 × Sg)) (n : Nat) (v0 : Nat) (v1 : Int32) (v2 : Int32) (v3 : Int32) (v4 : Int32) (σ : Sg) : Option (Int32 × Sg) :=
  if v4 = 0 then (
    k88 v3 σ)
  else (
    some (v3, σ))
set_option maxRecDepth 20000 in
theorem tb_X12_order_178 {G : Gl} {xr : Int32} {σr : Sg} (n : Nat) (v0 : Nat) (v1 : Int32) (v2 : Int32) (v3 : Int32) (v4 : Int32) (σ : Sg) (k88 : Int32 → Sg → Option (Int32 × Sg)) (hk88 : ∀ (c3 : Int32) (τ : Sg), k88 c3 τ = some (xr, σr) → RN G M_X12_order 88 [some (.ref v0), some (.int v1), some (.int v2), some (.int c3)] [] τ (.inl (some (.int xr))) σr) (h : b_X12_order_178 k88 n v0 v1 v2 v3 v4 σ = some (xr, σr)) : RN G M_X12_order 178 [some (.ref v0), some (.int v1), some (.int v2), some (.int v3), some (.int v4)] [] σ (.inl (some (.int xr))) σr := by
  unfold b_X12_order_178 at h
  refine RN_iload (pc := 178) (i := 4) (by decide +kernel) rfl ?_
  refine RN_if_eq (pc := 180) (off := 5) (tgt := 185) (by decide +kernel) (by decide) (fun c82 => ?_) (fun c82 => ?_)
  · replace h := it_t c82 h
    refine RN_goto (pc := 185) (off := -97) (tgt := 88) (by decide +kernel) (by decide) ?_
    exact RN_weak (l := [some (.ref v0), some (.int v1), some (.int v2), some (.int v3)]) (And.intro rfl (And.intro rfl (And.intro rfl (And.intro rfl trivial)))) (hk88 v3 σ h)
  · replace h := it_f c82 h
    refine RN_iload_n (pc := 183) (k := 3) (by decide +kernel) rfl rfl ?_
    obtain ⟨rfl, rfl⟩ := some_el2 h
    exact RN_ireturn (by decide +kernel) rfl
def b_X12_order_170 (k88 : Int32 → Sg → Option (Int32 × Sg)) (k125 : Int32 → Int32 → Option (Int32 × Sg)) (n : Nat) (v0 : Nat) (v1 : Int32) (v2 : Int32) (v3 : Int32) (v5 : Int32) (s0 : Int32) (σ : Sg) : Option (Int32 × Sg) :=
  nm (v5 + (1 : Int32)) fun x84 =>
  k125 s0 x84
set_option maxRecDepth 20000 in
theorem tb_X12_order_170 {G : Gl} {xr : Int32} {σr : Sg} (n : Nat) (v0 : Nat) (v1 : Int32) (v2 : Int32) (v3 : Int32) (v5 : Int32) (s0 : Int32) (σ : Sg) (k88 : Int32 → Sg → Option (Int32 × Sg)) (hk88 : ∀ (c3 : Int32) (τ : Sg), k88 c3 τ = some (xr, σr) → RN G M_X12_order 88 [some (.ref v0), some (.int v1), some (.int v2), some (.int c3)] [] τ (.inl (some (.int xr))) σr) (k125 : Int32 → Int32 → Option (Int32 × Sg)) (hk125 : ∀ (c4 : Int32) (c5 : Int32), k125 c4 c5 = some (xr, σr) → RN G M_X12_order 125 [some (.ref v0), some (.int v1), some (.int v2), some (.int v3), some (.int c4), some (.int c5)] [] σ (.inl (some (.int xr))) σr) (h : b_X12_order_170 k88 k125 n v0 v1 v2 v3 v5 s0 σ = some (xr, σr)) : RN G M_X12_order 170 [some (.ref v0), some (.int v1), some (.int v2), some (.int v3), none, some (.int v5)] [.int s0] σ (.inl (some (.int xr))) σr := by
  unfold b_X12_order_170 at h
  refine RN_istore (pc := 170) (i := 4) (ls2 := [some (.ref v0), some (.int v1), some (.int v2), some (.int v3), some (.int s0), some (.int v5)]) (by decide +kernel) (by decide) rfl ?_
  obtain ⟨x84, ex84, h⟩ := nm_el h
  refine RN_iinc (pc := 172) (i := 5) (n := 1) (v := x84) (ls2 := [some (.ref v0), some (.int v1), some (.int v2), some (.int v3), some (.int s0), some (.int x84)]) (by decide +kernel) rfl (by rw [ex84]; rfl) (by decide) rfl ?_
  refine RN_goto (pc := 175) (off := -50) (tgt := 125) (by decide +kernel) (by decide) ?_
  exact RN_weak (l := [some (.ref v0), some (.int v1), some (.int v2), some (.int v3), some (.int s0), some (.int x84)]) (And.intro rfl (And.intro rfl (And.intro rfl (And.intro rfl (And.intro rfl (And.intro rfl trivial)))))) (hk125 s0 x84 h)
def b_X12_order_165 (k88 : Int32 → Sg → Option (Int32 × Sg)) (k125 : Int32 → Int32 → Option (Int32 × Sg)) (n : Nat) (v0 : Nat) (v1 : Int32) (v2 : Int32) (v3 : Int32) (v5 : Int32) (σ : Sg) : Option (Int32 × Sg) :=
  b_X12_order_170 k88 k125 n v0 v1 v2 v3 v5 (1 : Int32) σ
set_option maxRecDepth 20000 in
theorem tb_X12_order_165 {G : Gl} {xr : Int32} {σr : Sg} (n : Nat) (v0 : Nat) (v1 : Int32) (v2 : Int32) (v3 : Int32) (v5 : Int32) (σ : Sg) (k88 : Int32 → Sg → Option (Int32 × Sg)) (hk88 : ∀ (c3 : Int32) (τ : Sg), k88 c3 τ = some (xr, σr) → RN G M_X12_order 88 [some (.ref v0), some (.int v1), some (.int v2), some (.int c3)] [] τ (.inl (some (.int xr))) σr) (k125 : Int32 → Int32 → Option (Int32 × Sg)) (hk125 : ∀ (c4 : Int32) (c5 : Int32), k125 c4 c5 = some (xr, σr) → RN G M_X12_order 125 [some (.ref v0), some (.int v1), some (.int v2), some (.int v3), some (.int c4), some (.int c5)] [] σ (.inl (some (.int xr))) σr) (h : b_X12_order_165 k88 k125 n v0 v1 v2 v3 v5 σ = some (xr, σr)) : RN G M_X12_order 165 [some (.ref v0), some (.int v1), some (.int v2), some (.int v3), none, some (.int v5)] [] σ (.inl (some (.int xr))) σr := by
  unfold b_X12_order_165 at h
  refine RN_iconst (pc := 165) (n := 1) (v := 1) (by decide +kernel) (by decide) ?_
  refine RN_goto (pc := 166) (off := 4) (tgt := 170) (by decide +kernel) (by decide) ?_
  exact RN_weak (l := [some (.ref v0), some (.int v1), some (.int v2), some (.int v3), none, some (.int v5)]) (And.intro rfl (And.intro rfl (And.intro rfl (And.intro rfl (And.intro rfl trivial))))) (tb_X12_order_170 n v0 v1 v2 v3 v5 (1 : Int32) σ k88 hk88 k125 hk125 h)
def b_X12_order_125 (k88 : Int32 → Sg → Option (Int32 × Sg)) : Nat → Nat → Int32 → Int32 → Int32 → Int32 → Int32 → Sg → Option (Int32 × Sg)
  | 0, _, _, _, _, _, _, _ => none
  | n + 1, v0, v1, v2, v3, v4, v5, σ =>
  ck (okO σ v0 11) <|
  if (gI σ v0 3) ≤ v5 then (
    b_X12_order_178 k88 n v0 v1 v2 v3 v4 σ)
  else (
    if v4 = 0 then (
      ck (¬ gR σ v0 22 = 0) <|
      nm (gR σ v0 22) fun r86 =>
      ck (okA σ r86 14 ((12 : Int32) + v5)) <|
      ck (¬ gR σ v0 47 = 0) <|
      nm (gR σ v0 47) fun r89 =>
      ck (¬ gR σ v0 46 = 0) <|
      nm (gR σ v0 46) fun r91 =>
      ck (okA σ r91 13 v5) <|
      ck (okA σ r89 14 (gI σ r91 v5.toNatClampNeg)) <|
      if (gJ σ r86 ((12 : Int32) + v5).toNatClampNeg) = (gJ σ r89 (gI σ r91 v5.toNatClampNeg).toNatClampNeg) then (
        b_X12_order_170 k88 (fun c4 c5 => b_X12_order_125 k88 n v0 v1 v2 v3 c4 c5 σ) n v0 v1 v2 v3 v5 (0 : Int32) σ)
      else (
        b_X12_order_165 k88 (fun c4 c5 => b_X12_order_125 k88 n v0 v1 v2 v3 c4 c5 σ) n v0 v1 v2 v3 v5 σ))
    else (
      b_X12_order_165 k88 (fun c4 c5 => b_X12_order_125 k88 n v0 v1 v2 v3 c4 c5 σ) n v0 v1 v2 v3 v5 σ))
set_option maxRecDepth 20000 in
theorem tb_X12_order_125 {G : Gl} {xr : Int32} {σr : Sg} (v0 : Nat) (v1 : Int32) (v2 : Int32) (v3 : Int32) (σ : Sg) (k88 : Int32 → Sg → Option (Int32 × Sg)) (hk88 : ∀ (c3 : Int32) (τ : Sg), k88 c3 τ = some (xr, σr) → RN G M_X12_order 88 [some (.ref v0), some (.int v1), some (.int v2), some (.int c3)] [] τ (.inl (some (.int xr))) σr) : ∀ (n : Nat) (v4 : Int32) (v5 : Int32), b_X12_order_125 k88 n v0 v1 v2 v3 v4 v5 σ = some (xr, σr) → RN G M_X12_order 125 [some (.ref v0), some (.int v1), some (.int v2), some (.int v3), some (.int v4), some (.int v5)] [] σ (.inl (some (.int xr))) σr := by
  intro n
  induction n with
  | zero =>
    intro v4 v5 h
    exact none_el h
  | succ n ih =>
    intro v4 v5 h
    rw [b_X12_order_125] at h
    refine RN_iload (pc := 125) (i := 5) (by decide +kernel) rfl ?_
    refine RN_aload_n (pc := 127) (k := 0) (by decide +kernel) rfl rfl ?_
    obtain ⟨c80, h⟩ := ck_el h
    refine RN_getI (pc := 128) (idx := 137) (ci := 11) (k := 3) (by decide +kernel) lf_RX12_137 (Or.inl rfl) c80 ?_
    refine RN_icmp_ge (pc := 131) (off := 47) (tgt := 178) (by decide +kernel) (by decide) (fun c81 => ?_) (fun c81 => ?_)
    · replace h := it_t c81 h
      exact RN_weak (l := [some (.ref v0), some (.int v1), some (.int v2), some (.int v3), some (.int v4)]) (And.intro rfl (And.intro rfl (And.intro rfl (And.intro rfl (And.intro rfl trivial))))) (tb_X12_order_178 n v0 v1 v2 v3 v4 σ k88 hk88 h)
    · replace h := it_f c81 h
      refine RN_iload (pc := 134) (i := 4) (by decide +kernel) rfl ?_
      refine RN_if_ne (pc := 136) (off := 29) (tgt := 165) (by decide +kernel) (by decide) (fun c83 => ?_) (fun c83 => ?_)
      · replace h := it_f c83 h
        exact RN_weak (l := [some (.ref v0), some (.int v1), some (.int v2), some (.int v3), none, some (.int v5)]) (And.intro rfl (And.intro rfl (And.intro rfl (And.intro rfl (And.intro rfl trivial))))) (tb_X12_order_165 n v0 v1 v2 v3 v5 σ k88 hk88 _ (fun c4 c5 h => ih c4 c5 h) h)
      · replace h := it_t c83 h
        refine RN_aload_n (pc := 139) (k := 0) (by decide +kernel) rfl rfl ?_
        obtain ⟨c85, h⟩ := ck_el h
        refine RN_getR (pc := 140) (idx := 57) (ci := 11) (k := 22) (by decide +kernel) lf_RX12_57 rfl c80 c85 ?_
        obtain ⟨r86, er86, h⟩ := nm_el h
        refine RN_nmR er86 ?_
        refine RN_bipush (pc := 143) (n := 12) (v := 12) (by decide +kernel) (by decide) ?_
        refine RN_iload (pc := 145) (i := 5) (by decide +kernel) rfl ?_
        refine RN_iadd (pc := 147) (by decide +kernel) ?_
        obtain ⟨c87, h⟩ := ck_el h
        refine RN_lald (pc := 148) (by decide +kernel) c87 ?_
        refine RN_aload_n (pc := 149) (k := 0) (by decide +kernel) rfl rfl ?_
        obtain ⟨c88, h⟩ := ck_el h
        refine RN_getR (pc := 150) (idx := 113) (ci := 11) (k := 47) (by decide +kernel) lf_RX12_113 rfl c80 c88 ?_
        obtain ⟨r89, er89, h⟩ := nm_el h
        refine RN_nmR er89 ?_
        refine RN_aload_n (pc := 153) (k := 0) (by decide +kernel) rfl rfl ?_
        obtain ⟨c90, h⟩ := ck_el h
        refine RN_getR (pc := 154) (idx := 110) (ci := 11) (k := 46) (by decide +kernel) lf_RX12_110 rfl c80 c90 ?_
        obtain ⟨r91, er91, h⟩ := nm_el h
        refine RN_nmR er91 ?_
        refine RN_iload (pc := 157) (i := 5) (by decide +kernel) rfl ?_
        obtain ⟨c92, h⟩ := ck_el h
        refine RN_iald (pc := 159) (by decide +kernel) c92 ?_
        obtain ⟨c93, h⟩ := ck_el h
        refine RN_lald (pc := 160) (by decide +kernel) c93 ?_
        refine RN_lc_eq (pc := 161) (off := 7) (tgt := 169) (by decide +kernel) (by decide +kernel) (by decide) (fun c94 => ?_) (fun c94 => ?_)
        · replace h := it_t c94 h
          refine RN_iconst (pc := 169) (n := 0) (v := 0) (by decide +kernel) (by decide) ?_
          exact RN_weak (l := [some (.ref v0), some (.int v1), some (.int v2), some (.int v3), none, some (.int v5)]) (And.intro rfl (And.intro rfl (And.intro rfl (And.intro rfl (And.intro rfl trivial))))) (tb_X12_order_170 n v0 v1 v2 v3 v5 (0 : Int32) σ k88 hk88 _ (fun c4 c5 h => ih c4 c5 h) h)
        · replace h := it_f c94 h
          exact RN_weak (l := [some (.ref v0), some (.int v1), some (.int v2), some (.int v3), none, some (.int v5)]) (And.intro rfl (And.intro rfl (And.intro rfl (And.intro rfl (And.intro rfl trivial))))) (tb_X12_order_165 n v0 v1 v2 v3 v5 σ k88 hk88 _ (fun c4 c5 h => ih c4 c5 h) h)
def b_X12_order_120 (k88 : Int32 → Sg → Option (Int32 × Sg)) (n : Nat) (v0 : Nat) (v1 : Int32) (v2 : Int32) (v3 : Int32) (s0 : Int32) (σ : Sg) : Option (Int32 × Sg) :=
  b_X12_order_125 k88 n v0 v1 v2 v3 s0 (0 : Int32) σ
set_option maxRecDepth 20000 in
theorem tb_X12_order_120 {G : Gl} {xr : Int32} {σr : Sg} (n : Nat) (v0 : Nat) (v1 : Int32) (v2 : Int32) (v3 : Int32) (s0 : Int32) (σ : Sg) (k88 : Int32 → Sg → Option (Int32 × Sg)) (hk88 : ∀ (c3 : Int32) (τ : Sg), k88 c3 τ = some (xr, σr) → RN G M_X12_order 88 [some (.ref v0), some (.int v1), some (.int v2), some (.int c3)] [] τ (.inl (some (.int xr))) σr) (h : b_X12_order_120 k88 n v0 v1 v2 v3 s0 σ = some (xr, σr)) : RN G M_X12_order 120 [some (.ref v0), some (.int v1), some (.int v2), some (.int v3)] [.int s0] σ (.inl (some (.int xr))) σr := by
  unfold b_X12_order_120 at h
  refine RN_istore (pc := 120) (i := 4) (ls2 := [some (.ref v0), some (.int v1), some (.int v2), some (.int v3), some (.int s0)]) (by decide +kernel) (by decide) rfl ?_
  refine RN_iconst (pc := 122) (n := 0) (v := 0) (by decide +kernel) (by decide) ?_
  refine RN_istore (pc := 123) (i := 5) (ls2 := [some (.ref v0), some (.int v1), some (.int v2), some (.int v3), some (.int s0), some (.int (0 : Int32))]) (by decide +kernel) (by decide) rfl ?_
  exact RN_weak (l := [some (.ref v0), some (.int v1), some (.int v2), some (.int v3), some (.int s0), some (.int (0 : Int32))]) (And.intro rfl (And.intro rfl (And.intro rfl (And.intro rfl (And.intro rfl (And.intro rfl trivial)))))) (tb_X12_order_125 v0 v1 v2 v3 σ k88 hk88 n s0 (0 : Int32) h)
def b_X12_order_115 (k88 : Int32 → Sg → Option (Int32 × Sg)) (n : Nat) (v0 : Nat) (v1 : Int32) (v2 : Int32) (v3 : Int32) (σ : Sg) : Option (Int32 × Sg) :=
  b_X12_order_120 k88 n v0 v1 v2 v3 (1 : Int32) σ
set_option maxRecDepth 20000 in
theorem tb_X12_order_115 {G : Gl} {xr : Int32} {σr : Sg} (n : Nat) (v0 : Nat) (v1 : Int32) (v2 : Int32) (v3 : Int32) (σ : Sg) (k88 : Int32 → Sg → Option (Int32 × Sg)) (hk88 : ∀ (c3 : Int32) (τ : Sg), k88 c3 τ = some (xr, σr) → RN G M_X12_order 88 [some (.ref v0), some (.int v1), some (.int v2), some (.int c3)] [] τ (.inl (some (.int xr))) σr) (h : b_X12_order_115 k88 n v0 v1 v2 v3 σ = some (xr, σr)) : RN G M_X12_order 115 [some (.ref v0), some (.int v1), some (.int v2), some (.int v3)] [] σ (.inl (some (.int xr))) σr := by
  unfold b_X12_order_115 at h
  refine RN_iconst (pc := 115) (n := 1) (v := 1) (by decide +kernel) (by decide) ?_
  refine RN_goto (pc := 116) (off := 4) (tgt := 120) (by decide +kernel) (by decide) ?_
  exact RN_weak (l := [some (.ref v0), some (.int v1), some (.int v2), some (.int v3)]) (And.intro rfl (And.intro rfl (And.intro rfl (And.intro rfl trivial)))) (tb_X12_order_120 n v0 v1 v2 v3 (1 : Int32) σ k88 hk88 h)
def b_X12_order_88 : Nat → Nat → Int32 → Int32 → Int32 → Sg → Option (Int32 × Sg)
  | 0, _, _, _, _, _ => none
  | n + 1, v0, v1, v2, v3, σ =>
  ck (okO σ v0 11) <|
  bd (f_X12_steps n v0 σ) fun x72 σ71 =>
  if x72 = 0 then (
    some ((9999999 : Int32), σ71))
  else (
    nm (v3 + (1 : Int32)) fun x74 =>
    ck (okO σ71 v0 11) <|
    bd (f_X12_triesOrder n v0 v1 σ71) fun x78 σ77 =>
    if x78 = v2 then (
      ck (okO σ77 v0 11) <|
      bp (f_X12_differs n v0 (1 : Int64) σ77) fun x97 =>
      if x97 = 0 then (
        b_X12_order_120 (fun c3 τ => b_X12_order_88 n v0 v1 v2 c3 τ) n v0 v1 v2 x74 (0 : Int32) σ77)
      else (
        b_X12_order_115 (fun c3 τ => b_X12_order_88 n v0 v1 v2 c3 τ) n v0 v1 v2 x74 σ77))
    else (
      b_X12_order_115 (fun c3 τ => b_X12_order_88 n v0 v1 v2 c3 τ) n v0 v1 v2 x74 σ77))
set_option maxRecDepth 20000 in
theorem tb_X12_order_88 {G : Gl} {xr : Int32} {σr : Sg} (v0 : Nat) (v1 : Int32) (v2 : Int32) : ∀ (n : Nat) (v3 : Int32) (σ : Sg), b_X12_order_88 n v0 v1 v2 v3 σ = some (xr, σr) → RN G M_X12_order 88 [some (.ref v0), some (.int v1), some (.int v2), some (.int v3)] [] σ (.inl (some (.int xr))) σr := by
  intro n
  induction n with
  | zero =>
    intro v3 σ h
    exact none_el h
  | succ n ih =>
    intro v3 σ h
    rw [b_X12_order_88] at h
    refine RN_aload_n (pc := 88) (k := 0) (by decide +kernel) rfl rfl ?_
    obtain ⟨c69, h⟩ := ck_el h
    obtain ⟨x72, σ71, f70, h⟩ := bd_el h
    refine RN_callV (M := M_X12_order) (pc := 89) (idx := 364) (as := []) (st := []) (t_X12_steps f70) (by decide +kernel) lk_RX12_364 rfl ⟨by decide, fun q hq => by cases hq; rfl⟩ c69 (Nat.le_of_ble_eq_true rfl) ⟨Nat.le_of_ble_eq_true rfl, Nat.le_of_ble_eq_true rfl⟩ rfl ?_
    show RN G M_X12_order 92 [some (.ref v0), some (.int v1), some (.int v2), some (.int v3)] [.int x72] σ71 _ _
    refine RN_if_eq (pc := 92) (off := 96) (tgt := 188) (by decide +kernel) (by decide) (fun c73 => ?_) (fun c73 => ?_)
    · replace h := it_t c73 h
      refine RN_ldcw (pc := 188) (idx := 353) (v := 9999999) (by decide +kernel) kc_RX12_353 ?_
      obtain ⟨rfl, rfl⟩ := some_el2 h
      exact RN_ireturn (by decide +kernel) rfl
    · replace h := it_f c73 h
      obtain ⟨x74, ex74, h⟩ := nm_el h
      refine RN_iinc (pc := 95) (i := 3) (n := 1) (v := x74) (ls2 := [some (.ref v0), some (.int v1), some (.int v2), some (.int x74)]) (by decide +kernel) rfl (by rw [ex74]; rfl) (by decide) rfl ?_
      refine RN_aload_n (pc := 98) (k := 0) (by decide +kernel) rfl rfl ?_
      refine RN_iload_n (pc := 99) (k := 1) (by decide +kernel) rfl rfl ?_
      obtain ⟨c75, h⟩ := ck_el h
      obtain ⟨x78, σ77, f76, h⟩ := bd_el h
      refine RN_callV (M := M_X12_order) (pc := 100) (idx := 361) (as := [.int v1]) (st := []) (t_X12_triesOrder f76) (by decide +kernel) lk_RX12_361 rfl ⟨by decide, fun q hq => by cases hq; rfl⟩ c75 (Nat.le_of_ble_eq_true rfl) ⟨Nat.le_of_ble_eq_true rfl, Nat.le_of_ble_eq_true rfl⟩ rfl ?_
      show RN G M_X12_order 103 [some (.ref v0), some (.int v1), some (.int v2), some (.int x74)] [.int x78] σ77 _ _
      refine RN_iload_n (pc := 103) (k := 2) (by decide +kernel) rfl rfl ?_
      refine RN_icmp_ne (pc := 104) (off := 11) (tgt := 115) (by decide +kernel) (by decide) (fun c79 => ?_) (fun c79 => ?_)
      · replace h := it_f c79 h
        exact RN_weak (l := [some (.ref v0), some (.int v1), some (.int v2), some (.int x74)]) (And.intro rfl (And.intro rfl (And.intro rfl (And.intro rfl trivial)))) (tb_X12_order_115 n v0 v1 v2 x74 σ77 _ (fun c3 τ h => ih c3 τ h) h)
      · replace h := it_t c79 h
        refine RN_aload_n (pc := 107) (k := 0) (by decide +kernel) rfl rfl ?_
        refine RN_lconst (pc := 108) (n := 1) (v := 1) (by decide +kernel) (by decide) ?_
        obtain ⟨c95, h⟩ := ck_el h
        obtain ⟨x97, f96, h⟩ := bp_el h
        refine RN_callV (M := M_X12_order) (pc := 109) (idx := 298) (as := [.long (1 : Int64)]) (st := []) (t_X12_differs f96) (by decide +kernel) lk_RX12_298 rfl ⟨by decide, fun q hq => by cases hq; rfl⟩ c95 (Nat.le_of_ble_eq_true rfl) ⟨Nat.le_of_ble_eq_true rfl, Nat.le_of_ble_eq_true rfl⟩ rfl ?_
        show RN G M_X12_order 112 [some (.ref v0), some (.int v1), some (.int v2), some (.int x74)] [.int x97] σ77 _ _
        refine RN_if_eq (pc := 112) (off := 7) (tgt := 119) (by decide +kernel) (by decide) (fun c98 => ?_) (fun c98 => ?_)
        · replace h := it_t c98 h
          refine RN_iconst (pc := 119) (n := 0) (v := 0) (by decide +kernel) (by decide) ?_
          exact RN_weak (l := [some (.ref v0), some (.int v1), some (.int v2), some (.int x74)]) (And.intro rfl (And.intro rfl (And.intro rfl (And.intro rfl trivial)))) (tb_X12_order_120 n v0 v1 v2 x74 (0 : Int32) σ77 _ (fun c3 τ h => ih c3 τ h) h)
        · replace h := it_f c98 h
          exact RN_weak (l := [some (.ref v0), some (.int v1), some (.int v2), some (.int x74)]) (And.intro rfl (And.intro rfl (And.intro rfl (And.intro rfl trivial)))) (tb_X12_order_115 n v0 v1 v2 x74 σ77 _ (fun c3 τ h => ih c3 τ h) h)
def b_X12_order_86 (n : Nat) (v0 : Nat) (v1 : Int32) (v2 : Int32) (σ : Sg) : Option (Int32 × Sg) :=
  b_X12_order_88 n v0 v1 v2 (0 : Int32) σ
set_option maxRecDepth 20000 in
theorem tb_X12_order_86 {G : Gl} {xr : Int32} {σr : Sg} (n : Nat) (v0 : Nat) (v1 : Int32) (v2 : Int32) (σ : Sg) (h : b_X12_order_86 n v0 v1 v2 σ = some (xr, σr)) : RN G M_X12_order 86 [some (.ref v0), some (.int v1), some (.int v2)] [] σ (.inl (some (.int xr))) σr := by
  unfold b_X12_order_86 at h
  refine RN_iconst (pc := 86) (n := 0) (v := 0) (by decide +kernel) (by decide) ?_
  refine RN_istore_n (pc := 87) (k := 3) (ls2 := [some (.ref v0), some (.int v1), some (.int v2), some (.int (0 : Int32))]) (by decide +kernel) rfl (by decide) rfl ?_
  exact RN_weak (l := [some (.ref v0), some (.int v1), some (.int v2), some (.int (0 : Int32))]) (And.intro rfl (And.intro rfl (And.intro rfl (And.intro rfl trivial)))) (tb_X12_order_88 v0 v1 v2 n (0 : Int32) σ h)
def b_X12_order_57 : Nat → Nat → Int32 → Int32 → Int32 → Sg → Option (Int32 × Sg)
  | 0, _, _, _, _, _ => none
  | n + 1, v0, v1, v2, v3, σ =>
  ck (okO σ v0 11) <|
  if (gI σ v0 3) ≤ v3 then (
    b_X12_order_86 n v0 v1 v2 σ)
  else (
    ck (¬ gR σ v0 47 = 0) <|
    nm (gR σ v0 47) fun r100 =>
    ck (¬ gR σ v0 22 = 0) <|
    nm (gR σ v0 22) fun r102 =>
    ck (okA σ r102 14 ((12 : Int32) + v3)) <|
    ck (okW σ r100 14 v3) <|
    nm (pJ σ r100 v3.toNatClampNeg (gJ σ r102 ((12 : Int32) + v3).toNatClampNeg)) fun σ105 =>
    nm (v3 + (1 : Int32)) fun x106 =>
    b_X12_order_57 n v0 v1 v2 x106 σ105)
set_option maxRecDepth 20000 in
theorem tb_X12_order_57 {G : Gl} {xr : Int32} {σr : Sg} (v0 : Nat) (v1 : Int32) (v2 : Int32) : ∀ (n : Nat) (v3 : Int32) (σ : Sg), b_X12_order_57 n v0 v1 v2 v3 σ = some (xr, σr) → RN G M_X12_order 57 [some (.ref v0), some (.int v1), some (.int v2), some (.int v3)] [] σ (.inl (some (.int xr))) σr := by
  intro n
  induction n with
  | zero =>
    intro v3 σ h
    exact none_el h
  | succ n ih =>
    intro v3 σ h
    rw [b_X12_order_57] at h
    refine RN_iload_n (pc := 57) (k := 3) (by decide +kernel) rfl rfl ?_
    refine RN_aload_n (pc := 58) (k := 0) (by decide +kernel) rfl rfl ?_
    obtain ⟨c67, h⟩ := ck_el h
    refine RN_getI (pc := 59) (idx := 137) (ci := 11) (k := 3) (by decide +kernel) lf_RX12_137 (Or.inl rfl) c67 ?_
    refine RN_icmp_ge (pc := 62) (off := 24) (tgt := 86) (by decide +kernel) (by decide) (fun c68 => ?_) (fun c68 => ?_)
    · replace h := it_t c68 h
      exact RN_weak (l := [some (.ref v0), some (.int v1), some (.int v2)]) (And.intro rfl (And.intro rfl (And.intro rfl trivial))) (tb_X12_order_86 n v0 v1 v2 σ h)
    · replace h := it_f c68 h
      refine RN_aload_n (pc := 65) (k := 0) (by decide +kernel) rfl rfl ?_
      obtain ⟨c99, h⟩ := ck_el h
      refine RN_getR (pc := 66) (idx := 113) (ci := 11) (k := 47) (by decide +kernel) lf_RX12_113 rfl c67 c99 ?_
      obtain ⟨r100, er100, h⟩ := nm_el h
      refine RN_nmR er100 ?_
      refine RN_iload_n (pc := 69) (k := 3) (by decide +kernel) rfl rfl ?_
      refine RN_aload_n (pc := 70) (k := 0) (by decide +kernel) rfl rfl ?_
      obtain ⟨c101, h⟩ := ck_el h
      refine RN_getR (pc := 71) (idx := 57) (ci := 11) (k := 22) (by decide +kernel) lf_RX12_57 rfl c67 c101 ?_
      obtain ⟨r102, er102, h⟩ := nm_el h
      refine RN_nmR er102 ?_
      refine RN_bipush (pc := 74) (n := 12) (v := 12) (by decide +kernel) (by decide) ?_
      refine RN_iload_n (pc := 76) (k := 3) (by decide +kernel) rfl rfl ?_
      refine RN_iadd (pc := 77) (by decide +kernel) ?_
      obtain ⟨c103, h⟩ := ck_el h
      refine RN_lald (pc := 78) (by decide +kernel) c103 ?_
      obtain ⟨c104, h⟩ := ck_el h
      refine RN_last (pc := 79) (by decide +kernel) c104 ?_
      obtain ⟨σ105, eσ105, h⟩ := nm_el h
      refine RN_nmS eσ105 ?_
      obtain ⟨x106, ex106, h⟩ := nm_el h
      refine RN_iinc (pc := 80) (i := 3) (n := 1) (v := x106) (ls2 := [some (.ref v0), some (.int v1), some (.int v2), some (.int x106)]) (by decide +kernel) rfl (by rw [ex106]; rfl) (by decide) rfl ?_
      refine RN_goto (pc := 83) (off := -26) (tgt := 57) (by decide +kernel) (by decide) ?_
      exact RN_weak (l := [some (.ref v0), some (.int v1), some (.int v2), some (.int x106)]) (And.intro rfl (And.intro rfl (And.intro rfl (And.intro rfl trivial)))) (ih x106 σ105 h)
def b_X12_order_45 (n : Nat) (v0 : Nat) (v1 : Int32) (σ : Sg) : Option (Int32 × Sg) :=
  ck (okO σ v0 11) <|
  bd (f_X12_triesOrder n v0 v1 σ) fun x63 σ62 =>
  ck (okO σ62 v0 11) <|
  bp (f_X12_notes n v0 σ62) fun σ66 =>
  b_X12_order_57 n v0 v1 x63 (0 : Int32) σ66
set_option maxRecDepth 20000 in
theorem tb_X12_order_45 {G : Gl} {xr : Int32} {σr : Sg} (n : Nat) (v0 : Nat) (v1 : Int32) (σ : Sg) (h : b_X12_order_45 n v0 v1 σ = some (xr, σr)) : RN G M_X12_order 45 [some (.ref v0), some (.int v1)] [] σ (.inl (some (.int xr))) σr := by
  unfold b_X12_order_45 at h
  refine RN_aload_n (pc := 45) (k := 0) (by decide +kernel) rfl rfl ?_
  refine RN_iload_n (pc := 46) (k := 1) (by decide +kernel) rfl rfl ?_
  obtain ⟨c60, h⟩ := ck_el h
  obtain ⟨x63, σ62, f61, h⟩ := bd_el h
  refine RN_callV (M := M_X12_order) (pc := 47) (idx := 361) (as := [.int v1]) (st := []) (t_X12_triesOrder f61) (by decide +kernel) lk_RX12_361 rfl ⟨by decide, fun q hq => by cases hq; rfl⟩ c60 (Nat.le_of_ble_eq_true rfl) ⟨Nat.le_of_ble_eq_true rfl, Nat.le_of_ble_eq_true rfl⟩ rfl ?_
  show RN G M_X12_order 50 [some (.ref v0), some (.int v1)] [.int x63] σ62 _ _
  refine RN_istore_n (pc := 50) (k := 2) (ls2 := [some (.ref v0), some (.int v1), some (.int x63)]) (by decide +kernel) rfl (by decide) rfl ?_
  refine RN_aload_n (pc := 51) (k := 0) (by decide +kernel) rfl rfl ?_
  obtain ⟨c64, h⟩ := ck_el h
  obtain ⟨σ66, f65, h⟩ := bp_el h
  refine RN_callV (M := M_X12_order) (pc := 52) (idx := 293) (as := []) (st := []) (t_X12_notes f65) (by decide +kernel) lk_RX12_293 rfl ⟨by decide, fun q hq => by cases hq; rfl⟩ c64 (Nat.le_of_ble_eq_true rfl) ⟨Nat.le_of_ble_eq_true rfl, Nat.le_of_ble_eq_true rfl⟩ rfl ?_
  show RN G M_X12_order 55 [some (.ref v0), some (.int v1), some (.int x63)] [] σ66 _ _
  refine RN_iconst (pc := 55) (n := 0) (v := 0) (by decide +kernel) (by decide) ?_
  refine RN_istore_n (pc := 56) (k := 3) (ls2 := [some (.ref v0), some (.int v1), some (.int x63), some (.int (0 : Int32))]) (by decide +kernel) rfl (by decide) rfl ?_
  exact RN_weak (l := [some (.ref v0), some (.int v1), some (.int x63), some (.int (0 : Int32))]) (And.intro rfl (And.intro rfl (And.intro rfl (And.intro rfl trivial)))) (tb_X12_order_57 v0 v1 x63 n (0 : Int32) σ66 h)
def b_X12_order_24 : Nat → Nat → Int32 → Int32 → Sg → Option (Int32 × Sg)
  | 0, _, _, _, _ => none
  | n + 1, v0, v1, v2, σ =>
  ck (okO σ v0 11) <|
  if (gI σ v0 3) ≤ v2 then (
    b_X12_order_45 n v0 v1 σ)
  else (
    ck (¬ gR σ v0 46 = 0) <|
    nm (gR σ v0 46) fun r108 =>
    ck (okW σ r108 13 v2) <|
    nm (pI σ r108 v2.toNatClampNeg v2) fun σ110 =>
    nm (v2 + (1 : Int32)) fun x111 =>
    b_X12_order_24 n v0 v1 x111 σ110)
set_option maxRecDepth 20000 in
theorem tb_X12_order_24 {G : Gl} {xr : Int32} {σr : Sg} (v0 : Nat) (v1 : Int32) : ∀ (n : Nat) (v2 : Int32) (σ : Sg), b_X12_order_24 n v0 v1 v2 σ = some (xr, σr) → RN G M_X12_order 24 [some (.ref v0), some (.int v1), some (.int v2)] [] σ (.inl (some (.int xr))) σr := by
  intro n
  induction n with
  | zero =>
    intro v2 σ h
    exact none_el h
  | succ n ih =>
    intro v2 σ h
    rw [b_X12_order_24] at h
    refine RN_iload_n (pc := 24) (k := 2) (by decide +kernel) rfl rfl ?_
    refine RN_aload_n (pc := 25) (k := 0) (by decide +kernel) rfl rfl ?_
    obtain ⟨c58, h⟩ := ck_el h
    refine RN_getI (pc := 26) (idx := 137) (ci := 11) (k := 3) (by decide +kernel) lf_RX12_137 (Or.inl rfl) c58 ?_
    refine RN_icmp_ge (pc := 29) (off := 16) (tgt := 45) (by decide +kernel) (by decide) (fun c59 => ?_) (fun c59 => ?_)
    · replace h := it_t c59 h
      exact RN_weak (l := [some (.ref v0), some (.int v1)]) (And.intro rfl (And.intro rfl trivial)) (tb_X12_order_45 n v0 v1 σ h)
    · replace h := it_f c59 h
      refine RN_aload_n (pc := 32) (k := 0) (by decide +kernel) rfl rfl ?_
      obtain ⟨c107, h⟩ := ck_el h
      refine RN_getR (pc := 33) (idx := 110) (ci := 11) (k := 46) (by decide +kernel) lf_RX12_110 rfl c58 c107 ?_
      obtain ⟨r108, er108, h⟩ := nm_el h
      refine RN_nmR er108 ?_
      refine RN_iload_n (pc := 36) (k := 2) (by decide +kernel) rfl rfl ?_
      refine RN_iload_n (pc := 37) (k := 2) (by decide +kernel) rfl rfl ?_
      obtain ⟨c109, h⟩ := ck_el h
      refine RN_iast (pc := 38) (by decide +kernel) c109 ?_
      obtain ⟨σ110, eσ110, h⟩ := nm_el h
      refine RN_nmS eσ110 ?_
      obtain ⟨x111, ex111, h⟩ := nm_el h
      refine RN_iinc (pc := 39) (i := 2) (n := 1) (v := x111) (ls2 := [some (.ref v0), some (.int v1), some (.int x111)]) (by decide +kernel) rfl (by rw [ex111]; rfl) (by decide) rfl ?_
      refine RN_goto (pc := 42) (off := -18) (tgt := 24) (by decide +kernel) (by decide) ?_
      exact RN_weak (l := [some (.ref v0), some (.int v1), some (.int x111)]) (And.intro rfl (And.intro rfl (And.intro rfl trivial))) (ih x111 σ110 h)
def f_X12_order (n : Nat) (v0 : Nat) (v1 : Int32) (σ : Sg) : Option (Int32 × Sg) :=
  ck (okO σ v0 11) <|
  bp (f_X12_isProgram v0 v1 σ) fun x55 =>
  if x55 = 0 then (
    some ((-1 : Int32), σ))
  else (
    if (gI σ v0 3) ≤ (6 : Int32) then (
      b_X12_order_24 n v0 v1 (0 : Int32) σ)
    else (
      some ((-2 : Int32), σ)))
set_option maxRecDepth 20000 in
theorem t_X12_order {G : Gl} {xr : Int32} {σr : Sg} {n : Nat} {v0 : Nat} {v1 : Int32} {σ : Sg} (h : f_X12_order n v0 v1 σ = some (xr, σr)) : MT G M_X12_order [.ref v0, .int v1] σ (some (.int xr)) σr := by
  refine MT_of rfl rfl (Nat.le_of_ble_eq_true rfl) ?_
  show RN G M_X12_order 0 [some (.ref v0), some (.int v1)] [] σ (.inl (some (.int xr))) σr
  unfold f_X12_order at h
  refine RN_aload_n (pc := 0) (k := 0) (by decide +kernel) rfl rfl ?_
  refine RN_iload_n (pc := 1) (k := 1) (by decide +kernel) rfl rfl ?_
  obtain ⟨c53, h⟩ := ck_el h
  obtain ⟨x55, f54, h⟩ := bp_el h
  refine RN_callV (M := M_X12_order) (pc := 2) (idx := 172) (as := [.int v1]) (st := []) (t_X12_isProgram f54) (by decide +kernel) lk_RX12_172 rfl ⟨by decide, fun q hq => by cases hq; rfl⟩ c53 (Nat.le_of_ble_eq_true rfl) ⟨Nat.le_of_ble_eq_true rfl, Nat.le_of_ble_eq_true rfl⟩ rfl ?_
  show RN G M_X12_order 5 [some (.ref v0), some (.int v1)] [.int x55] σ _ _
  refine RN_if_ne (pc := 5) (off := 5) (tgt := 10) (by decide +kernel) (by decide) (fun c56 => ?_) (fun c56 => ?_)
  · replace h := it_f c56 h
    refine RN_aload_n (pc := 10) (k := 0) (by decide +kernel) rfl rfl ?_
    refine RN_getI (pc := 11) (idx := 137) (ci := 11) (k := 3) (by decide +kernel) lf_RX12_137 (Or.inl rfl) c53 ?_
    refine RN_bipush (pc := 14) (n := 6) (v := 6) (by decide +kernel) (by decide) ?_
    refine RN_icmp_le (pc := 16) (off := 6) (tgt := 22) (by decide +kernel) (by decide) (fun c57 => ?_) (fun c57 => ?_)
    · replace h := it_t c57 h
      refine RN_iconst (pc := 22) (n := 0) (v := 0) (by decide +kernel) (by decide) ?_
      refine RN_istore_n (pc := 23) (k := 2) (ls2 := [some (.ref v0), some (.int v1), some (.int (0 : Int32))]) (by decide +kernel) rfl (by decide) rfl ?_
      exact RN_weak (l := [some (.ref v0), some (.int v1), some (.int (0 : Int32))]) (And.intro rfl (And.intro rfl (And.intro rfl trivial))) (tb_X12_order_24 v0 v1 n (0 : Int32) σ h)
    · replace h := it_f c57 h
      refine RN_bipush (pc := 19) (n := -2) (v := -2) (by decide +kernel) (by decide) ?_
      obtain ⟨rfl, rfl⟩ := some_el2 h
      exact RN_ireturn (by decide +kernel) rfl
  · replace h := it_t c56 h
    refine RN_iconst (pc := 8) (n := -1) (v := -1) (by decide +kernel) (by decide) ?_
    obtain ⟨rfl, rfl⟩ := some_el2 h
    exact RN_ireturn (by decide +kernel) rfl
def b_X12_drift_476 (n : Nat) (v8 : Int32) (v10 : Int64) (v12 : Int64) (σ : Sg) : Option (Int32 × Sg) :=
  ck (¬ (v8.toInt64) = 0) <|
  some (((v10 * v12) / (v8.toInt64)).toInt32, σ)
set_option maxRecDepth 20000 in
theorem tb_X12_drift_476 {G : Gl} {xr : Int32} {σr : Sg} (n : Nat) (v8 : Int32) (v10 : Int64) (v12 : Int64) (σ : Sg) (h : b_X12_drift_476 n v8 v10 v12 σ = some (xr, σr)) : RN G M_X12_drift 476 [none, none, none, none, none, none, none, none, some (.int v8), none, some (.long v10), none, some (.long v12)] [] σ (.inl (some (.int xr))) σr := by
  unfold b_X12_drift_476 at h
  refine RN_lload (pc := 476) (i := 10) (by decide +kernel) rfl ?_
  refine RN_lload (pc := 478) (i := 12) (by decide +kernel) rfl ?_
  refine RN_lmul (pc := 480) (by decide +kernel) ?_
  refine RN_iload (pc := 481) (i := 8) (by decide +kernel) rfl ?_
  refine RN_i2l (pc := 483) (by decide +kernel) ?_
  obtain ⟨c127, h⟩ := ck_el h
  refine RN_ldiv (pc := 484) (by decide +kernel) c127 ?_
  refine RN_l2i (pc := 485) (by decide +kernel) ?_
  obtain ⟨rfl, rfl⟩ := some_el2 h
  exact RN_ireturn (by decide +kernel) rfl
def b_X12_drift_468 (k401 : Int64 → Int32 → Option (Int32 × Sg)) (n : Nat) (v0 : Nat) (v2 : Int32) (v8 : Int32) (v9 : Int32) (v10 : Int64) (v14 : Int32) (s0 : Int64) (σ : Sg) : Option (Int32 × Sg) :=
  nm (v14 + (1 : Int32)) fun x138 =>
  k401 s0 x138
set_option maxRecDepth 20000 in
theorem tb_X12_drift_468 {G : Gl} {xr : Int32} {σr : Sg} (n : Nat) (v0 : Nat) (v2 : Int32) (v8 : Int32) (v9 : Int32) (v10 : Int64) (v14 : Int32) (s0 : Int64) (σ : Sg) (k401 : Int64 → Int32 → Option (Int32 × Sg)) (hk401 : ∀ (c12 : Int64) (c14 : Int32), k401 c12 c14 = some (xr, σr) → RN G M_X12_drift 401 [some (.ref v0), none, some (.int v2), none, none, none, none, none, some (.int v8), some (.int v9), some (.long v10), none, some (.long c12), none, some (.int c14)] [] σ (.inl (some (.int xr))) σr) (h : b_X12_drift_468 k401 n v0 v2 v8 v9 v10 v14 s0 σ = some (xr, σr)) : RN G M_X12_drift 468 [some (.ref v0), none, some (.int v2), none, none, none, none, none, some (.int v8), some (.int v9), some (.long v10), none, none, none, some (.int v14)] [.long s0] σ (.inl (some (.int xr))) σr := by
  unfold b_X12_drift_468 at h
  refine RN_lstore (pc := 468) (i := 12) (ls2 := [some (.ref v0), none, some (.int v2), none, none, none, none, none, some (.int v8), some (.int v9), some (.long v10), none, some (.long s0), none, some (.int v14)]) (by decide +kernel) (by decide) rfl ?_
  obtain ⟨x138, ex138, h⟩ := nm_el h
  refine RN_iinc (pc := 470) (i := 14) (n := 1) (v := x138) (ls2 := [some (.ref v0), none, some (.int v2), none, none, none, none, none, some (.int v8), some (.int v9), some (.long v10), none, some (.long s0), none, some (.int x138)]) (by decide +kernel) rfl (by rw [ex138]; rfl) (by decide) rfl ?_
  refine RN_goto (pc := 473) (off := -72) (tgt := 401) (by decide +kernel) (by decide) ?_
  exact RN_weak (l := [some (.ref v0), none, some (.int v2), none, none, none, none, none, some (.int v8), some (.int v9), some (.long v10), none, some (.long s0), none, some (.int x138)]) (And.intro rfl (And.intro rfl (And.intro rfl (And.intro rfl (And.intro rfl (And.intro rfl (And.intro rfl trivial))))))) (hk401 s0 x138 h)
def b_X12_drift_466 (k401 : Int64 → Int32 → Option (Int32 × Sg)) (n : Nat) (v0 : Nat) (v2 : Int32) (v8 : Int32) (v9 : Int32) (v10 : Int64) (v12 : Int64) (v14 : Int32) (σ : Sg) : Option (Int32 × Sg) :=
  b_X12_drift_468 k401 n v0 v2 v8 v9 v10 v14 v12 σ
set_option maxRecDepth 20000 in
theorem tb_X12_drift_466 {G : Gl} {xr : Int32} {σr : Sg} (n : Nat) (v0 : Nat) (v2 : Int32) (v8 : Int32) (v9 : Int32) (v10 : Int64) (v12 : Int64) (v14 : Int32) (σ : Sg) (k401 : Int64 → Int32 → Option (Int32 × Sg)) (hk401 : ∀ (c12 : Int64) (c14 : Int32), k401 c12 c14 = some (xr, σr) → RN G M_X12_drift 401 [some (.ref v0), none, some (.int v2), none, none, none, none, none, some (.int v8), some (.int v9), some (.long v10), none, some (.long c12), none, some (.int c14)] [] σ (.inl (some (.int xr))) σr) (h : b_X12_drift_466 k401 n v0 v2 v8 v9 v10 v12 v14 σ = some (xr, σr)) : RN G M_X12_drift 466 [some (.ref v0), none, some (.int v2), none, none, none, none, none, some (.int v8), some (.int v9), some (.long v10), none, some (.long v12), none, some (.int v14)] [] σ (.inl (some (.int xr))) σr := by
  unfold b_X12_drift_466 at h
  refine RN_lload (pc := 466) (i := 12) (by decide +kernel) rfl ?_
  exact RN_weak (l := [some (.ref v0), none, some (.int v2), none, none, none, none, none, some (.int v8), some (.int v9), some (.long v10), none, none, none, some (.int v14)]) (And.intro rfl (And.intro rfl (And.intro rfl (And.intro rfl (And.intro rfl (And.intro rfl trivial)))))) (tb_X12_drift_468 n v0 v2 v8 v9 v10 v14 v12 σ k401 hk401 h)
def b_X12_drift_401 : Nat → Nat → Int32 → Int32 → Int32 → Int64 → Int64 → Int32 → Sg → Option (Int32 × Sg)
  | 0, _, _, _, _, _, _, _, _ => none
  | n + 1, v0, v2, v8, v9, v10, v12, v14, σ =>
  if v9 ≤ v14 then (
    b_X12_drift_476 n v8 v10 v12 σ)
  else (
    ck (okO σ v0 11) <|
    ck (¬ gR σ v0 48 = 0) <|
    nm (gR σ v0 48) fun r130 =>
    ck (okA σ r130 14 v14) <|
    bp (f_X12_times (v14.toInt64) (v8.toInt64) v2) fun x133 =>
    nm ((gJ σ r130 v14.toNatClampNeg) - (v10 * (((v8.toInt64) * x133) - (v14.toInt64)))) fun x134 =>
    nm (gR σ v0 48) fun r135 =>
    ck (okA σ r135 14 v14) <|
    if (gJ σ r135 v14.toNatClampNeg) ≤ (-1099511627776 : Int64) then (
      b_X12_drift_466 (fun c12 c14 => b_X12_drift_401 n v0 v2 v8 v9 v10 c12 c14 σ) n v0 v2 v8 v9 v10 v12 v14 σ)
    else (
      if x134 ≤ v12 then (
        b_X12_drift_466 (fun c12 c14 => b_X12_drift_401 n v0 v2 v8 v9 v10 c12 c14 σ) n v0 v2 v8 v9 v10 v12 v14 σ)
      else (
        b_X12_drift_468 (fun c12 c14 => b_X12_drift_401 n v0 v2 v8 v9 v10 c12 c14 σ) n v0 v2 v8 v9 v10 v14 x134 σ)))
set_option maxRecDepth 20000 in
theorem tb_X12_drift_401 {G : Gl} {xr : Int32} {σr : Sg} (v0 : Nat) (v2 : Int32) (v8 : Int32) (v9 : Int32) (v10 : Int64) (σ : Sg) : ∀ (n : Nat) (v12 : Int64) (v14 : Int32), b_X12_drift_401 n v0 v2 v8 v9 v10 v12 v14 σ = some (xr, σr) → RN G M_X12_drift 401 [some (.ref v0), none, some (.int v2), none, none, none, none, none, some (.int v8), some (.int v9), some (.long v10), none, some (.long v12), none, some (.int v14)] [] σ (.inl (some (.int xr))) σr := by
  intro n
  induction n with
  | zero =>
    intro v12 v14 h
    exact none_el h
  | succ n ih =>
    intro v12 v14 h
    rw [b_X12_drift_401] at h
    refine RN_iload (pc := 401) (i := 14) (by decide +kernel) rfl ?_
    refine RN_iload (pc := 403) (i := 9) (by decide +kernel) rfl ?_
    refine RN_icmp_ge (pc := 405) (off := 71) (tgt := 476) (by decide +kernel) (by decide) (fun c126 => ?_) (fun c126 => ?_)
    · replace h := it_t c126 h
      exact RN_weak (l := [none, none, none, none, none, none, none, none, some (.int v8), none, some (.long v10), none, some (.long v12)]) (And.intro rfl (And.intro rfl (And.intro rfl trivial))) (tb_X12_drift_476 n v8 v10 v12 σ h)
    · replace h := it_f c126 h
      refine RN_aload_n (pc := 408) (k := 0) (by decide +kernel) rfl rfl ?_
      obtain ⟨c128, h⟩ := ck_el h
      obtain ⟨c129, h⟩ := ck_el h
      refine RN_getR (pc := 409) (idx := 116) (ci := 11) (k := 48) (by decide +kernel) lf_RX12_116 rfl c128 c129 ?_
      obtain ⟨r130, er130, h⟩ := nm_el h
      refine RN_nmR er130 ?_
      refine RN_iload (pc := 412) (i := 14) (by decide +kernel) rfl ?_
      obtain ⟨c131, h⟩ := ck_el h
      refine RN_lald (pc := 414) (by decide +kernel) c131 ?_
      refine RN_lload (pc := 415) (i := 10) (by decide +kernel) rfl ?_
      refine RN_iload (pc := 417) (i := 8) (by decide +kernel) rfl ?_
      refine RN_i2l (pc := 419) (by decide +kernel) ?_
      refine RN_iload (pc := 420) (i := 14) (by decide +kernel) rfl ?_
      refine RN_i2l (pc := 422) (by decide +kernel) ?_
      refine RN_iload (pc := 423) (i := 8) (by decide +kernel) rfl ?_
      refine RN_i2l (pc := 425) (by decide +kernel) ?_
      refine RN_iload_n (pc := 426) (k := 2) (by decide +kernel) rfl rfl ?_
      obtain ⟨x133, f132, h⟩ := bp_el h
      refine RN_callS (M := M_X12_drift) (pc := 427) (idx := 212) (as := [.long (v14.toInt64), .long (v8.toInt64), .int v2]) (st := [.long (v8.toInt64), .long v10, .long (gJ σ r130 v14.toNatClampNeg)]) (t_X12_times f132) (by decide +kernel) lk_RX12_212 rfl (Nat.le_of_ble_eq_true rfl) ⟨Nat.le_of_ble_eq_true rfl, Nat.le_of_ble_eq_true rfl⟩ rfl ?_
      show RN G M_X12_drift 430 [some (.ref v0), none, some (.int v2), none, none, none, none, none, some (.int v8), some (.int v9), some (.long v10), none, some (.long v12), none, some (.int v14)] [.long x133, .long (v8.toInt64), .long v10, .long (gJ σ r130 v14.toNatClampNeg)] σ _ _
      refine RN_lmul (pc := 430) (by decide +kernel) ?_
      refine RN_iload (pc := 431) (i := 14) (by decide +kernel) rfl ?_
      refine RN_i2l (pc := 433) (by decide +kernel) ?_
      refine RN_lsub (pc := 434) (by decide +kernel) ?_
      refine RN_lmul (pc := 435) (by decide +kernel) ?_
      refine RN_lsub (pc := 436) (by decide +kernel) ?_
      obtain ⟨x134, ex134, h⟩ := nm_el h
      refine RN_nmJ ex134 ?_
      refine RN_lstore (pc := 437) (i := 15) (ls2 := [some (.ref v0), none, some (.int v2), none, none, none, none, none, some (.int v8), some (.int v9), some (.long v10), none, some (.long v12), none, some (.int v14), some (.long x134), none]) (by decide +kernel) (by decide) rfl ?_
      refine RN_aload_n (pc := 439) (k := 0) (by decide +kernel) rfl rfl ?_
      refine RN_getR (pc := 440) (idx := 116) (ci := 11) (k := 48) (by decide +kernel) lf_RX12_116 rfl c128 c129 ?_
      obtain ⟨r135, er135, h⟩ := nm_el h
      refine RN_nmR er135 ?_
      refine RN_iload (pc := 443) (i := 14) (by decide +kernel) rfl ?_
      obtain ⟨c136, h⟩ := ck_el h
      refine RN_lald (pc := 445) (by decide +kernel) c136 ?_
      refine RN_ldc2 (pc := 446) (idx := 194) (v := -1099511627776) (by decide +kernel) kc_RX12_194 ?_
      refine RN_lc_le (pc := 449) (off := 16) (tgt := 466) (by decide +kernel) (by decide +kernel) (by decide) (fun c137 => ?_) (fun c137 => ?_)
      · replace h := it_t c137 h
        exact RN_weak (l := [some (.ref v0), none, some (.int v2), none, none, none, none, none, some (.int v8), some (.int v9), some (.long v10), none, some (.long v12), none, some (.int v14)]) (And.intro rfl (And.intro rfl (And.intro rfl (And.intro rfl (And.intro rfl (And.intro rfl (And.intro rfl trivial))))))) (tb_X12_drift_466 n v0 v2 v8 v9 v10 v12 v14 σ _ (fun c12 c14 h => ih c12 c14 h) h)
      · replace h := it_f c137 h
        refine RN_lload (pc := 453) (i := 15) (by decide +kernel) rfl ?_
        refine RN_lload (pc := 455) (i := 12) (by decide +kernel) rfl ?_
        refine RN_lc_le (pc := 457) (off := 8) (tgt := 466) (by decide +kernel) (by decide +kernel) (by decide) (fun c139 => ?_) (fun c139 => ?_)
        · replace h := it_t c139 h
          exact RN_weak (l := [some (.ref v0), none, some (.int v2), none, none, none, none, none, some (.int v8), some (.int v9), some (.long v10), none, some (.long v12), none, some (.int v14)]) (And.intro rfl (And.intro rfl (And.intro rfl (And.intro rfl (And.intro rfl (And.intro rfl (And.intro rfl trivial))))))) (tb_X12_drift_466 n v0 v2 v8 v9 v10 v12 v14 σ _ (fun c12 c14 h => ih c12 c14 h) h)
        · replace h := it_f c139 h
          refine RN_lload (pc := 461) (i := 15) (by decide +kernel) rfl ?_
          refine RN_goto (pc := 463) (off := 5) (tgt := 468) (by decide +kernel) (by decide) ?_
          exact RN_weak (l := [some (.ref v0), none, some (.int v2), none, none, none, none, none, some (.int v8), some (.int v9), some (.long v10), none, none, none, some (.int v14)]) (And.intro rfl (And.intro rfl (And.intro rfl (And.intro rfl (And.intro rfl (And.intro rfl trivial)))))) (tb_X12_drift_468 n v0 v2 v8 v9 v10 v14 x134 σ _ (fun c12 c14 h => ih c12 c14 h) h)
def b_X12_drift_393 (n : Nat) (v0 : Nat) (v2 : Int32) (v8 : Int32) (v9 : Int32) (v10 : Int64) (σ : Sg) : Option (Int32 × Sg) :=
  b_X12_drift_401 n v0 v2 v8 v9 v10 (-1099511627776 : Int64) (0 : Int32) σ
set_option maxRecDepth 20000 in
theorem tb_X12_drift_393 {G : Gl} {xr : Int32} {σr : Sg} (n : Nat) (v0 : Nat) (v2 : Int32) (v8 : Int32) (v9 : Int32) (v10 : Int64) (σ : Sg) (h : b_X12_drift_393 n v0 v2 v8 v9 v10 σ = some (xr, σr)) : RN G M_X12_drift 393 [some (.ref v0), none, some (.int v2), none, none, none, none, none, some (.int v8), some (.int v9), some (.long v10)] [] σ (.inl (some (.int xr))) σr := by
  unfold b_X12_drift_393 at h
  refine RN_ldc2 (pc := 393) (idx := 194) (v := -1099511627776) (by decide +kernel) kc_RX12_194 ?_
  refine RN_lstore (pc := 396) (i := 12) (ls2 := [some (.ref v0), none, some (.int v2), none, none, none, none, none, some (.int v8), some (.int v9), some (.long v10), none, some (.long (-1099511627776 : Int64)), none]) (by decide +kernel) (by decide) rfl ?_
  refine RN_iconst (pc := 398) (n := 0) (v := 0) (by decide +kernel) (by decide) ?_
  refine RN_istore (pc := 399) (i := 14) (ls2 := [some (.ref v0), none, some (.int v2), none, none, none, none, none, some (.int v8), some (.int v9), some (.long v10), none, some (.long (-1099511627776 : Int64)), none, some (.int (0 : Int32))]) (by decide +kernel) (by decide) rfl ?_
  exact RN_weak (l := [some (.ref v0), none, some (.int v2), none, none, none, none, none, some (.int v8), some (.int v9), some (.long v10), none, some (.long (-1099511627776 : Int64)), none, some (.int (0 : Int32))]) (And.intro rfl (And.intro rfl (And.intro rfl (And.intro rfl (And.intro rfl (And.intro rfl (And.intro rfl trivial))))))) (tb_X12_drift_401 v0 v2 v8 v9 v10 σ n (-1099511627776 : Int64) (0 : Int32) h)
def b_X12_drift_387 (k196 : Int32 → Sg → Option (Int32 × Sg)) (n : Nat) (v0 : Nat) (v2 : Int32) (v3 : Int32) (v8 : Int32) (v9 : Int32) (v10 : Int64) (v12 : Int32) (σ : Sg) : Option (Int32 × Sg) :=
  nm (v12 + (1 : Int32)) fun x143 =>
  k196 x143 σ
set_option maxRecDepth 20000 in
theorem tb_X12_drift_387 {G : Gl} {xr : Int32} {σr : Sg} (n : Nat) (v0 : Nat) (v2 : Int32) (v3 : Int32) (v8 : Int32) (v9 : Int32) (v10 : Int64) (v12 : Int32) (σ : Sg) (k196 : Int32 → Sg → Option (Int32 × Sg)) (hk196 : ∀ (c12 : Int32) (τ : Sg), k196 c12 τ = some (xr, σr) → RN G M_X12_drift 196 [some (.ref v0), none, some (.int v2), some (.int v3), none, none, none, none, some (.int v8), some (.int v9), some (.long v10), none, some (.int c12)] [] τ (.inl (some (.int xr))) σr) (h : b_X12_drift_387 k196 n v0 v2 v3 v8 v9 v10 v12 σ = some (xr, σr)) : RN G M_X12_drift 387 [some (.ref v0), none, some (.int v2), some (.int v3), none, none, none, none, some (.int v8), some (.int v9), some (.long v10), none, some (.int v12)] [] σ (.inl (some (.int xr))) σr := by
  unfold b_X12_drift_387 at h
  obtain ⟨x143, ex143, h⟩ := nm_el h
  refine RN_iinc (pc := 387) (i := 12) (n := 1) (v := x143) (ls2 := [some (.ref v0), none, some (.int v2), some (.int v3), none, none, none, none, some (.int v8), some (.int v9), some (.long v10), none, some (.int x143)]) (by decide +kernel) rfl (by rw [ex143]; rfl) (by decide) rfl ?_
  refine RN_goto (pc := 390) (off := -194) (tgt := 196) (by decide +kernel) (by decide) ?_
  exact RN_weak (l := [some (.ref v0), none, some (.int v2), some (.int v3), none, none, none, none, some (.int v8), some (.int v9), some (.long v10), none, some (.int x143)]) (And.intro rfl (And.intro rfl (And.intro rfl (And.intro rfl (And.intro rfl (And.intro rfl (And.intro rfl trivial))))))) (hk196 x143 σ h)
def b_X12_drift_360 (k196 : Int32 → Sg → Option (Int32 × Sg)) : Nat → Nat → Int32 → Int32 → Int32 → Int32 → Int64 → Int32 → Int32 → Sg → Option (Int32 × Sg)
  | 0, _, _, _, _, _, _, _, _, _ => none
  | n + 1, v0, v2, v3, v8, v9, v10, v12, v13, σ =>
  if v9 ≤ v13 then (
    b_X12_drift_387 k196 n v0 v2 v3 v8 v9 v10 v12 σ)
  else (
    ck (okO σ v0 11) <|
    ck (¬ gR σ v0 48 = 0) <|
    nm (gR σ v0 48) fun r146 =>
    ck (¬ gR σ v0 49 = 0) <|
    nm (gR σ v0 49) fun r148 =>
    ck (okA σ r148 14 v13) <|
    ck (okW σ r146 14 v13) <|
    nm (pJ σ r146 v13.toNatClampNeg (gJ σ r148 v13.toNatClampNeg)) fun σ151 =>
    nm (v13 + (1 : Int32)) fun x152 =>
    b_X12_drift_360 k196 n v0 v2 v3 v8 v9 v10 v12 x152 σ151)
set_option maxRecDepth 20000 in
theorem tb_X12_drift_360 {G : Gl} {xr : Int32} {σr : Sg} (v0 : Nat) (v2 : Int32) (v3 : Int32) (v8 : Int32) (v9 : Int32) (v10 : Int64) (v12 : Int32) (k196 : Int32 → Sg → Option (Int32 × Sg)) (hk196 : ∀ (c12 : Int32) (τ : Sg), k196 c12 τ = some (xr, σr) → RN G M_X12_drift 196 [some (.ref v0), none, some (.int v2), some (.int v3), none, none, none, none, some (.int v8), some (.int v9), some (.long v10), none, some (.int c12)] [] τ (.inl (some (.int xr))) σr) : ∀ (n : Nat) (v13 : Int32) (σ : Sg), b_X12_drift_360 k196 n v0 v2 v3 v8 v9 v10 v12 v13 σ = some (xr, σr) → RN G M_X12_drift 360 [some (.ref v0), none, some (.int v2), some (.int v3), none, none, none, none, some (.int v8), some (.int v9), some (.long v10), none, some (.int v12), some (.int v13)] [] σ (.inl (some (.int xr))) σr := by
  intro n
  induction n with
  | zero =>
    intro v13 σ h
    exact none_el h
  | succ n ih =>
    intro v13 σ h
    rw [b_X12_drift_360] at h
    refine RN_iload (pc := 360) (i := 13) (by decide +kernel) rfl ?_
    refine RN_iload (pc := 362) (i := 9) (by decide +kernel) rfl ?_
    refine RN_icmp_ge (pc := 364) (off := 23) (tgt := 387) (by decide +kernel) (by decide) (fun c142 => ?_) (fun c142 => ?_)
    · replace h := it_t c142 h
      exact RN_weak (l := [some (.ref v0), none, some (.int v2), some (.int v3), none, none, none, none, some (.int v8), some (.int v9), some (.long v10), none, some (.int v12)]) (And.intro rfl (And.intro rfl (And.intro rfl (And.intro rfl (And.intro rfl (And.intro rfl (And.intro rfl trivial))))))) (tb_X12_drift_387 n v0 v2 v3 v8 v9 v10 v12 σ k196 hk196 h)
    · replace h := it_f c142 h
      refine RN_aload_n (pc := 367) (k := 0) (by decide +kernel) rfl rfl ?_
      obtain ⟨c144, h⟩ := ck_el h
      obtain ⟨c145, h⟩ := ck_el h
      refine RN_getR (pc := 368) (idx := 116) (ci := 11) (k := 48) (by decide +kernel) lf_RX12_116 rfl c144 c145 ?_
      obtain ⟨r146, er146, h⟩ := nm_el h
      refine RN_nmR er146 ?_
      refine RN_iload (pc := 371) (i := 13) (by decide +kernel) rfl ?_
      refine RN_aload_n (pc := 373) (k := 0) (by decide +kernel) rfl rfl ?_
      obtain ⟨c147, h⟩ := ck_el h
      refine RN_getR (pc := 374) (idx := 119) (ci := 11) (k := 49) (by decide +kernel) lf_RX12_119 rfl c144 c147 ?_
      obtain ⟨r148, er148, h⟩ := nm_el h
      refine RN_nmR er148 ?_
      refine RN_iload (pc := 377) (i := 13) (by decide +kernel) rfl ?_
      obtain ⟨c149, h⟩ := ck_el h
      refine RN_lald (pc := 379) (by decide +kernel) c149 ?_
      obtain ⟨c150, h⟩ := ck_el h
      refine RN_last (pc := 380) (by decide +kernel) c150 ?_
      obtain ⟨σ151, eσ151, h⟩ := nm_el h
      refine RN_nmS eσ151 ?_
      obtain ⟨x152, ex152, h⟩ := nm_el h
      refine RN_iinc (pc := 381) (i := 13) (n := 1) (v := x152) (ls2 := [some (.ref v0), none, some (.int v2), some (.int v3), none, none, none, none, some (.int v8), some (.int v9), some (.long v10), none, some (.int v12), some (.int x152)]) (by decide +kernel) rfl (by rw [ex152]; rfl) (by decide) rfl ?_
      refine RN_goto (pc := 384) (off := -24) (tgt := 360) (by decide +kernel) (by decide) ?_
      exact RN_weak (l := [some (.ref v0), none, some (.int v2), some (.int v3), none, none, none, none, some (.int v8), some (.int v9), some (.long v10), none, some (.int v12), some (.int x152)]) (And.intro rfl (And.intro rfl (And.intro rfl (And.intro rfl (And.intro rfl (And.intro rfl (And.intro rfl (And.intro rfl trivial)))))))) (ih x152 σ151 h)
def b_X12_drift_357 (k196 : Int32 → Sg → Option (Int32 × Sg)) (n : Nat) (v0 : Nat) (v2 : Int32) (v3 : Int32) (v8 : Int32) (v9 : Int32) (v10 : Int64) (v12 : Int32) (σ : Sg) : Option (Int32 × Sg) :=
  b_X12_drift_360 k196 n v0 v2 v3 v8 v9 v10 v12 (0 : Int32) σ
set_option maxRecDepth 20000 in
theorem tb_X12_drift_357 {G : Gl} {xr : Int32} {σr : Sg} (n : Nat) (v0 : Nat) (v2 : Int32) (v3 : Int32) (v8 : Int32) (v9 : Int32) (v10 : Int64) (v12 : Int32) (σ : Sg) (k196 : Int32 → Sg → Option (Int32 × Sg)) (hk196 : ∀ (c12 : Int32) (τ : Sg), k196 c12 τ = some (xr, σr) → RN G M_X12_drift 196 [some (.ref v0), none, some (.int v2), some (.int v3), none, none, none, none, some (.int v8), some (.int v9), some (.long v10), none, some (.int c12)] [] τ (.inl (some (.int xr))) σr) (h : b_X12_drift_357 k196 n v0 v2 v3 v8 v9 v10 v12 σ = some (xr, σr)) : RN G M_X12_drift 357 [some (.ref v0), none, some (.int v2), some (.int v3), none, none, none, none, some (.int v8), some (.int v9), some (.long v10), none, some (.int v12)] [] σ (.inl (some (.int xr))) σr := by
  unfold b_X12_drift_357 at h
  refine RN_iconst (pc := 357) (n := 0) (v := 0) (by decide +kernel) (by decide) ?_
  refine RN_istore (pc := 358) (i := 13) (ls2 := [some (.ref v0), none, some (.int v2), some (.int v3), none, none, none, none, some (.int v8), some (.int v9), some (.long v10), none, some (.int v12), some (.int (0 : Int32))]) (by decide +kernel) (by decide) rfl ?_
  exact RN_weak (l := [some (.ref v0), none, some (.int v2), some (.int v3), none, none, none, none, some (.int v8), some (.int v9), some (.long v10), none, some (.int v12), some (.int (0 : Int32))]) (And.intro rfl (And.intro rfl (And.intro rfl (And.intro rfl (And.intro rfl (And.intro rfl (And.intro rfl (And.intro rfl trivial)))))))) (tb_X12_drift_360 v0 v2 v3 v8 v9 v10 v12 k196 hk196 n (0 : Int32) σ h)
def b_X12_drift_351 (k196 : Int32 → Sg → Option (Int32 × Sg)) (k231 : Int32 → Sg → Option (Int32 × Sg)) (n : Nat) (v0 : Nat) (v2 : Int32) (v3 : Int32) (v8 : Int32) (v9 : Int32) (v10 : Int64) (v12 : Int32) (v13 : Int32) (σ : Sg) : Option (Int32 × Sg) :=
  nm (v13 + (1 : Int32)) fun x154 =>
  k231 x154 σ
set_option maxRecDepth 20000 in
theorem tb_X12_drift_351 {G : Gl} {xr : Int32} {σr : Sg} (n : Nat) (v0 : Nat) (v2 : Int32) (v3 : Int32) (v8 : Int32) (v9 : Int32) (v10 : Int64) (v12 : Int32) (v13 : Int32) (σ : Sg) (k196 : Int32 → Sg → Option (Int32 × Sg)) (hk196 : ∀ (c12 : Int32) (τ : Sg), k196 c12 τ = some (xr, σr) → RN G M_X12_drift 196 [some (.ref v0), none, some (.int v2), some (.int v3), none, none, none, none, some (.int v8), some (.int v9), some (.long v10), none, some (.int c12)] [] τ (.inl (some (.int xr))) σr) (k231 : Int32 → Sg → Option (Int32 × Sg)) (hk231 : ∀ (c13 : Int32) (τ : Sg), k231 c13 τ = some (xr, σr) → RN G M_X12_drift 231 [some (.ref v0), none, some (.int v2), some (.int v3), none, none, none, none, some (.int v8), some (.int v9), some (.long v10), none, some (.int v12), some (.int c13)] [] τ (.inl (some (.int xr))) σr) (h : b_X12_drift_351 k196 k231 n v0 v2 v3 v8 v9 v10 v12 v13 σ = some (xr, σr)) : RN G M_X12_drift 351 [some (.ref v0), none, some (.int v2), some (.int v3), none, none, none, none, some (.int v8), some (.int v9), some (.long v10), none, some (.int v12), some (.int v13)] [] σ (.inl (some (.int xr))) σr := by
  unfold b_X12_drift_351 at h
  obtain ⟨x154, ex154, h⟩ := nm_el h
  refine RN_iinc (pc := 351) (i := 13) (n := 1) (v := x154) (ls2 := [some (.ref v0), none, some (.int v2), some (.int v3), none, none, none, none, some (.int v8), some (.int v9), some (.long v10), none, some (.int v12), some (.int x154)]) (by decide +kernel) rfl (by rw [ex154]; rfl) (by decide) rfl ?_
  refine RN_goto (pc := 354) (off := -123) (tgt := 231) (by decide +kernel) (by decide) ?_
  exact RN_weak (l := [some (.ref v0), none, some (.int v2), some (.int v3), none, none, none, none, some (.int v8), some (.int v9), some (.long v10), none, some (.int v12), some (.int x154)]) (And.intro rfl (And.intro rfl (And.intro rfl (And.intro rfl (And.intro rfl (And.intro rfl (And.intro rfl (And.intro rfl trivial)))))))) (hk231 x154 σ h)
def b_X12_drift_344 (k196 : Int32 → Sg → Option (Int32 × Sg)) (k231 : Int32 → Sg → Option (Int32 × Sg)) (k241 : Int32 → Sg → Option (Int32 × Sg)) (n : Nat) (v0 : Nat) (v2 : Int32) (v3 : Int32) (v8 : Int32) (v9 : Int32) (v10 : Int64) (v12 : Int32) (v13 : Int32) (v14 : Int32) (s0 : Int64) (s1 : Int32) (s2 : Nat) (σ : Sg) : Option (Int32 × Sg) :=
  ck (okW σ s2 14 s1) <|
  nm (pJ σ s2 s1.toNatClampNeg s0) fun σ178 =>
  nm (v14 + (1 : Int32)) fun x179 =>
  k241 x179 σ178
set_option maxRecDepth 20000 in
theorem tb_X12_drift_344 {G : Gl} {xr : Int32} {σr : Sg} (n : Nat) (v0 : Nat) (v2 : Int32) (v3 : Int32) (v8 : Int32) (v9 : Int32) (v10 : Int64) (v12 : Int32) (v13 : Int32) (v14 : Int32) (s0 : Int64) (s1 : Int32) (s2 : Nat) (σ : Sg) (k196 : Int32 → Sg → Option (Int32 × Sg)) (hk196 : ∀ (c12 : Int32) (τ : Sg), k196 c12 τ = some (xr, σr) → RN G M_X12_drift 196 [some (.ref v0), none, some (.int v2), some (.int v3), none, none, none, none, some (.int v8), some (.int v9), some (.long v10), none, some (.int c12)] [] τ (.inl (some (.int xr))) σr) (k231 : Int32 → Sg → Option (Int32 × Sg)) (hk231 : ∀ (c13 : Int32) (τ : Sg), k231 c13 τ = some (xr, σr) → RN G M_X12_drift 231 [some (.ref v0), none, some (.int v2), some (.int v3), none, none, none, none, some (.int v8), some (.int v9), some (.long v10), none, some (.int v12), some (.int c13)] [] τ (.inl (some (.int xr))) σr) (k241 : Int32 → Sg → Option (Int32 × Sg)) (hk241 : ∀ (c14 : Int32) (τ : Sg), k241 c14 τ = some (xr, σr) → RN G M_X12_drift 241 [some (.ref v0), none, some (.int v2), some (.int v3), none, none, none, none, some (.int v8), some (.int v9), some (.long v10), none, some (.int v12), some (.int v13), some (.int c14)] [] τ (.inl (some (.int xr))) σr) (h : b_X12_drift_344 k196 k231 k241 n v0 v2 v3 v8 v9 v10 v12 v13 v14 s0 s1 s2 σ = some (xr, σr)) : RN G M_X12_drift 344 [some (.ref v0), none, some (.int v2), some (.int v3), none, none, none, none, some (.int v8), some (.int v9), some (.long v10), none, some (.int v12), some (.int v13), some (.int v14)] [.long s0, .int s1, .ref s2] σ (.inl (some (.int xr))) σr := by
  unfold b_X12_drift_344 at h
  obtain ⟨c177, h⟩ := ck_el h
  refine RN_last (pc := 344) (by decide +kernel) c177 ?_
  obtain ⟨σ178, eσ178, h⟩ := nm_el h
  refine RN_nmS eσ178 ?_
  obtain ⟨x179, ex179, h⟩ := nm_el h
  refine RN_iinc (pc := 345) (i := 14) (n := 1) (v := x179) (ls2 := [some (.ref v0), none, some (.int v2), some (.int v3), none, none, none, none, some (.int v8), some (.int v9), some (.long v10), none, some (.int v12), some (.int v13), some (.int x179)]) (by decide +kernel) rfl (by rw [ex179]; rfl) (by decide) rfl ?_
  refine RN_goto (pc := 348) (off := -107) (tgt := 241) (by decide +kernel) (by decide) ?_
  exact RN_weak (l := [some (.ref v0), none, some (.int v2), some (.int v3), none, none, none, none, some (.int v8), some (.int v9), some (.long v10), none, some (.int v12), some (.int v13), some (.int x179)]) (And.intro rfl (And.intro rfl (And.intro rfl (And.intro rfl (And.intro rfl (And.intro rfl (And.intro rfl (And.intro rfl (And.intro rfl trivial))))))))) (hk241 x179 σ178 h)
def b_X12_drift_337 (k196 : Int32 → Sg → Option (Int32 × Sg)) (k231 : Int32 → Sg → Option (Int32 × Sg)) (k241 : Int32 → Sg → Option (Int32 × Sg)) (n : Nat) (v0 : Nat) (v2 : Int32) (v3 : Int32) (v8 : Int32) (v9 : Int32) (v10 : Int64) (v12 : Int32) (v13 : Int32) (v14 : Int32) (v17 : Int32) (s0 : Int32) (s1 : Nat) (σ : Sg) : Option (Int32 × Sg) :=
  ck (okO σ v0 11) <|
  ck (¬ gR σ v0 49 = 0) <|
  nm (gR σ v0 49) fun r175 =>
  ck (okA σ r175 14 v17) <|
  b_X12_drift_344 k196 k231 k241 n v0 v2 v3 v8 v9 v10 v12 v13 v14 (gJ σ r175 v17.toNatClampNeg) s0 s1 σ
set_option maxRecDepth 20000 in
theorem tb_X12_drift_337 {G : Gl} {xr : Int32} {σr : Sg} (n : Nat) (v0 : Nat) (v2 : Int32) (v3 : Int32) (v8 : Int32) (v9 : Int32) (v10 : Int64) (v12 : Int32) (v13 : Int32) (v14 : Int32) (v17 : Int32) (s0 : Int32) (s1 : Nat) (σ : Sg) (k196 : Int32 → Sg → Option (Int32 × Sg)) (hk196 : ∀ (c12 : Int32) (τ : Sg), k196 c12 τ = some (xr, σr) → RN G M_X12_drift 196 [some (.ref v0), none, some (.int v2), some (.int v3), none, none, none, none, some (.int v8), some (.int v9), some (.long v10), none, some (.int c12)] [] τ (.inl (some (.int xr))) σr) (k231 : Int32 → Sg → Option (Int32 × Sg)) (hk231 : ∀ (c13 : Int32) (τ : Sg), k231 c13 τ = some (xr, σr) → RN G M_X12_drift 231 [some (.ref v0), none, some (.int v2), some (.int v3), none, none, none, none, some (.int v8), some (.int v9), some (.long v10), none, some (.int v12), some (.int c13)] [] τ (.inl (some (.int xr))) σr) (k241 : Int32 → Sg → Option (Int32 × Sg)) (hk241 : ∀ (c14 : Int32) (τ : Sg), k241 c14 τ = some (xr, σr) → RN G M_X12_drift 241 [some (.ref v0), none, some (.int v2), some (.int v3), none, none, none, none, some (.int v8), some (.int v9), some (.long v10), none, some (.int v12), some (.int v13), some (.int c14)] [] τ (.inl (some (.int xr))) σr) (h : b_X12_drift_337 k196 k231 k241 n v0 v2 v3 v8 v9 v10 v12 v13 v14 v17 s0 s1 σ = some (xr, σr)) : RN G M_X12_drift 337 [some (.ref v0), none, some (.int v2), some (.int v3), none, none, none, none, some (.int v8), some (.int v9), some (.long v10), none, some (.int v12), some (.int v13), some (.int v14), none, none, some (.int v17)] [.int s0, .ref s1] σ (.inl (some (.int xr))) σr := by
  unfold b_X12_drift_337 at h
  refine RN_aload_n (pc := 337) (k := 0) (by decide +kernel) rfl rfl ?_
  obtain ⟨c173, h⟩ := ck_el h
  obtain ⟨c174, h⟩ := ck_el h
  refine RN_getR (pc := 338) (idx := 119) (ci := 11) (k := 49) (by decide +kernel) lf_RX12_119 rfl c173 c174 ?_
  obtain ⟨r175, er175, h⟩ := nm_el h
  refine RN_nmR er175 ?_
  refine RN_iload (pc := 341) (i := 17) (by decide +kernel) rfl ?_
  obtain ⟨c176, h⟩ := ck_el h
  refine RN_lald (pc := 343) (by decide +kernel) c176 ?_
  exact RN_weak (l := [some (.ref v0), none, some (.int v2), some (.int v3), none, none, none, none, some (.int v8), some (.int v9), some (.long v10), none, some (.int v12), some (.int v13), some (.int v14)]) (And.intro rfl (And.intro rfl (And.intro rfl (And.intro rfl (And.intro rfl (And.intro rfl (And.intro rfl (And.intro rfl (And.intro rfl trivial))))))))) (tb_X12_drift_344 n v0 v2 v3 v8 v9 v10 v12 v13 v14 (gJ σ r175 v17.toNatClampNeg) s0 s1 σ k196 hk196 k231 hk231 k241 hk241 h)
def b_X12_drift_241 (k196 : Int32 → Sg → Option (Int32 × Sg)) (k231 : Int32 → Sg → Option (Int32 × Sg)) : Nat → Nat → Int32 → Int32 → Int32 → Int32 → Int64 → Int32 → Int32 → Int32 → Sg → Option (Int32 × Sg)
  | 0, _, _, _, _, _, _, _, _, _, _ => none
  | n + 1, v0, v2, v3, v8, v9, v10, v12, v13, v14, σ =>
  if v9 ≤ v14 then (
    b_X12_drift_351 k196 k231 n v0 v2 v3 v8 v9 v10 v12 v13 σ)
  else (
    ck (okO σ v0 11) <|
    ck (¬ gR σ v0 48 = 0) <|
    nm (gR σ v0 48) fun r157 =>
    ck (okA σ r157 14 v13) <|
    if (gJ σ r157 v13.toNatClampNeg) ≤ (-1099511627776 : Int64) then (
      b_X12_drift_351 k196 k231 n v0 v2 v3 v8 v9 v10 v12 v13 σ)
    else (
      nm (gR σ v0 48) fun r160 =>
      ck (okA σ r160 14 v13) <|
      bp (f_X12_times (v14.toInt64) (v8.toInt64) v2) fun x163 =>
      nm ((gJ σ r160 v13.toNatClampNeg) + (v10 * (((v8.toInt64) * x163) - (v14.toInt64)))) fun x164 =>
      ck (¬ v9 = 0) <|
      nm ((v13 + v14) - (v13 + v14) / v9 * v9) fun x166 =>
      ck (¬ gR σ v0 49 = 0) <|
      nm (gR σ v0 49) fun r168 =>
      ck (¬ gR σ v0 50 = 0) <|
      nm (gR σ v0 50) fun r170 =>
      ck (okA σ r170 15 v14) <|
      if (gI σ r170 v14.toNatClampNeg) = 0 then (
        b_X12_drift_337 k196 k231 (fun c14 τ => b_X12_drift_241 k196 k231 n v0 v2 v3 v8 v9 v10 v12 v13 c14 τ) n v0 v2 v3 v8 v9 v10 v12 v13 v14 x166 x166 r168 σ)
      else (
        nm (gR σ v0 49) fun r180 =>
        ck (okA σ r180 14 x166) <|
        if x164 ≤ (gJ σ r180 x166.toNatClampNeg) then (
          b_X12_drift_337 k196 k231 (fun c14 τ => b_X12_drift_241 k196 k231 n v0 v2 v3 v8 v9 v10 v12 v13 c14 τ) n v0 v2 v3 v8 v9 v10 v12 v13 v14 x166 x166 r168 σ)
        else (
          b_X12_drift_344 k196 k231 (fun c14 τ => b_X12_drift_241 k196 k231 n v0 v2 v3 v8 v9 v10 v12 v13 c14 τ) n v0 v2 v3 v8 v9 v10 v12 v13 v14 x164 x166 r168 σ))))
set_option maxRecDepth 20000 in
theorem tb_X12_drift_241 {G : Gl} {xr : Int32} {σr : Sg} (v0 : Nat) (v2 : Int32) (v3 : Int32) (v8 : Int32) (v9 : Int32) (v10 : Int64) (v12 : Int32) (v13 : Int32) (k196 : Int32 → Sg → Option (Int32 × Sg)) (hk196 : ∀ (c12 : Int32) (τ : Sg), k196 c12 τ = some (xr, σr) → RN G M_X12_drift 196 [some (.ref v0), none, some (.int v2), some (.int v3), none, none, none, none, some (.int v8), some (.int v9), some (.long v10), none, some (.int c12)] [] τ (.inl (some (.int xr))) σr) (k231 : Int32 → Sg → Option (Int32 × Sg)) (hk231 : ∀ (c13 : Int32) (τ : Sg), k231 c13 τ = some (xr, σr) → RN G M_X12_drift 231 [some (.ref v0), none, some (.int v2), some (.int v3), none, none, none, none, some (.int v8), some (.int v9), some (.long v10), none, some (.int v12), some (.int c13)] [] τ (.inl (some (.int xr))) σr) : ∀ (n : Nat) (v14 : Int32) (σ : Sg), b_X12_drift_241 k196 k231 n v0 v2 v3 v8 v9 v10 v12 v13 v14 σ = some (xr, σr) → RN G M_X12_drift 241 [some (.ref v0), none, some (.int v2), some (.int v3), none, none, none, none, some (.int v8), some (.int v9), some (.long v10), none, some (.int v12), some (.int v13), some (.int v14)] [] σ (.inl (some (.int xr))) σr := by
  intro n
  induction n with
  | zero =>
    intro v14 σ h
    exact none_el h
  | succ n ih =>
    intro v14 σ h
    rw [b_X12_drift_241] at h
    refine RN_iload (pc := 241) (i := 14) (by decide +kernel) rfl ?_
    refine RN_iload (pc := 243) (i := 9) (by decide +kernel) rfl ?_
    refine RN_icmp_ge (pc := 245) (off := 106) (tgt := 351) (by decide +kernel) (by decide) (fun c153 => ?_) (fun c153 => ?_)
    · replace h := it_t c153 h
      exact RN_weak (l := [some (.ref v0), none, some (.int v2), some (.int v3), none, none, none, none, some (.int v8), some (.int v9), some (.long v10), none, some (.int v12), some (.int v13)]) (And.intro rfl (And.intro rfl (And.intro rfl (And.intro rfl (And.intro rfl (And.intro rfl (And.intro rfl (And.intro rfl trivial)))))))) (tb_X12_drift_351 n v0 v2 v3 v8 v9 v10 v12 v13 σ k196 hk196 k231 hk231 h)
    · replace h := it_f c153 h
      refine RN_aload_n (pc := 248) (k := 0) (by decide +kernel) rfl rfl ?_
      obtain ⟨c155, h⟩ := ck_el h
      obtain ⟨c156, h⟩ := ck_el h
      refine RN_getR (pc := 249) (idx := 116) (ci := 11) (k := 48) (by decide +kernel) lf_RX12_116 rfl c155 c156 ?_
      obtain ⟨r157, er157, h⟩ := nm_el h
      refine RN_nmR er157 ?_
      refine RN_iload (pc := 252) (i := 13) (by decide +kernel) rfl ?_
      obtain ⟨c158, h⟩ := ck_el h
      refine RN_lald (pc := 254) (by decide +kernel) c158 ?_
      refine RN_ldc2 (pc := 255) (idx := 194) (v := -1099511627776) (by decide +kernel) kc_RX12_194 ?_
      refine RN_lc_le (pc := 258) (off := 92) (tgt := 351) (by decide +kernel) (by decide +kernel) (by decide) (fun c159 => ?_) (fun c159 => ?_)
      · replace h := it_t c159 h
        exact RN_weak (l := [some (.ref v0), none, some (.int v2), some (.int v3), none, none, none, none, some (.int v8), some (.int v9), some (.long v10), none, some (.int v12), some (.int v13)]) (And.intro rfl (And.intro rfl (And.intro rfl (And.intro rfl (And.intro rfl (And.intro rfl (And.intro rfl (And.intro rfl trivial)))))))) (tb_X12_drift_351 n v0 v2 v3 v8 v9 v10 v12 v13 σ k196 hk196 k231 hk231 h)
      · replace h := it_f c159 h
        refine RN_aload_n (pc := 262) (k := 0) (by decide +kernel) rfl rfl ?_
        refine RN_getR (pc := 263) (idx := 116) (ci := 11) (k := 48) (by decide +kernel) lf_RX12_116 rfl c155 c156 ?_
        obtain ⟨r160, er160, h⟩ := nm_el h
        refine RN_nmR er160 ?_
        refine RN_iload (pc := 266) (i := 13) (by decide +kernel) rfl ?_
        obtain ⟨c161, h⟩ := ck_el h
        refine RN_lald (pc := 268) (by decide +kernel) c161 ?_
        refine RN_lload (pc := 269) (i := 10) (by decide +kernel) rfl ?_
        refine RN_iload (pc := 271) (i := 8) (by decide +kernel) rfl ?_
        refine RN_i2l (pc := 273) (by decide +kernel) ?_
        refine RN_iload (pc := 274) (i := 14) (by decide +kernel) rfl ?_
        refine RN_i2l (pc := 276) (by decide +kernel) ?_
        refine RN_iload (pc := 277) (i := 8) (by decide +kernel) rfl ?_
        refine RN_i2l (pc := 279) (by decide +kernel) ?_
        refine RN_iload_n (pc := 280) (k := 2) (by decide +kernel) rfl rfl ?_
        obtain ⟨x163, f162, h⟩ := bp_el h
        refine RN_callS (M := M_X12_drift) (pc := 281) (idx := 212) (as := [.long (v14.toInt64), .long (v8.toInt64), .int v2]) (st := [.long (v8.toInt64), .long v10, .long (gJ σ r160 v13.toNatClampNeg)]) (t_X12_times f162) (by decide +kernel) lk_RX12_212 rfl (Nat.le_of_ble_eq_true rfl) ⟨Nat.le_of_ble_eq_true rfl, Nat.le_of_ble_eq_true rfl⟩ rfl ?_
        show RN G M_X12_drift 284 [some (.ref v0), none, some (.int v2), some (.int v3), none, none, none, none, some (.int v8), some (.int v9), some (.long v10), none, some (.int v12), some (.int v13), some (.int v14)] [.long x163, .long (v8.toInt64), .long v10, .long (gJ σ r160 v13.toNatClampNeg)] σ _ _
        refine RN_lmul (pc := 284) (by decide +kernel) ?_
        refine RN_iload (pc := 285) (i := 14) (by decide +kernel) rfl ?_
        refine RN_i2l (pc := 287) (by decide +kernel) ?_
        refine RN_lsub (pc := 288) (by decide +kernel) ?_
        refine RN_lmul (pc := 289) (by decide +kernel) ?_
        refine RN_ladd (pc := 290) (by decide +kernel) ?_
        obtain ⟨x164, ex164, h⟩ := nm_el h
        refine RN_nmJ ex164 ?_
        refine RN_lstore (pc := 291) (i := 15) (ls2 := [some (.ref v0), none, some (.int v2), some (.int v3), none, none, none, none, some (.int v8), some (.int v9), some (.long v10), none, some (.int v12), some (.int v13), some (.int v14), some (.long x164), none]) (by decide +kernel) (by decide) rfl ?_
        refine RN_iload (pc := 293) (i := 13) (by decide +kernel) rfl ?_
        refine RN_iload (pc := 295) (i := 14) (by decide +kernel) rfl ?_
        refine RN_iadd (pc := 297) (by decide +kernel) ?_
        refine RN_iload (pc := 298) (i := 9) (by decide +kernel) rfl ?_
        obtain ⟨c165, h⟩ := ck_el h
        refine RN_irem (pc := 300) (by decide +kernel) c165 ?_
        obtain ⟨x166, ex166, h⟩ := nm_el h
        refine RN_nmI ex166 ?_
        refine RN_istore (pc := 301) (i := 17) (ls2 := [some (.ref v0), none, some (.int v2), some (.int v3), none, none, none, none, some (.int v8), some (.int v9), some (.long v10), none, some (.int v12), some (.int v13), some (.int v14), some (.long x164), none, some (.int x166)]) (by decide +kernel) (by decide) rfl ?_
        refine RN_aload_n (pc := 303) (k := 0) (by decide +kernel) rfl rfl ?_
        obtain ⟨c167, h⟩ := ck_el h
        refine RN_getR (pc := 304) (idx := 119) (ci := 11) (k := 49) (by decide +kernel) lf_RX12_119 rfl c155 c167 ?_
        obtain ⟨r168, er168, h⟩ := nm_el h
        refine RN_nmR er168 ?_
        refine RN_iload (pc := 307) (i := 17) (by decide +kernel) rfl ?_
        refine RN_aload_n (pc := 309) (k := 0) (by decide +kernel) rfl rfl ?_
        obtain ⟨c169, h⟩ := ck_el h
        refine RN_getR (pc := 310) (idx := 122) (ci := 11) (k := 50) (by decide +kernel) lf_RX12_122 rfl c155 c169 ?_
        obtain ⟨r170, er170, h⟩ := nm_el h
        refine RN_nmR er170 ?_
        refine RN_iload (pc := 313) (i := 14) (by decide +kernel) rfl ?_
        obtain ⟨c171, h⟩ := ck_el h
        refine RN_zald (pc := 315) (by decide +kernel) c171 ?_
        refine RN_if_eq (pc := 316) (off := 21) (tgt := 337) (by decide +kernel) (by decide) (fun c172 => ?_) (fun c172 => ?_)
        · replace h := it_t c172 h
          exact RN_weak (l := [some (.ref v0), none, some (.int v2), some (.int v3), none, none, none, none, some (.int v8), some (.int v9), some (.long v10), none, some (.int v12), some (.int v13), some (.int v14), none, none, some (.int x166)]) (And.intro rfl (And.intro rfl (And.intro rfl (And.intro rfl (And.intro rfl (And.intro rfl (And.intro rfl (And.intro rfl (And.intro rfl (And.intro rfl trivial)))))))))) (tb_X12_drift_337 n v0 v2 v3 v8 v9 v10 v12 v13 v14 x166 x166 r168 σ k196 hk196 k231 hk231 _ (fun c14 τ h => ih c14 τ h) h)
        · replace h := it_f c172 h
          refine RN_lload (pc := 319) (i := 15) (by decide +kernel) rfl ?_
          refine RN_aload_n (pc := 321) (k := 0) (by decide +kernel) rfl rfl ?_
          refine RN_getR (pc := 322) (idx := 119) (ci := 11) (k := 49) (by decide +kernel) lf_RX12_119 rfl c155 c167 ?_
          obtain ⟨r180, er180, h⟩ := nm_el h
          refine RN_nmR er180 ?_
          refine RN_iload (pc := 325) (i := 17) (by decide +kernel) rfl ?_
          obtain ⟨c181, h⟩ := ck_el h
          refine RN_lald (pc := 327) (by decide +kernel) c181 ?_
          refine RN_lc_le (pc := 328) (off := 8) (tgt := 337) (by decide +kernel) (by decide +kernel) (by decide) (fun c182 => ?_) (fun c182 => ?_)
          · replace h := it_t c182 h
            exact RN_weak (l := [some (.ref v0), none, some (.int v2), some (.int v3), none, none, none, none, some (.int v8), some (.int v9), some (.long v10), none, some (.int v12), some (.int v13), some (.int v14), none, none, some (.int x166)]) (And.intro rfl (And.intro rfl (And.intro rfl (And.intro rfl (And.intro rfl (And.intro rfl (And.intro rfl (And.intro rfl (And.intro rfl (And.intro rfl trivial)))))))))) (tb_X12_drift_337 n v0 v2 v3 v8 v9 v10 v12 v13 v14 x166 x166 r168 σ k196 hk196 k231 hk231 _ (fun c14 τ h => ih c14 τ h) h)
          · replace h := it_f c182 h
            refine RN_lload (pc := 332) (i := 15) (by decide +kernel) rfl ?_
            refine RN_goto (pc := 334) (off := 10) (tgt := 344) (by decide +kernel) (by decide) ?_
            exact RN_weak (l := [some (.ref v0), none, some (.int v2), some (.int v3), none, none, none, none, some (.int v8), some (.int v9), some (.long v10), none, some (.int v12), some (.int v13), some (.int v14)]) (And.intro rfl (And.intro rfl (And.intro rfl (And.intro rfl (And.intro rfl (And.intro rfl (And.intro rfl (And.intro rfl (And.intro rfl trivial))))))))) (tb_X12_drift_344 n v0 v2 v3 v8 v9 v10 v12 v13 v14 x164 x166 r168 σ k196 hk196 k231 hk231 _ (fun c14 τ h => ih c14 τ h) h)
def b_X12_drift_231 (k196 : Int32 → Sg → Option (Int32 × Sg)) : Nat → Nat → Int32 → Int32 → Int32 → Int32 → Int64 → Int32 → Int32 → Sg → Option (Int32 × Sg)
  | 0, _, _, _, _, _, _, _, _, _ => none
  | n + 1, v0, v2, v3, v8, v9, v10, v12, v13, σ =>
  if v9 ≤ v13 then (
    b_X12_drift_357 k196 n v0 v2 v3 v8 v9 v10 v12 σ)
  else (
    b_X12_drift_241 k196 (fun c13 τ => b_X12_drift_231 k196 n v0 v2 v3 v8 v9 v10 v12 c13 τ) n v0 v2 v3 v8 v9 v10 v12 v13 (0 : Int32) σ)
set_option maxRecDepth 20000 in
theorem tb_X12_drift_231 {G : Gl} {xr : Int32} {σr : Sg} (v0 : Nat) (v2 : Int32) (v3 : Int32) (v8 : Int32) (v9 : Int32) (v10 : Int64) (v12 : Int32) (k196 : Int32 → Sg → Option (Int32 × Sg)) (hk196 : ∀ (c12 : Int32) (τ : Sg), k196 c12 τ = some (xr, σr) → RN G M_X12_drift 196 [some (.ref v0), none, some (.int v2), some (.int v3), none, none, none, none, some (.int v8), some (.int v9), some (.long v10), none, some (.int c12)] [] τ (.inl (some (.int xr))) σr) : ∀ (n : Nat) (v13 : Int32) (σ : Sg), b_X12_drift_231 k196 n v0 v2 v3 v8 v9 v10 v12 v13 σ = some (xr, σr) → RN G M_X12_drift 231 [some (.ref v0), none, some (.int v2), some (.int v3), none, none, none, none, some (.int v8), some (.int v9), some (.long v10), none, some (.int v12), some (.int v13)] [] σ (.inl (some (.int xr))) σr := by
  intro n
  induction n with
  | zero =>
    intro v13 σ h
    exact none_el h
  | succ n ih =>
    intro v13 σ h
    rw [b_X12_drift_231] at h
    refine RN_iload (pc := 231) (i := 13) (by decide +kernel) rfl ?_
    refine RN_iload (pc := 233) (i := 9) (by decide +kernel) rfl ?_
    refine RN_icmp_ge (pc := 235) (off := 122) (tgt := 357) (by decide +kernel) (by decide) (fun c141 => ?_) (fun c141 => ?_)
    · replace h := it_t c141 h
      exact RN_weak (l := [some (.ref v0), none, some (.int v2), some (.int v3), none, none, none, none, some (.int v8), some (.int v9), some (.long v10), none, some (.int v12)]) (And.intro rfl (And.intro rfl (And.intro rfl (And.intro rfl (And.intro rfl (And.intro rfl (And.intro rfl trivial))))))) (tb_X12_drift_357 n v0 v2 v3 v8 v9 v10 v12 σ k196 hk196 h)
    · replace h := it_f c141 h
      refine RN_iconst (pc := 238) (n := 0) (v := 0) (by decide +kernel) (by decide) ?_
      refine RN_istore (pc := 239) (i := 14) (ls2 := [some (.ref v0), none, some (.int v2), some (.int v3), none, none, none, none, some (.int v8), some (.int v9), some (.long v10), none, some (.int v12), some (.int v13), some (.int (0 : Int32))]) (by decide +kernel) (by decide) rfl ?_
      exact RN_weak (l := [some (.ref v0), none, some (.int v2), some (.int v3), none, none, none, none, some (.int v8), some (.int v9), some (.long v10), none, some (.int v12), some (.int v13), some (.int (0 : Int32))]) (And.intro rfl (And.intro rfl (And.intro rfl (And.intro rfl (And.intro rfl (And.intro rfl (And.intro rfl (And.intro rfl (And.intro rfl trivial))))))))) (tb_X12_drift_241 v0 v2 v3 v8 v9 v10 v12 v13 k196 hk196 _ (fun c13 τ h => ih c13 τ h) n (0 : Int32) σ h)
def b_X12_drift_228 (k196 : Int32 → Sg → Option (Int32 × Sg)) (n : Nat) (v0 : Nat) (v2 : Int32) (v3 : Int32) (v8 : Int32) (v9 : Int32) (v10 : Int64) (v12 : Int32) (σ : Sg) : Option (Int32 × Sg) :=
  b_X12_drift_231 k196 n v0 v2 v3 v8 v9 v10 v12 (0 : Int32) σ
set_option maxRecDepth 20000 in
theorem tb_X12_drift_228 {G : Gl} {xr : Int32} {σr : Sg} (n : Nat) (v0 : Nat) (v2 : Int32) (v3 : Int32) (v8 : Int32) (v9 : Int32) (v10 : Int64) (v12 : Int32) (σ : Sg) (k196 : Int32 → Sg → Option (Int32 × Sg)) (hk196 : ∀ (c12 : Int32) (τ : Sg), k196 c12 τ = some (xr, σr) → RN G M_X12_drift 196 [some (.ref v0), none, some (.int v2), some (.int v3), none, none, none, none, some (.int v8), some (.int v9), some (.long v10), none, some (.int c12)] [] τ (.inl (some (.int xr))) σr) (h : b_X12_drift_228 k196 n v0 v2 v3 v8 v9 v10 v12 σ = some (xr, σr)) : RN G M_X12_drift 228 [some (.ref v0), none, some (.int v2), some (.int v3), none, none, none, none, some (.int v8), some (.int v9), some (.long v10), none, some (.int v12)] [] σ (.inl (some (.int xr))) σr := by
  unfold b_X12_drift_228 at h
  refine RN_iconst (pc := 228) (n := 0) (v := 0) (by decide +kernel) (by decide) ?_
  refine RN_istore (pc := 229) (i := 13) (ls2 := [some (.ref v0), none, some (.int v2), some (.int v3), none, none, none, none, some (.int v8), some (.int v9), some (.long v10), none, some (.int v12), some (.int (0 : Int32))]) (by decide +kernel) (by decide) rfl ?_
  exact RN_weak (l := [some (.ref v0), none, some (.int v2), some (.int v3), none, none, none, none, some (.int v8), some (.int v9), some (.long v10), none, some (.int v12), some (.int (0 : Int32))]) (And.intro rfl (And.intro rfl (And.intro rfl (And.intro rfl (And.intro rfl (And.intro rfl (And.intro rfl (And.intro rfl trivial)))))))) (tb_X12_drift_231 v0 v2 v3 v8 v9 v10 v12 k196 hk196 n (0 : Int32) σ h)
def b_X12_drift_205 (k196 : Int32 → Sg → Option (Int32 × Sg)) : Nat → Nat → Int32 → Int32 → Int32 → Int32 → Int64 → Int32 → Int32 → Sg → Option (Int32 × Sg)
  | 0, _, _, _, _, _, _, _, _, _ => none
  | n + 1, v0, v2, v3, v8, v9, v10, v12, v13, σ =>
  if v9 ≤ v13 then (
    b_X12_drift_228 k196 n v0 v2 v3 v8 v9 v10 v12 σ)
  else (
    ck (okO σ v0 11) <|
    ck (¬ gR σ v0 49 = 0) <|
    nm (gR σ v0 49) fun r185 =>
    ck (okW σ r185 14 v13) <|
    nm (pJ σ r185 v13.toNatClampNeg (-1099511627776 : Int64)) fun σ187 =>
    nm (v13 + (1 : Int32)) fun x188 =>
    b_X12_drift_205 k196 n v0 v2 v3 v8 v9 v10 v12 x188 σ187)
set_option maxRecDepth 20000 in
theorem tb_X12_drift_205 {G : Gl} {xr : Int32} {σr : Sg} (v0 : Nat) (v2 : Int32) (v3 : Int32) (v8 : Int32) (v9 : Int32) (v10 : Int64) (v12 : Int32) (k196 : Int32 → Sg → Option (Int32 × Sg)) (hk196 : ∀ (c12 : Int32) (τ : Sg), k196 c12 τ = some (xr, σr) → RN G M_X12_drift 196 [some (.ref v0), none, some (.int v2), some (.int v3), none, none, none, none, some (.int v8), some (.int v9), some (.long v10), none, some (.int c12)] [] τ (.inl (some (.int xr))) σr) : ∀ (n : Nat) (v13 : Int32) (σ : Sg), b_X12_drift_205 k196 n v0 v2 v3 v8 v9 v10 v12 v13 σ = some (xr, σr) → RN G M_X12_drift 205 [some (.ref v0), none, some (.int v2), some (.int v3), none, none, none, none, some (.int v8), some (.int v9), some (.long v10), none, some (.int v12), some (.int v13)] [] σ (.inl (some (.int xr))) σr := by
  intro n
  induction n with
  | zero =>
    intro v13 σ h
    exact none_el h
  | succ n ih =>
    intro v13 σ h
    rw [b_X12_drift_205] at h
    refine RN_iload (pc := 205) (i := 13) (by decide +kernel) rfl ?_
    refine RN_iload (pc := 207) (i := 9) (by decide +kernel) rfl ?_
    refine RN_icmp_ge (pc := 209) (off := 19) (tgt := 228) (by decide +kernel) (by decide) (fun c140 => ?_) (fun c140 => ?_)
    · replace h := it_t c140 h
      exact RN_weak (l := [some (.ref v0), none, some (.int v2), some (.int v3), none, none, none, none, some (.int v8), some (.int v9), some (.long v10), none, some (.int v12)]) (And.intro rfl (And.intro rfl (And.intro rfl (And.intro rfl (And.intro rfl (And.intro rfl (And.intro rfl trivial))))))) (tb_X12_drift_228 n v0 v2 v3 v8 v9 v10 v12 σ k196 hk196 h)
    · replace h := it_f c140 h
      refine RN_aload_n (pc := 212) (k := 0) (by decide +kernel) rfl rfl ?_
      obtain ⟨c183, h⟩ := ck_el h
      obtain ⟨c184, h⟩ := ck_el h
      refine RN_getR (pc := 213) (idx := 119) (ci := 11) (k := 49) (by decide +kernel) lf_RX12_119 rfl c183 c184 ?_
      obtain ⟨r185, er185, h⟩ := nm_el h
      refine RN_nmR er185 ?_
      refine RN_iload (pc := 216) (i := 13) (by decide +kernel) rfl ?_
      refine RN_ldc2 (pc := 218) (idx := 194) (v := -1099511627776) (by decide +kernel) kc_RX12_194 ?_
      obtain ⟨c186, h⟩ := ck_el h
      refine RN_last (pc := 221) (by decide +kernel) c186 ?_
      obtain ⟨σ187, eσ187, h⟩ := nm_el h
      refine RN_nmS eσ187 ?_
      obtain ⟨x188, ex188, h⟩ := nm_el h
      refine RN_iinc (pc := 222) (i := 13) (n := 1) (v := x188) (ls2 := [some (.ref v0), none, some (.int v2), some (.int v3), none, none, none, none, some (.int v8), some (.int v9), some (.long v10), none, some (.int v12), some (.int x188)]) (by decide +kernel) rfl (by rw [ex188]; rfl) (by decide) rfl ?_
      refine RN_goto (pc := 225) (off := -20) (tgt := 205) (by decide +kernel) (by decide) ?_
      exact RN_weak (l := [some (.ref v0), none, some (.int v2), some (.int v3), none, none, none, none, some (.int v8), some (.int v9), some (.long v10), none, some (.int v12), some (.int x188)]) (And.intro rfl (And.intro rfl (And.intro rfl (And.intro rfl (And.intro rfl (And.intro rfl (And.intro rfl (And.intro rfl trivial)))))))) (ih x188 σ187 h)
def b_X12_drift_196 : Nat → Nat → Int32 → Int32 → Int32 → Int32 → Int64 → Int32 → Sg → Option (Int32 × Sg)
  | 0, _, _, _, _, _, _, _, _ => none
  | n + 1, v0, v2, v3, v8, v9, v10, v12, σ =>
  if v3 ≤ v12 then (
    b_X12_drift_393 n v0 v2 v8 v9 v10 σ)
  else (
    b_X12_drift_205 (fun c12 τ => b_X12_drift_196 n v0 v2 v3 v8 v9 v10 c12 τ) n v0 v2 v3 v8 v9 v10 v12 (0 : Int32) σ)
set_option maxRecDepth 20000 in
theorem tb_X12_drift_196 {G : Gl} {xr : Int32} {σr : Sg} (v0 : Nat) (v2 : Int32) (v3 : Int32) (v8 : Int32) (v9 : Int32) (v10 : Int64) : ∀ (n : Nat) (v12 : Int32) (σ : Sg), b_X12_drift_196 n v0 v2 v3 v8 v9 v10 v12 σ = some (xr, σr) → RN G M_X12_drift 196 [some (.ref v0), none, some (.int v2), some (.int v3), none, none, none, none, some (.int v8), some (.int v9), some (.long v10), none, some (.int v12)] [] σ (.inl (some (.int xr))) σr := by
  intro n
  induction n with
  | zero =>
    intro v12 σ h
    exact none_el h
  | succ n ih =>
    intro v12 σ h
    rw [b_X12_drift_196] at h
    refine RN_iload (pc := 196) (i := 12) (by decide +kernel) rfl ?_
    refine RN_iload_n (pc := 198) (k := 3) (by decide +kernel) rfl rfl ?_
    refine RN_icmp_ge (pc := 199) (off := 194) (tgt := 393) (by decide +kernel) (by decide) (fun c125 => ?_) (fun c125 => ?_)
    · replace h := it_t c125 h
      exact RN_weak (l := [some (.ref v0), none, some (.int v2), none, none, none, none, none, some (.int v8), some (.int v9), some (.long v10)]) (And.intro rfl (And.intro rfl (And.intro rfl (And.intro rfl (And.intro rfl trivial))))) (tb_X12_drift_393 n v0 v2 v8 v9 v10 σ h)
    · replace h := it_f c125 h
      refine RN_iconst (pc := 202) (n := 0) (v := 0) (by decide +kernel) (by decide) ?_
      refine RN_istore (pc := 203) (i := 13) (ls2 := [some (.ref v0), none, some (.int v2), some (.int v3), none, none, none, none, some (.int v8), some (.int v9), some (.long v10), none, some (.int v12), some (.int (0 : Int32))]) (by decide +kernel) (by decide) rfl ?_
      exact RN_weak (l := [some (.ref v0), none, some (.int v2), some (.int v3), none, none, none, none, some (.int v8), some (.int v9), some (.long v10), none, some (.int v12), some (.int (0 : Int32))]) (And.intro rfl (And.intro rfl (And.intro rfl (And.intro rfl (And.intro rfl (And.intro rfl (And.intro rfl (And.intro rfl trivial)))))))) (tb_X12_drift_205 v0 v2 v3 v8 v9 v10 v12 _ (fun c12 τ h => ih c12 τ h) n (0 : Int32) σ h)
def b_X12_drift_193 (n : Nat) (v0 : Nat) (v2 : Int32) (v3 : Int32) (v8 : Int32) (v9 : Int32) (v10 : Int64) (σ : Sg) : Option (Int32 × Sg) :=
  b_X12_drift_196 n v0 v2 v3 v8 v9 v10 (0 : Int32) σ
set_option maxRecDepth 20000 in
theorem tb_X12_drift_193 {G : Gl} {xr : Int32} {σr : Sg} (n : Nat) (v0 : Nat) (v2 : Int32) (v3 : Int32) (v8 : Int32) (v9 : Int32) (v10 : Int64) (σ : Sg) (h : b_X12_drift_193 n v0 v2 v3 v8 v9 v10 σ = some (xr, σr)) : RN G M_X12_drift 193 [some (.ref v0), none, some (.int v2), some (.int v3), none, none, none, none, some (.int v8), some (.int v9), some (.long v10)] [] σ (.inl (some (.int xr))) σr := by
  unfold b_X12_drift_193 at h
  refine RN_iconst (pc := 193) (n := 0) (v := 0) (by decide +kernel) (by decide) ?_
  refine RN_istore (pc := 194) (i := 12) (ls2 := [some (.ref v0), none, some (.int v2), some (.int v3), none, none, none, none, some (.int v8), some (.int v9), some (.long v10), none, some (.int (0 : Int32))]) (by decide +kernel) (by decide) rfl ?_
  exact RN_weak (l := [some (.ref v0), none, some (.int v2), some (.int v3), none, none, none, none, some (.int v8), some (.int v9), some (.long v10), none, some (.int (0 : Int32))]) (And.intro rfl (And.intro rfl (And.intro rfl (And.intro rfl (And.intro rfl (And.intro rfl (And.intro rfl trivial))))))) (tb_X12_drift_196 v0 v2 v3 v8 v9 v10 n (0 : Int32) σ h)
def b_X12_drift_162 : Nat → Nat → Int32 → Int32 → Int32 → Int32 → Int32 → Int32 → Int64 → Int32 → Sg → Option (Int32 × Sg)
  | 0, _, _, _, _, _, _, _, _, _, _ => none
  | n + 1, v0, v2, v3, v4, v7, v8, v9, v10, v12, σ =>
  if v4 < v12 then (
    b_X12_drift_193 n v0 v2 v3 v8 v9 v10 σ)
  else (
    ck (okO σ v0 11) <|
    ck (¬ gR σ v0 50 = 0) <|
    nm (gR σ v0 50) fun r191 =>
    ck (¬ (v9.toInt64) = 0) <|
    ck (okW σ r191 15 ((((v12.toInt64) * (v7.toInt64)) - ((v12.toInt64) * (v7.toInt64)) / (v9.toInt64) * (v9.toInt64)).toInt32)) <|
    nm (pI σ r191 ((((v12.toInt64) * (v7.toInt64)) - ((v12.toInt64) * (v7.toInt64)) / (v9.toInt64) * (v9.toInt64)).toInt32).toNatClampNeg (1 : Int32)) fun σ194 =>
    nm (v12 + (1 : Int32)) fun x195 =>
    b_X12_drift_162 n v0 v2 v3 v4 v7 v8 v9 v10 x195 σ194)
set_option maxRecDepth 20000 in
theorem tb_X12_drift_162 {G : Gl} {xr : Int32} {σr : Sg} (v0 : Nat) (v2 : Int32) (v3 : Int32) (v4 : Int32) (v7 : Int32) (v8 : Int32) (v9 : Int32) (v10 : Int64) : ∀ (n : Nat) (v12 : Int32) (σ : Sg), b_X12_drift_162 n v0 v2 v3 v4 v7 v8 v9 v10 v12 σ = some (xr, σr) → RN G M_X12_drift 162 [some (.ref v0), none, some (.int v2), some (.int v3), some (.int v4), none, none, some (.int v7), some (.int v8), some (.int v9), some (.long v10), none, some (.int v12)] [] σ (.inl (some (.int xr))) σr := by
  intro n
  induction n with
  | zero =>
    intro v12 σ h
    exact none_el h
  | succ n ih =>
    intro v12 σ h
    rw [b_X12_drift_162] at h
    refine RN_iload (pc := 162) (i := 12) (by decide +kernel) rfl ?_
    refine RN_iload (pc := 164) (i := 4) (by decide +kernel) rfl ?_
    refine RN_icmp_gt (pc := 166) (off := 27) (tgt := 193) (by decide +kernel) (by decide) (fun c124 => ?_) (fun c124 => ?_)
    · replace h := it_t c124 h
      exact RN_weak (l := [some (.ref v0), none, some (.int v2), some (.int v3), none, none, none, none, some (.int v8), some (.int v9), some (.long v10)]) (And.intro rfl (And.intro rfl (And.intro rfl (And.intro rfl (And.intro rfl (And.intro rfl trivial)))))) (tb_X12_drift_193 n v0 v2 v3 v8 v9 v10 σ h)
    · replace h := it_f c124 h
      refine RN_aload_n (pc := 169) (k := 0) (by decide +kernel) rfl rfl ?_
      obtain ⟨c189, h⟩ := ck_el h
      obtain ⟨c190, h⟩ := ck_el h
      refine RN_getR (pc := 170) (idx := 122) (ci := 11) (k := 50) (by decide +kernel) lf_RX12_122 rfl c189 c190 ?_
      obtain ⟨r191, er191, h⟩ := nm_el h
      refine RN_nmR er191 ?_
      refine RN_iload (pc := 173) (i := 12) (by decide +kernel) rfl ?_
      refine RN_i2l (pc := 175) (by decide +kernel) ?_
      refine RN_iload (pc := 176) (i := 7) (by decide +kernel) rfl ?_
      refine RN_i2l (pc := 178) (by decide +kernel) ?_
      refine RN_lmul (pc := 179) (by decide +kernel) ?_
      refine RN_iload (pc := 180) (i := 9) (by decide +kernel) rfl ?_
      refine RN_i2l (pc := 182) (by decide +kernel) ?_
      obtain ⟨c192, h⟩ := ck_el h
      refine RN_lrem (pc := 183) (by decide +kernel) c192 ?_
      refine RN_l2i (pc := 184) (by decide +kernel) ?_
      refine RN_iconst (pc := 185) (n := 1) (v := 1) (by decide +kernel) (by decide) ?_
      obtain ⟨c193, h⟩ := ck_el h
      refine RN_zast (pc := 186) (by decide +kernel) (Or.inr rfl) c193 ?_
      obtain ⟨σ194, eσ194, h⟩ := nm_el h
      refine RN_nmS eσ194 ?_
      obtain ⟨x195, ex195, h⟩ := nm_el h
      refine RN_iinc (pc := 187) (i := 12) (n := 1) (v := x195) (ls2 := [some (.ref v0), none, some (.int v2), some (.int v3), some (.int v4), none, none, some (.int v7), some (.int v8), some (.int v9), some (.long v10), none, some (.int x195)]) (by decide +kernel) rfl (by rw [ex195]; rfl) (by decide) rfl ?_
      refine RN_goto (pc := 190) (off := -28) (tgt := 162) (by decide +kernel) (by decide) ?_
      exact RN_weak (l := [some (.ref v0), none, some (.int v2), some (.int v3), some (.int v4), none, none, some (.int v7), some (.int v8), some (.int v9), some (.long v10), none, some (.int x195)]) (And.intro rfl (And.intro rfl (And.intro rfl (And.intro rfl (And.intro rfl (And.intro rfl (And.intro rfl (And.intro rfl (And.intro rfl trivial))))))))) (ih x195 σ194 h)
def b_X12_drift_159 (n : Nat) (v0 : Nat) (v2 : Int32) (v3 : Int32) (v4 : Int32) (v7 : Int32) (v8 : Int32) (v9 : Int32) (v10 : Int64) (σ : Sg) : Option (Int32 × Sg) :=
  b_X12_drift_162 n v0 v2 v3 v4 v7 v8 v9 v10 (0 : Int32) σ
set_option maxRecDepth 20000 in
theorem tb_X12_drift_159 {G : Gl} {xr : Int32} {σr : Sg} (n : Nat) (v0 : Nat) (v2 : Int32) (v3 : Int32) (v4 : Int32) (v7 : Int32) (v8 : Int32) (v9 : Int32) (v10 : Int64) (σ : Sg) (h : b_X12_drift_159 n v0 v2 v3 v4 v7 v8 v9 v10 σ = some (xr, σr)) : RN G M_X12_drift 159 [some (.ref v0), none, some (.int v2), some (.int v3), some (.int v4), none, none, some (.int v7), some (.int v8), some (.int v9), some (.long v10)] [] σ (.inl (some (.int xr))) σr := by
  unfold b_X12_drift_159 at h
  refine RN_iconst (pc := 159) (n := 0) (v := 0) (by decide +kernel) (by decide) ?_
  refine RN_istore (pc := 160) (i := 12) (ls2 := [some (.ref v0), none, some (.int v2), some (.int v3), some (.int v4), none, none, some (.int v7), some (.int v8), some (.int v9), some (.long v10), none, some (.int (0 : Int32))]) (by decide +kernel) (by decide) rfl ?_
  exact RN_weak (l := [some (.ref v0), none, some (.int v2), some (.int v3), some (.int v4), none, none, some (.int v7), some (.int v8), some (.int v9), some (.long v10), none, some (.int (0 : Int32))]) (And.intro rfl (And.intro rfl (And.intro rfl (And.intro rfl (And.intro rfl (And.intro rfl (And.intro rfl (And.intro rfl (And.intro rfl trivial))))))))) (tb_X12_drift_162 v0 v2 v3 v4 v7 v8 v9 v10 n (0 : Int32) σ h)
def b_X12_drift_152 (k119 : Int32 → Sg → Option (Int32 × Sg)) (n : Nat) (v0 : Nat) (v2 : Int32) (v3 : Int32) (v4 : Int32) (v7 : Int32) (v8 : Int32) (v9 : Int32) (v10 : Int64) (v12 : Int32) (s0 : Int64) (s1 : Int32) (s2 : Nat) (σ : Sg) : Option (Int32 × Sg) :=
  ck (okW σ s2 14 s1) <|
  nm (pJ σ s2 s1.toNatClampNeg s0) fun σ206 =>
  nm (v12 + (1 : Int32)) fun x207 =>
  k119 x207 σ206
set_option maxRecDepth 20000 in
theorem tb_X12_drift_152 {G : Gl} {xr : Int32} {σr : Sg} (n : Nat) (v0 : Nat) (v2 : Int32) (v3 : Int32) (v4 : Int32) (v7 : Int32) (v8 : Int32) (v9 : Int32) (v10 : Int64) (v12 : Int32) (s0 : Int64) (s1 : Int32) (s2 : Nat) (σ : Sg) (k119 : Int32 → Sg → Option (Int32 × Sg)) (hk119 : ∀ (c12 : Int32) (τ : Sg), k119 c12 τ = some (xr, σr) → RN G M_X12_drift 119 [some (.ref v0), none, some (.int v2), some (.int v3), some (.int v4), none, none, some (.int v7), some (.int v8), some (.int v9), some (.long v10), none, some (.int c12)] [] τ (.inl (some (.int xr))) σr) (h : b_X12_drift_152 k119 n v0 v2 v3 v4 v7 v8 v9 v10 v12 s0 s1 s2 σ = some (xr, σr)) : RN G M_X12_drift 152 [some (.ref v0), none, some (.int v2), some (.int v3), some (.int v4), none, none, some (.int v7), some (.int v8), some (.int v9), some (.long v10), none, some (.int v12)] [.long s0, .int s1, .ref s2] σ (.inl (some (.int xr))) σr := by
  unfold b_X12_drift_152 at h
  obtain ⟨c205, h⟩ := ck_el h
  refine RN_last (pc := 152) (by decide +kernel) c205 ?_
  obtain ⟨σ206, eσ206, h⟩ := nm_el h
  refine RN_nmS eσ206 ?_
  obtain ⟨x207, ex207, h⟩ := nm_el h
  refine RN_iinc (pc := 153) (i := 12) (n := 1) (v := x207) (ls2 := [some (.ref v0), none, some (.int v2), some (.int v3), some (.int v4), none, none, some (.int v7), some (.int v8), some (.int v9), some (.long v10), none, some (.int x207)]) (by decide +kernel) rfl (by rw [ex207]; rfl) (by decide) rfl ?_
  refine RN_goto (pc := 156) (off := -37) (tgt := 119) (by decide +kernel) (by decide) ?_
  exact RN_weak (l := [some (.ref v0), none, some (.int v2), some (.int v3), some (.int v4), none, none, some (.int v7), some (.int v8), some (.int v9), some (.long v10), none, some (.int x207)]) (And.intro rfl (And.intro rfl (And.intro rfl (And.intro rfl (And.intro rfl (And.intro rfl (And.intro rfl (And.intro rfl (And.intro rfl trivial))))))))) (hk119 x207 σ206 h)
def b_X12_drift_119 : Nat → Nat → Int32 → Int32 → Int32 → Int32 → Int32 → Int32 → Int64 → Int32 → Sg → Option (Int32 × Sg)
  | 0, _, _, _, _, _, _, _, _, _, _ => none
  | n + 1, v0, v2, v3, v4, v7, v8, v9, v10, v12, σ =>
  if v9 ≤ v12 then (
    b_X12_drift_159 n v0 v2 v3 v4 v7 v8 v9 v10 σ)
  else (
    ck (okO σ v0 11) <|
    ck (¬ gR σ v0 50 = 0) <|
    nm (gR σ v0 50) fun r198 =>
    ck (okW σ r198 15 v12) <|
    nm (pI σ r198 v12.toNatClampNeg (0 : Int32)) fun σ200 =>
    ck (okO σ200 v0 11) <|
    ck (¬ gR σ200 v0 48 = 0) <|
    nm (gR σ200 v0 48) fun r203 =>
    if v12 = 0 then (
      b_X12_drift_152 (fun c12 τ => b_X12_drift_119 n v0 v2 v3 v4 v7 v8 v9 v10 c12 τ) n v0 v2 v3 v4 v7 v8 v9 v10 v12 (0 : Int64) v12 r203 σ200)
    else (
      b_X12_drift_152 (fun c12 τ => b_X12_drift_119 n v0 v2 v3 v4 v7 v8 v9 v10 c12 τ) n v0 v2 v3 v4 v7 v8 v9 v10 v12 (-1099511627776 : Int64) v12 r203 σ200))
set_option maxRecDepth 20000 in
theorem tb_X12_drift_119 {G : Gl} {xr : Int32} {σr : Sg} (v0 : Nat) (v2 : Int32) (v3 : Int32) (v4 : Int32) (v7 : Int32) (v8 : Int32) (v9 : Int32) (v10 : Int64) : ∀ (n : Nat) (v12 : Int32) (σ : Sg), b_X12_drift_119 n v0 v2 v3 v4 v7 v8 v9 v10 v12 σ = some (xr, σr) → RN G M_X12_drift 119 [some (.ref v0), none, some (.int v2), some (.int v3), some (.int v4), none, none, some (.int v7), some (.int v8), some (.int v9), some (.long v10), none, some (.int v12)] [] σ (.inl (some (.int xr))) σr := by
  intro n
  induction n with
  | zero =>
    intro v12 σ h
    exact none_el h
  | succ n ih =>
    intro v12 σ h
    rw [b_X12_drift_119] at h
    refine RN_iload (pc := 119) (i := 12) (by decide +kernel) rfl ?_
    refine RN_iload (pc := 121) (i := 9) (by decide +kernel) rfl ?_
    refine RN_icmp_ge (pc := 123) (off := 36) (tgt := 159) (by decide +kernel) (by decide) (fun c123 => ?_) (fun c123 => ?_)
    · replace h := it_t c123 h
      exact RN_weak (l := [some (.ref v0), none, some (.int v2), some (.int v3), some (.int v4), none, none, some (.int v7), some (.int v8), some (.int v9), some (.long v10)]) (And.intro rfl (And.intro rfl (And.intro rfl (And.intro rfl (And.intro rfl (And.intro rfl (And.intro rfl (And.intro rfl trivial)))))))) (tb_X12_drift_159 n v0 v2 v3 v4 v7 v8 v9 v10 σ h)
    · replace h := it_f c123 h
      refine RN_aload_n (pc := 126) (k := 0) (by decide +kernel) rfl rfl ?_
      obtain ⟨c196, h⟩ := ck_el h
      obtain ⟨c197, h⟩ := ck_el h
      refine RN_getR (pc := 127) (idx := 122) (ci := 11) (k := 50) (by decide +kernel) lf_RX12_122 rfl c196 c197 ?_
      obtain ⟨r198, er198, h⟩ := nm_el h
      refine RN_nmR er198 ?_
      refine RN_iload (pc := 130) (i := 12) (by decide +kernel) rfl ?_
      refine RN_iconst (pc := 132) (n := 0) (v := 0) (by decide +kernel) (by decide) ?_
      obtain ⟨c199, h⟩ := ck_el h
      refine RN_zast (pc := 133) (by decide +kernel) (Or.inl rfl) c199 ?_
      obtain ⟨σ200, eσ200, h⟩ := nm_el h
      refine RN_nmS eσ200 ?_
      refine RN_aload_n (pc := 134) (k := 0) (by decide +kernel) rfl rfl ?_
      obtain ⟨c201, h⟩ := ck_el h
      obtain ⟨c202, h⟩ := ck_el h
      refine RN_getR (pc := 135) (idx := 116) (ci := 11) (k := 48) (by decide +kernel) lf_RX12_116 rfl c201 c202 ?_
      obtain ⟨r203, er203, h⟩ := nm_el h
      refine RN_nmR er203 ?_
      refine RN_iload (pc := 138) (i := 12) (by decide +kernel) rfl ?_
      refine RN_iload (pc := 140) (i := 12) (by decide +kernel) rfl ?_
      refine RN_if_ne (pc := 142) (off := 7) (tgt := 149) (by decide +kernel) (by decide) (fun c204 => ?_) (fun c204 => ?_)
      · replace h := it_f c204 h
        refine RN_ldc2 (pc := 149) (idx := 194) (v := -1099511627776) (by decide +kernel) kc_RX12_194 ?_
        exact RN_weak (l := [some (.ref v0), none, some (.int v2), some (.int v3), some (.int v4), none, none, some (.int v7), some (.int v8), some (.int v9), some (.long v10), none, some (.int v12)]) (And.intro rfl (And.intro rfl (And.intro rfl (And.intro rfl (And.intro rfl (And.intro rfl (And.intro rfl (And.intro rfl (And.intro rfl trivial))))))))) (tb_X12_drift_152 n v0 v2 v3 v4 v7 v8 v9 v10 v12 (-1099511627776 : Int64) v12 r203 σ200 _ (fun c12 τ h => ih c12 τ h) h)
      · replace h := it_t c204 h
        refine RN_lconst (pc := 145) (n := 0) (v := 0) (by decide +kernel) (by decide) ?_
        refine RN_goto (pc := 146) (off := 6) (tgt := 152) (by decide +kernel) (by decide) ?_
        exact RN_weak (l := [some (.ref v0), none, some (.int v2), some (.int v3), some (.int v4), none, none, some (.int v7), some (.int v8), some (.int v9), some (.long v10), none, some (.int v12)]) (And.intro rfl (And.intro rfl (And.intro rfl (And.intro rfl (And.intro rfl (And.intro rfl (And.intro rfl (And.intro rfl (And.intro rfl trivial))))))))) (tb_X12_drift_152 n v0 v2 v3 v4 v7 v8 v9 v10 v12 (0 : Int64) v12 r203 σ200 _ (fun c12 τ h => ih c12 τ h) h)
def b_X12_drift_114 (n : Nat) (v0 : Nat) (v2 : Int32) (v3 : Int32) (v4 : Int32) (v7 : Int32) (v8 : Int32) (v9 : Int32) (s0 : Int64) (σ : Sg) : Option (Int32 × Sg) :=
  b_X12_drift_119 n v0 v2 v3 v4 v7 v8 v9 s0 (0 : Int32) σ
set_option maxRecDepth 20000 in
theorem tb_X12_drift_114 {G : Gl} {xr : Int32} {σr : Sg} (n : Nat) (v0 : Nat) (v2 : Int32) (v3 : Int32) (v4 : Int32) (v7 : Int32) (v8 : Int32) (v9 : Int32) (s0 : Int64) (σ : Sg) (h : b_X12_drift_114 n v0 v2 v3 v4 v7 v8 v9 s0 σ = some (xr, σr)) : RN G M_X12_drift 114 [some (.ref v0), none, some (.int v2), some (.int v3), some (.int v4), none, none, some (.int v7), some (.int v8), some (.int v9)] [.long s0] σ (.inl (some (.int xr))) σr := by
  unfold b_X12_drift_114 at h
  refine RN_lstore (pc := 114) (i := 10) (ls2 := [some (.ref v0), none, some (.int v2), some (.int v3), some (.int v4), none, none, some (.int v7), some (.int v8), some (.int v9), some (.long s0), none]) (by decide +kernel) (by decide) rfl ?_
  refine RN_iconst (pc := 116) (n := 0) (v := 0) (by decide +kernel) (by decide) ?_
  refine RN_istore (pc := 117) (i := 12) (ls2 := [some (.ref v0), none, some (.int v2), some (.int v3), some (.int v4), none, none, some (.int v7), some (.int v8), some (.int v9), some (.long s0), none, some (.int (0 : Int32))]) (by decide +kernel) (by decide) rfl ?_
  exact RN_weak (l := [some (.ref v0), none, some (.int v2), some (.int v3), some (.int v4), none, none, some (.int v7), some (.int v8), some (.int v9), some (.long s0), none, some (.int (0 : Int32))]) (And.intro rfl (And.intro rfl (And.intro rfl (And.intro rfl (And.intro rfl (And.intro rfl (And.intro rfl (And.intro rfl (And.intro rfl trivial))))))))) (tb_X12_drift_119 v0 v2 v3 v4 v7 v8 v9 s0 n (0 : Int32) σ h)
def b_X12_drift_67 (n : Nat) (v0 : Nat) (v1 : Int32) (v2 : Int32) (v3 : Int32) (v4 : Int32) (v5 : Int32) (s0 : Int32) (σ : Sg) : Option (Int32 × Sg) :=
  ck (okO σ v0 11) <|
  bd (f_X12_isRefused v0 s0 σ) fun x110 σ109 =>
  if x110 = 0 then (
    ck (okO σ109 v0 11) <|
    ck (¬ gR σ109 v0 1 = 0) <|
    nm (gR σ109 v0 1) fun r114 =>
    ck (okA σ109 r114 13 v1) <|
    nm (gI σ109 r114 v1.toNatClampNeg) fun x116 =>
    ck (¬ gR σ109 v0 2 = 0) <|
    nm (gR σ109 v0 2) fun r118 =>
    ck (okA σ109 r118 13 v1) <|
    nm (gI σ109 r118 v1.toNatClampNeg) fun x120 =>
    nm ((2 : Int32) * x120) fun x121 =>
    if v5 = 0 then (
      b_X12_drift_114 n v0 v2 v3 v4 x116 x120 x121 (1 : Int64) σ109)
    else (
      b_X12_drift_114 n v0 v2 v3 v4 x116 x120 x121 (-1 : Int64) σ109))
  else (
    some ((0 : Int32), σ109))
set_option maxRecDepth 20000 in
theorem tb_X12_drift_67 {G : Gl} {xr : Int32} {σr : Sg} (n : Nat) (v0 : Nat) (v1 : Int32) (v2 : Int32) (v3 : Int32) (v4 : Int32) (v5 : Int32) (s0 : Int32) (σ : Sg) (h : b_X12_drift_67 n v0 v1 v2 v3 v4 v5 s0 σ = some (xr, σr)) : RN G M_X12_drift 67 [some (.ref v0), some (.int v1), some (.int v2), some (.int v3), some (.int v4), some (.int v5)] [.int s0] σ (.inl (some (.int xr))) σr := by
  unfold b_X12_drift_67 at h
  refine RN_istore (pc := 67) (i := 6) (ls2 := [some (.ref v0), some (.int v1), some (.int v2), some (.int v3), some (.int v4), some (.int v5), some (.int s0)]) (by decide +kernel) (by decide) rfl ?_
  refine RN_aload_n (pc := 69) (k := 0) (by decide +kernel) rfl rfl ?_
  refine RN_iload (pc := 70) (i := 6) (by decide +kernel) rfl ?_
  obtain ⟨c107, h⟩ := ck_el h
  obtain ⟨x110, σ109, f108, h⟩ := bd_el h
  refine RN_callV (M := M_X12_drift) (pc := 72) (idx := 283) (as := [.int s0]) (st := []) (t_X12_isRefused f108) (by decide +kernel) lk_RX12_283 rfl ⟨by decide, fun q hq => by cases hq; rfl⟩ c107 (Nat.le_of_ble_eq_true rfl) ⟨Nat.le_of_ble_eq_true rfl, Nat.le_of_ble_eq_true rfl⟩ rfl ?_
  show RN G M_X12_drift 75 [some (.ref v0), some (.int v1), some (.int v2), some (.int v3), some (.int v4), some (.int v5), some (.int s0)] [.int x110] σ109 _ _
  refine RN_if_eq (pc := 75) (off := 5) (tgt := 80) (by decide +kernel) (by decide) (fun c111 => ?_) (fun c111 => ?_)
  · replace h := it_t c111 h
    refine RN_aload_n (pc := 80) (k := 0) (by decide +kernel) rfl rfl ?_
    obtain ⟨c112, h⟩ := ck_el h
    obtain ⟨c113, h⟩ := ck_el h
    refine RN_getR (pc := 81) (idx := 7) (ci := 11) (k := 1) (by decide +kernel) lf_RX12_7 rfl c112 c113 ?_
    obtain ⟨r114, er114, h⟩ := nm_el h
    refine RN_nmR er114 ?_
    refine RN_iload_n (pc := 84) (k := 1) (by decide +kernel) rfl rfl ?_
    obtain ⟨c115, h⟩ := ck_el h
    refine RN_iald (pc := 85) (by decide +kernel) c115 ?_
    obtain ⟨x116, ex116, h⟩ := nm_el h
    refine RN_nmI ex116 ?_
    refine RN_istore (pc := 86) (i := 7) (ls2 := [some (.ref v0), some (.int v1), some (.int v2), some (.int v3), some (.int v4), some (.int v5), some (.int s0), some (.int x116)]) (by decide +kernel) (by decide) rfl ?_
    refine RN_aload_n (pc := 88) (k := 0) (by decide +kernel) rfl rfl ?_
    obtain ⟨c117, h⟩ := ck_el h
    refine RN_getR (pc := 89) (idx := 13) (ci := 11) (k := 2) (by decide +kernel) lf_RX12_13 rfl c112 c117 ?_
    obtain ⟨r118, er118, h⟩ := nm_el h
    refine RN_nmR er118 ?_
    refine RN_iload_n (pc := 92) (k := 1) (by decide +kernel) rfl rfl ?_
    obtain ⟨c119, h⟩ := ck_el h
    refine RN_iald (pc := 93) (by decide +kernel) c119 ?_
    obtain ⟨x120, ex120, h⟩ := nm_el h
    refine RN_nmI ex120 ?_
    refine RN_istore (pc := 94) (i := 8) (ls2 := [some (.ref v0), some (.int v1), some (.int v2), some (.int v3), some (.int v4), some (.int v5), some (.int s0), some (.int x116), some (.int x120)]) (by decide +kernel) (by decide) rfl ?_
    refine RN_iconst (pc := 96) (n := 2) (v := 2) (by decide +kernel) (by decide) ?_
    refine RN_iload (pc := 97) (i := 8) (by decide +kernel) rfl ?_
    refine RN_imul (pc := 99) (by decide +kernel) ?_
    obtain ⟨x121, ex121, h⟩ := nm_el h
    refine RN_nmI ex121 ?_
    refine RN_istore (pc := 100) (i := 9) (ls2 := [some (.ref v0), some (.int v1), some (.int v2), some (.int v3), some (.int v4), some (.int v5), some (.int s0), some (.int x116), some (.int x120), some (.int x121)]) (by decide +kernel) (by decide) rfl ?_
    refine RN_iload (pc := 102) (i := 5) (by decide +kernel) rfl ?_
    refine RN_if_ne (pc := 104) (off := 7) (tgt := 111) (by decide +kernel) (by decide) (fun c122 => ?_) (fun c122 => ?_)
    · replace h := it_f c122 h
      refine RN_ldc2 (pc := 111) (idx := 296) (v := -1) (by decide +kernel) kc_RX12_296 ?_
      exact RN_weak (l := [some (.ref v0), none, some (.int v2), some (.int v3), some (.int v4), none, none, some (.int x116), some (.int x120), some (.int x121)]) (And.intro rfl (And.intro rfl (And.intro rfl (And.intro rfl (And.intro rfl (And.intro rfl (And.intro rfl trivial))))))) (tb_X12_drift_114 n v0 v2 v3 v4 x116 x120 x121 (-1 : Int64) σ109 h)
    · replace h := it_t c122 h
      refine RN_lconst (pc := 107) (n := 1) (v := 1) (by decide +kernel) (by decide) ?_
      refine RN_goto (pc := 108) (off := 6) (tgt := 114) (by decide +kernel) (by decide) ?_
      exact RN_weak (l := [some (.ref v0), none, some (.int v2), some (.int v3), some (.int v4), none, none, some (.int x116), some (.int x120), some (.int x121)]) (And.intro rfl (And.intro rfl (And.intro rfl (And.intro rfl (And.intro rfl (And.intro rfl (And.intro rfl trivial))))))) (tb_X12_drift_114 n v0 v2 v3 v4 x116 x120 x121 (1 : Int64) σ109 h)
  · replace h := it_f c111 h
    refine RN_iconst (pc := 78) (n := 0) (v := 0) (by decide +kernel) (by decide) ?_
    obtain ⟨rfl, rfl⟩ := some_el2 h
    exact RN_ireturn (by decide +kernel) rfl
def b_X12_drift_66 (n : Nat) (v0 : Nat) (v1 : Int32) (v2 : Int32) (v3 : Int32) (v4 : Int32) (v5 : Int32) (σ : Sg) : Option (Int32 × Sg) :=
  b_X12_drift_67 n v0 v1 v2 v3 v4 v5 (0 : Int32) σ
set_option maxRecDepth 20000 in
theorem tb_X12_drift_66 {G : Gl} {xr : Int32} {σr : Sg} (n : Nat) (v0 : Nat) (v1 : Int32) (v2 : Int32) (v3 : Int32) (v4 : Int32) (v5 : Int32) (σ : Sg) (h : b_X12_drift_66 n v0 v1 v2 v3 v4 v5 σ = some (xr, σr)) : RN G M_X12_drift 66 [some (.ref v0), some (.int v1), some (.int v2), some (.int v3), some (.int v4), some (.int v5)] [] σ (.inl (some (.int xr))) σr := by
  unfold b_X12_drift_66 at h
  refine RN_iconst (pc := 66) (n := 0) (v := 0) (by decide +kernel) (by decide) ?_
  exact RN_weak (l := [some (.ref v0), some (.int v1), some (.int v2), some (.int v3), some (.int v4), some (.int v5)]) (And.intro rfl (And.intro rfl (And.intro rfl (And.intro rfl (And.intro rfl (And.intro rfl trivial)))))) (tb_X12_drift_67 n v0 v1 v2 v3 v4 v5 (0 : Int32) σ h)
def f_X12_drift (n : Nat) (v0 : Nat) (v1 : Int32) (v2 : Int32) (v3 : Int32) (v4 : Int32) (v5 : Int32) (σ : Sg) : Option (Int32 × Sg) :=
  bp (f_X12_in v1 (0 : Int32) (7 : Int32)) fun x105 =>
  if x105 = 0 then (
    b_X12_drift_66 n v0 v1 v2 v3 v4 v5 σ)
  else (
    ck (okO σ v0 11) <|
    ck (¬ gR σ v0 2 = 0) <|
    nm (gR σ v0 2) fun r210 =>
    ck (okA σ r210 13 v1) <|
    if (100 : Int32) < (gI σ r210 v1.toNatClampNeg) then (
      b_X12_drift_66 n v0 v1 v2 v3 v4 v5 σ)
    else (
      bp (f_X12_in v2 (0 : Int32) (5 : Int32)) fun x214 =>
      if x214 = 0 then (
        b_X12_drift_66 n v0 v1 v2 v3 v4 v5 σ)
      else (
        bp (f_X12_in v3 (1 : Int32) (12 : Int32)) fun x217 =>
        if x217 = 0 then (
          b_X12_drift_66 n v0 v1 v2 v3 v4 v5 σ)
        else (
          bp (f_X12_in v4 (0 : Int32) (1000 : Int32)) fun x220 =>
          if x220 = 0 then (
            b_X12_drift_66 n v0 v1 v2 v3 v4 v5 σ)
          else (
            bp (f_X12_in v5 (0 : Int32) (1 : Int32)) fun x223 =>
            if x223 = 0 then (
              b_X12_drift_66 n v0 v1 v2 v3 v4 v5 σ)
            else (
              b_X12_drift_67 n v0 v1 v2 v3 v4 v5 (1 : Int32) σ))))))
set_option maxRecDepth 20000 in
theorem t_X12_drift {G : Gl} {xr : Int32} {σr : Sg} {n : Nat} {v0 : Nat} {v1 : Int32} {v2 : Int32} {v3 : Int32} {v4 : Int32} {v5 : Int32} {σ : Sg} (h : f_X12_drift n v0 v1 v2 v3 v4 v5 σ = some (xr, σr)) : MT G M_X12_drift [.ref v0, .int v1, .int v2, .int v3, .int v4, .int v5] σ (some (.int xr)) σr := by
  refine MT_of rfl rfl (Nat.le_of_ble_eq_true rfl) ?_
  show RN G M_X12_drift 0 [some (.ref v0), some (.int v1), some (.int v2), some (.int v3), some (.int v4), some (.int v5)] [] σ (.inl (some (.int xr))) σr
  unfold f_X12_drift at h
  refine RN_iload_n (pc := 0) (k := 1) (by decide +kernel) rfl rfl ?_
  refine RN_iconst (pc := 1) (n := 0) (v := 0) (by decide +kernel) (by decide) ?_
  refine RN_bipush (pc := 2) (n := 7) (v := 7) (by decide +kernel) (by decide) ?_
  obtain ⟨x105, f104, h⟩ := bp_el h
  refine RN_callS (M := M_X12_drift) (pc := 4) (idx := 159) (as := [.int v1, .int (0 : Int32), .int (7 : Int32)]) (st := []) (t_X12_in f104) (by decide +kernel) lk_RX12_159 rfl (Nat.le_of_ble_eq_true rfl) ⟨Nat.le_of_ble_eq_true rfl, Nat.le_of_ble_eq_true rfl⟩ rfl ?_
  show RN G M_X12_drift 7 [some (.ref v0), some (.int v1), some (.int v2), some (.int v3), some (.int v4), some (.int v5)] [.int x105] σ _ _
  refine RN_if_eq (pc := 7) (off := 59) (tgt := 66) (by decide +kernel) (by decide) (fun c106 => ?_) (fun c106 => ?_)
  · replace h := it_t c106 h
    exact RN_weak (l := [some (.ref v0), some (.int v1), some (.int v2), some (.int v3), some (.int v4), some (.int v5)]) (And.intro rfl (And.intro rfl (And.intro rfl (And.intro rfl (And.intro rfl (And.intro rfl trivial)))))) (tb_X12_drift_66 n v0 v1 v2 v3 v4 v5 σ h)
  · replace h := it_f c106 h
    refine RN_aload_n (pc := 10) (k := 0) (by decide +kernel) rfl rfl ?_
    obtain ⟨c208, h⟩ := ck_el h
    obtain ⟨c209, h⟩ := ck_el h
    refine RN_getR (pc := 11) (idx := 13) (ci := 11) (k := 2) (by decide +kernel) lf_RX12_13 rfl c208 c209 ?_
    obtain ⟨r210, er210, h⟩ := nm_el h
    refine RN_nmR er210 ?_
    refine RN_iload_n (pc := 14) (k := 1) (by decide +kernel) rfl rfl ?_
    obtain ⟨c211, h⟩ := ck_el h
    refine RN_iald (pc := 15) (by decide +kernel) c211 ?_
    refine RN_bipush (pc := 16) (n := 100) (v := 100) (by decide +kernel) (by decide) ?_
    refine RN_icmp_gt (pc := 18) (off := 48) (tgt := 66) (by decide +kernel) (by decide) (fun c212 => ?_) (fun c212 => ?_)
    · replace h := it_t c212 h
      exact RN_weak (l := [some (.ref v0), some (.int v1), some (.int v2), some (.int v3), some (.int v4), some (.int v5)]) (And.intro rfl (And.intro rfl (And.intro rfl (And.intro rfl (And.intro rfl (And.intro rfl trivial)))))) (tb_X12_drift_66 n v0 v1 v2 v3 v4 v5 σ h)
    · replace h := it_f c212 h
      refine RN_iload_n (pc := 21) (k := 2) (by decide +kernel) rfl rfl ?_
      refine RN_iconst (pc := 22) (n := 0) (v := 0) (by decide +kernel) (by decide) ?_
      refine RN_iconst (pc := 23) (n := 5) (v := 5) (by decide +kernel) (by decide) ?_
      obtain ⟨x214, f213, h⟩ := bp_el h
      refine RN_callS (M := M_X12_drift) (pc := 24) (idx := 159) (as := [.int v2, .int (0 : Int32), .int (5 : Int32)]) (st := []) (t_X12_in f213) (by decide +kernel) lk_RX12_159 rfl (Nat.le_of_ble_eq_true rfl) ⟨Nat.le_of_ble_eq_true rfl, Nat.le_of_ble_eq_true rfl⟩ rfl ?_
      show RN G M_X12_drift 27 [some (.ref v0), some (.int v1), some (.int v2), some (.int v3), some (.int v4), some (.int v5)] [.int x214] σ _ _
      refine RN_if_eq (pc := 27) (off := 39) (tgt := 66) (by decide +kernel) (by decide) (fun c215 => ?_) (fun c215 => ?_)
      · replace h := it_t c215 h
        exact RN_weak (l := [some (.ref v0), some (.int v1), some (.int v2), some (.int v3), some (.int v4), some (.int v5)]) (And.intro rfl (And.intro rfl (And.intro rfl (And.intro rfl (And.intro rfl (And.intro rfl trivial)))))) (tb_X12_drift_66 n v0 v1 v2 v3 v4 v5 σ h)
      · replace h := it_f c215 h
        refine RN_iload_n (pc := 30) (k := 3) (by decide +kernel) rfl rfl ?_
        refine RN_iconst (pc := 31) (n := 1) (v := 1) (by decide +kernel) (by decide) ?_
        refine RN_bipush (pc := 32) (n := 12) (v := 12) (by decide +kernel) (by decide) ?_
        obtain ⟨x217, f216, h⟩ := bp_el h
        refine RN_callS (M := M_X12_drift) (pc := 34) (idx := 159) (as := [.int v3, .int (1 : Int32), .int (12 : Int32)]) (st := []) (t_X12_in f216) (by decide +kernel) lk_RX12_159 rfl (Nat.le_of_ble_eq_true rfl) ⟨Nat.le_of_ble_eq_true rfl, Nat.le_of_ble_eq_true rfl⟩ rfl ?_
        show RN G M_X12_drift 37 [some (.ref v0), some (.int v1), some (.int v2), some (.int v3), some (.int v4), some (.int v5)] [.int x217] σ _ _
        refine RN_if_eq (pc := 37) (off := 29) (tgt := 66) (by decide +kernel) (by decide) (fun c218 => ?_) (fun c218 => ?_)
        · replace h := it_t c218 h
          exact RN_weak (l := [some (.ref v0), some (.int v1), some (.int v2), some (.int v3), some (.int v4), some (.int v5)]) (And.intro rfl (And.intro rfl (And.intro rfl (And.intro rfl (And.intro rfl (And.intro rfl trivial)))))) (tb_X12_drift_66 n v0 v1 v2 v3 v4 v5 σ h)
        · replace h := it_f c218 h
          refine RN_iload (pc := 40) (i := 4) (by decide +kernel) rfl ?_
          refine RN_iconst (pc := 42) (n := 0) (v := 0) (by decide +kernel) (by decide) ?_
          refine RN_sipush (pc := 43) (n := 1000) (v := 1000) (by decide +kernel) (by decide) ?_
          obtain ⟨x220, f219, h⟩ := bp_el h
          refine RN_callS (M := M_X12_drift) (pc := 46) (idx := 159) (as := [.int v4, .int (0 : Int32), .int (1000 : Int32)]) (st := []) (t_X12_in f219) (by decide +kernel) lk_RX12_159 rfl (Nat.le_of_ble_eq_true rfl) ⟨Nat.le_of_ble_eq_true rfl, Nat.le_of_ble_eq_true rfl⟩ rfl ?_
          show RN G M_X12_drift 49 [some (.ref v0), some (.int v1), some (.int v2), some (.int v3), some (.int v4), some (.int v5)] [.int x220] σ _ _
          refine RN_if_eq (pc := 49) (off := 17) (tgt := 66) (by decide +kernel) (by decide) (fun c221 => ?_) (fun c221 => ?_)
          · replace h := it_t c221 h
            exact RN_weak (l := [some (.ref v0), some (.int v1), some (.int v2), some (.int v3), some (.int v4), some (.int v5)]) (And.intro rfl (And.intro rfl (And.intro rfl (And.intro rfl (And.intro rfl (And.intro rfl trivial)))))) (tb_X12_drift_66 n v0 v1 v2 v3 v4 v5 σ h)
          · replace h := it_f c221 h
            refine RN_iload (pc := 52) (i := 5) (by decide +kernel) rfl ?_
            refine RN_iconst (pc := 54) (n := 0) (v := 0) (by decide +kernel) (by decide) ?_
            refine RN_iconst (pc := 55) (n := 1) (v := 1) (by decide +kernel) (by decide) ?_
            obtain ⟨x223, f222, h⟩ := bp_el h
            refine RN_callS (M := M_X12_drift) (pc := 56) (idx := 159) (as := [.int v5, .int (0 : Int32), .int (1 : Int32)]) (st := []) (t_X12_in f222) (by decide +kernel) lk_RX12_159 rfl (Nat.le_of_ble_eq_true rfl) ⟨Nat.le_of_ble_eq_true rfl, Nat.le_of_ble_eq_true rfl⟩ rfl ?_
            show RN G M_X12_drift 59 [some (.ref v0), some (.int v1), some (.int v2), some (.int v3), some (.int v4), some (.int v5)] [.int x223] σ _ _
            refine RN_if_eq (pc := 59) (off := 7) (tgt := 66) (by decide +kernel) (by decide) (fun c224 => ?_) (fun c224 => ?_)
            · replace h := it_t c224 h
              exact RN_weak (l := [some (.ref v0), some (.int v1), some (.int v2), some (.int v3), some (.int v4), some (.int v5)]) (And.intro rfl (And.intro rfl (And.intro rfl (And.intro rfl (And.intro rfl (And.intro rfl trivial)))))) (tb_X12_drift_66 n v0 v1 v2 v3 v4 v5 σ h)
            · replace h := it_f c224 h
              refine RN_iconst (pc := 62) (n := 1) (v := 1) (by decide +kernel) (by decide) ?_
              refine RN_goto (pc := 63) (off := 4) (tgt := 67) (by decide +kernel) (by decide) ?_
              exact RN_weak (l := [some (.ref v0), some (.int v1), some (.int v2), some (.int v3), some (.int v4), some (.int v5)]) (And.intro rfl (And.intro rfl (And.intro rfl (And.intro rfl (And.intro rfl (And.intro rfl trivial)))))) (tb_X12_drift_67 n v0 v1 v2 v3 v4 v5 (1 : Int32) σ h)
def f_X12_hasChoice (v0 : Nat) (v1 : Int32) : Option Int32 :=
  if v1 = (1 : Int32) then (
    some (1 : Int32))
  else (
    if v1 = (2 : Int32) then (
      some (1 : Int32))
    else (
      if v1 = (4 : Int32) then (
        some (1 : Int32))
      else (
        if v1 = (6 : Int32) then (
          some (1 : Int32))
        else (
          if v1 = (11 : Int32) then (
            some (1 : Int32))
          else (
            some (0 : Int32))))))
set_option maxRecDepth 20000 in
theorem t_X12_hasChoice {G : Gl} {xr : Int32} {v0 : Nat} {v1 : Int32} {σ : Sg} (h : f_X12_hasChoice v0 v1 = some xr) : MT G M_X12_hasChoice [.ref v0, .int v1] σ (some (.int xr)) σ := by
  refine MT_of rfl rfl (Nat.le_of_ble_eq_true rfl) ?_
  show RN G M_X12_hasChoice 0 [some (.ref v0), some (.int v1)] [] σ (.inl (some (.int xr))) σ
  unfold f_X12_hasChoice at h
  refine RN_iload_n (pc := 0) (k := 1) (by decide +kernel) rfl rfl ?_
  refine RN_iconst (pc := 1) (n := 1) (v := 1) (by decide +kernel) (by decide) ?_
  refine RN_icmp_eq (pc := 2) (off := 25) (tgt := 27) (by decide +kernel) (by decide) (fun c1 => ?_) (fun c1 => ?_)
  · replace h := it_t c1 h
    refine RN_iconst (pc := 27) (n := 1) (v := 1) (by decide +kernel) (by decide) ?_
    refine RN_goto (pc := 28) (off := 4) (tgt := 32) (by decide +kernel) (by decide) ?_
    obtain rfl := some_el h
    exact RN_zreturn (by decide +kernel) rfl (Or.inr rfl)
  · replace h := it_f c1 h
    refine RN_iload_n (pc := 5) (k := 1) (by decide +kernel) rfl rfl ?_
    refine RN_iconst (pc := 6) (n := 2) (v := 2) (by decide +kernel) (by decide) ?_
    refine RN_icmp_eq (pc := 7) (off := 20) (tgt := 27) (by decide +kernel) (by decide) (fun c2 => ?_) (fun c2 => ?_)
    · replace h := it_t c2 h
      refine RN_iconst (pc := 27) (n := 1) (v := 1) (by decide +kernel) (by decide) ?_
      refine RN_goto (pc := 28) (off := 4) (tgt := 32) (by decide +kernel) (by decide) ?_
      obtain rfl := some_el h
      exact RN_zreturn (by decide +kernel) rfl (Or.inr rfl)
    · replace h := it_f c2 h
      refine RN_iload_n (pc := 10) (k := 1) (by decide +kernel) rfl rfl ?_
      refine RN_iconst (pc := 11) (n := 4) (v := 4) (by decide +kernel) (by decide) ?_
      refine RN_icmp_eq (pc := 12) (off := 15) (tgt := 27) (by decide +kernel) (by decide) (fun c3 => ?_) (fun c3 => ?_)
      · replace h := it_t c3 h
        refine RN_iconst (pc := 27) (n := 1) (v := 1) (by decide +kernel) (by decide) ?_
        refine RN_goto (pc := 28) (off := 4) (tgt := 32) (by decide +kernel) (by decide) ?_
        obtain rfl := some_el h
        exact RN_zreturn (by decide +kernel) rfl (Or.inr rfl)
      · replace h := it_f c3 h
        refine RN_iload_n (pc := 15) (k := 1) (by decide +kernel) rfl rfl ?_
        refine RN_bipush (pc := 16) (n := 6) (v := 6) (by decide +kernel) (by decide) ?_
        refine RN_icmp_eq (pc := 18) (off := 9) (tgt := 27) (by decide +kernel) (by decide) (fun c4 => ?_) (fun c4 => ?_)
        · replace h := it_t c4 h
          refine RN_iconst (pc := 27) (n := 1) (v := 1) (by decide +kernel) (by decide) ?_
          refine RN_goto (pc := 28) (off := 4) (tgt := 32) (by decide +kernel) (by decide) ?_
          obtain rfl := some_el h
          exact RN_zreturn (by decide +kernel) rfl (Or.inr rfl)
        · replace h := it_f c4 h
          refine RN_iload_n (pc := 21) (k := 1) (by decide +kernel) rfl rfl ?_
          refine RN_bipush (pc := 22) (n := 11) (v := 11) (by decide +kernel) (by decide) ?_
          refine RN_icmp_ne (pc := 24) (off := 7) (tgt := 31) (by decide +kernel) (by decide) (fun c5 => ?_) (fun c5 => ?_)
          · replace h := it_f c5 h
            refine RN_iconst (pc := 31) (n := 0) (v := 0) (by decide +kernel) (by decide) ?_
            obtain rfl := some_el h
            exact RN_zreturn (by decide +kernel) rfl (Or.inl rfl)
          · replace h := it_t c5 h
            refine RN_iconst (pc := 27) (n := 1) (v := 1) (by decide +kernel) (by decide) ?_
            refine RN_goto (pc := 28) (off := 4) (tgt := 32) (by decide +kernel) (by decide) ?_
            obtain rfl := some_el h
            exact RN_zreturn (by decide +kernel) rfl (Or.inr rfl)
def b_X12_chooses_21 (v0 : Nat) (v1 : Int32) (v2 : Int32) (σ : Sg) : Option Sg :=
  ck (okO σ v0 11) <|
  ck (¬ gR σ v0 11 = 0) <|
  nm (gR σ v0 11) fun r26 =>
  ck (okW σ r26 13 v1) <|
  nm (pI σ r26 v1.toNatClampNeg v2) fun σ28 =>
  some σ28
set_option maxRecDepth 20000 in
theorem tb_X12_chooses_21 {G : Gl} {σr : Sg} (v0 : Nat) (v1 : Int32) (v2 : Int32) (σ : Sg) (h : b_X12_chooses_21 v0 v1 v2 σ = some σr) : RN G M_X12_chooses 21 [some (.ref v0), some (.int v1), some (.int v2)] [] σ (.inl none) σr := by
  unfold b_X12_chooses_21 at h
  refine RN_aload_n (pc := 21) (k := 0) (by decide +kernel) rfl rfl ?_
  obtain ⟨c24, h⟩ := ck_el h
  obtain ⟨c25, h⟩ := ck_el h
  refine RN_getR (pc := 22) (idx := 34) (ci := 11) (k := 11) (by decide +kernel) lf_RX12_34 rfl c24 c25 ?_
  obtain ⟨r26, er26, h⟩ := nm_el h
  refine RN_nmR er26 ?_
  refine RN_iload_n (pc := 25) (k := 1) (by decide +kernel) rfl rfl ?_
  refine RN_iload_n (pc := 26) (k := 2) (by decide +kernel) rfl rfl ?_
  obtain ⟨c27, h⟩ := ck_el h
  refine RN_iast (pc := 27) (by decide +kernel) c27 ?_
  obtain ⟨σ28, eσ28, h⟩ := nm_el h
  refine RN_nmS eσ28 ?_
  refine RN_goto (pc := 28) (off := 10) (tgt := 38) (by decide +kernel) (by decide) ?_
  obtain rfl := some_el h
  exact RN_return (by decide +kernel) rfl
def f_X12_chooses (v0 : Nat) (v1 : Int32) (v2 : Int32) (σ : Sg) : Option Sg :=
  ck (okO σ v0 11) <|
  ck (¬ gR σ v0 9 = 0) <|
  nm (gR σ v0 9) fun r21 =>
  ck (okA σ r21 13 v1) <|
  if (gI σ r21 v1.toNatClampNeg) = (4 : Int32) then (
    b_X12_chooses_21 v0 v1 v2 σ)
  else (
    nm (gR σ v0 9) fun r29 =>
    ck (okA σ r29 13 v1) <|
    if (gI σ r29 v1.toNatClampNeg) = (6 : Int32) then (
      b_X12_chooses_21 v0 v1 v2 σ)
    else (
      ck (¬ gR σ v0 12 = 0) <|
      nm (gR σ v0 12) fun r33 =>
      ck (okW σ r33 13 v1) <|
      nm (pI σ r33 v1.toNatClampNeg v2) fun σ35 =>
      some σ35))
set_option maxRecDepth 20000 in
theorem t_X12_chooses {G : Gl} {σr : Sg} {v0 : Nat} {v1 : Int32} {v2 : Int32} {σ : Sg} (h : f_X12_chooses v0 v1 v2 σ = some σr) : MT G M_X12_chooses [.ref v0, .int v1, .int v2] σ none σr := by
  refine MT_of rfl rfl (Nat.le_of_ble_eq_true rfl) ?_
  show RN G M_X12_chooses 0 [some (.ref v0), some (.int v1), some (.int v2)] [] σ (.inl none) σr
  unfold f_X12_chooses at h
  refine RN_aload_n (pc := 0) (k := 0) (by decide +kernel) rfl rfl ?_
  obtain ⟨c19, h⟩ := ck_el h
  obtain ⟨c20, h⟩ := ck_el h
  refine RN_getR (pc := 1) (idx := 28) (ci := 11) (k := 9) (by decide +kernel) lf_RX12_28 rfl c19 c20 ?_
  obtain ⟨r21, er21, h⟩ := nm_el h
  refine RN_nmR er21 ?_
  refine RN_iload_n (pc := 4) (k := 1) (by decide +kernel) rfl rfl ?_
  obtain ⟨c22, h⟩ := ck_el h
  refine RN_iald (pc := 5) (by decide +kernel) c22 ?_
  refine RN_iconst (pc := 6) (n := 4) (v := 4) (by decide +kernel) (by decide) ?_
  refine RN_icmp_eq (pc := 7) (off := 14) (tgt := 21) (by decide +kernel) (by decide) (fun c23 => ?_) (fun c23 => ?_)
  · replace h := it_t c23 h
    exact RN_weak (l := [some (.ref v0), some (.int v1), some (.int v2)]) (And.intro rfl (And.intro rfl (And.intro rfl trivial))) (tb_X12_chooses_21 v0 v1 v2 σ h)
  · replace h := it_f c23 h
    refine RN_aload_n (pc := 10) (k := 0) (by decide +kernel) rfl rfl ?_
    refine RN_getR (pc := 11) (idx := 28) (ci := 11) (k := 9) (by decide +kernel) lf_RX12_28 rfl c19 c20 ?_
    obtain ⟨r29, er29, h⟩ := nm_el h
    refine RN_nmR er29 ?_
    refine RN_iload_n (pc := 14) (k := 1) (by decide +kernel) rfl rfl ?_
    obtain ⟨c30, h⟩ := ck_el h
    refine RN_iald (pc := 15) (by decide +kernel) c30 ?_
    refine RN_bipush (pc := 16) (n := 6) (v := 6) (by decide +kernel) (by decide) ?_
    refine RN_icmp_ne (pc := 18) (off := 13) (tgt := 31) (by decide +kernel) (by decide) (fun c31 => ?_) (fun c31 => ?_)
    · replace h := it_f c31 h
      refine RN_aload_n (pc := 31) (k := 0) (by decide +kernel) rfl rfl ?_
      obtain ⟨c32, h⟩ := ck_el h
      refine RN_getR (pc := 32) (idx := 37) (ci := 11) (k := 12) (by decide +kernel) lf_RX12_37 rfl c19 c32 ?_
      obtain ⟨r33, er33, h⟩ := nm_el h
      refine RN_nmR er33 ?_
      refine RN_iload_n (pc := 35) (k := 1) (by decide +kernel) rfl rfl ?_
      refine RN_iload_n (pc := 36) (k := 2) (by decide +kernel) rfl rfl ?_
      obtain ⟨c34, h⟩ := ck_el h
      refine RN_iast (pc := 37) (by decide +kernel) c34 ?_
      obtain ⟨σ35, eσ35, h⟩ := nm_el h
      refine RN_nmS eσ35 ?_
      obtain rfl := some_el h
      exact RN_return (by decide +kernel) rfl
    · replace h := it_t c31 h
      exact RN_weak (l := [some (.ref v0), some (.int v1), some (.int v2)]) (And.intro rfl (And.intro rfl (And.intro rfl trivial))) (tb_X12_chooses_21 v0 v1 v2 σ h)
