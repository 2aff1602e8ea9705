def b_X12_isUnfair_99 (k25 : Int32 → Int32 → Option Int32) (n : Nat) (v0 : Nat) (v2 : Int64) (v4 : Int32) (s0 : Int32) (σ : Sg) : Option Int32 :=
  nm (v4 + (1 : Int32)) fun x33 =>
  k25 s0 x33
set_option maxRecDepth 20000 in
theorem tb_X12_isUnfair_99 {G : Gl} {xr : Int32} (n : Nat) (v0 : Nat) (v2 : Int64) (v4 : Int32) (s0 : Int32) (σ : Sg) (k25 : Int32 → Int32 → Option Int32) (hk25 : ∀ (c1 : Int32) (c4 : Int32), k25 c1 c4 = some xr → RN G M_X12_isUnfair 25 [some (.ref v0), some (.int c1), some (.long v2), none, some (.int c4)] [] σ (.inl (some (.int xr))) σ) (h : b_X12_isUnfair_99 k25 n v0 v2 v4 s0 σ = some xr) : RN G M_X12_isUnfair 99 [some (.ref v0), none, some (.long v2), none, some (.int v4)] [.int s0] σ (.inl (some (.int xr))) σ := by
  unfold b_X12_isUnfair_99 at h
  refine RN_istore_n (pc := 99) (k := 1) (ls2 := [some (.ref v0), some (.int s0), some (.long v2), none, some (.int v4)]) (by decide +kernel) rfl (by decide) rfl ?_
  obtain ⟨x33, ex33, h⟩ := nm_el h
  refine RN_iinc (pc := 100) (i := 4) (n := 1) (v := x33) (ls2 := [some (.ref v0), some (.int s0), some (.long v2), none, some (.int x33)]) (by decide +kernel) rfl (by rw [ex33]; rfl) (by decide) rfl ?_
  refine RN_goto (pc := 103) (off := -78) (tgt := 25) (by decide +kernel) (by decide) ?_
  exact RN_weak (l := [some (.ref v0), some (.int s0), some (.long v2), none, some (.int x33)]) (And.intro rfl (And.intro rfl (And.intro rfl (And.intro rfl trivial)))) (hk25 s0 x33 h)
def b_X12_isUnfair_94 (k25 : Int32 → Int32 → Option Int32) (n : Nat) (v0 : Nat) (v2 : Int64) (v4 : Int32) (σ : Sg) : Option Int32 :=
  b_X12_isUnfair_99 k25 n v0 v2 v4 (1 : Int32) σ
set_option maxRecDepth 20000 in
theorem tb_X12_isUnfair_94 {G : Gl} {xr : Int32} (n : Nat) (v0 : Nat) (v2 : Int64) (v4 : Int32) (σ : Sg) (k25 : Int32 → Int32 → Option Int32) (hk25 : ∀ (c1 : Int32) (c4 : Int32), k25 c1 c4 = some xr → RN G M_X12_isUnfair 25 [some (.ref v0), some (.int c1), some (.long v2), none, some (.int c4)] [] σ (.inl (some (.int xr))) σ) (h : b_X12_isUnfair_94 k25 n v0 v2 v4 σ = some xr) : RN G M_X12_isUnfair 94 [some (.ref v0), none, some (.long v2), none, some (.int v4)] [] σ (.inl (some (.int xr))) σ := by
  unfold b_X12_isUnfair_94 at h
  refine RN_iconst (pc := 94) (n := 1) (v := 1) (by decide +kernel) (by decide) ?_
  refine RN_goto (pc := 95) (off := 4) (tgt := 99) (by decide +kernel) (by decide) ?_
  exact RN_weak (l := [some (.ref v0), none, some (.long v2), none, some (.int v4)]) (And.intro rfl (And.intro rfl (And.intro rfl trivial))) (tb_X12_isUnfair_99 n v0 v2 v4 (1 : Int32) σ k25 hk25 h)
def b_X12_isUnfair_25 : Nat → Nat → Int32 → Int64 → Int32 → Sg → Option Int32
  | 0, _, _, _, _, _ => none
  | n + 1, v0, v1, v2, v4, σ =>
  ck (okO σ v0 11) <|
  if (gI σ v0 27) = 0 then (
    ck (v1 = 0 ∨ v1 = 1) <|
    some v1)
  else (
    bp (f_X12_partsOf n v0 (gI σ v0 30) σ) fun x23 =>
    if x23 ≤ v4 then (
      ck (v1 = 0 ∨ v1 = 1) <|
      some v1)
    else (
      ck (¬ gR σ v0 21 = 0) <|
      nm (gR σ v0 21) fun r27 =>
      ck (okA σ r27 14 ((8 : Int32) + v4)) <|
      bp (f_X12_weighed n v0 (gI σ v0 30) v4 σ) fun x30 =>
      nm (((gJ σ r27 ((8 : Int32) + v4).toNatClampNeg) * v2) - ((gJ σ v0 29) * x30)) fun x31 =>
      if v1 = 0 then (
        if v2 ≤ x31 then (
          b_X12_isUnfair_94 (fun c1 c4 => b_X12_isUnfair_25 n v0 c1 v2 c4 σ) n v0 v2 v4 σ)
        else (
          if (-v2) < x31 then (
            b_X12_isUnfair_99 (fun c1 c4 => b_X12_isUnfair_25 n v0 c1 v2 c4 σ) n v0 v2 v4 (0 : Int32) σ)
          else (
            b_X12_isUnfair_94 (fun c1 c4 => b_X12_isUnfair_25 n v0 c1 v2 c4 σ) n v0 v2 v4 σ)))
      else (
        b_X12_isUnfair_94 (fun c1 c4 => b_X12_isUnfair_25 n v0 c1 v2 c4 σ) n v0 v2 v4 σ)))
set_option maxRecDepth 20000 in
theorem tb_X12_isUnfair_25 {G : Gl} {xr : Int32} (v0 : Nat) (v2 : Int64) (σ : Sg) : ∀ (n : Nat) (v1 : Int32) (v4 : Int32), b_X12_isUnfair_25 n v0 v1 v2 v4 σ = some xr → RN G M_X12_isUnfair 25 [some (.ref v0), some (.int v1), some (.long v2), none, some (.int v4)] [] σ (.inl (some (.int xr))) σ := by
  intro n
  induction n with
  | zero =>
    intro v1 v4 h
    exact none_el h
  | succ n ih =>
    intro v1 v4 h
    rw [b_X12_isUnfair_25] at h
    refine RN_aload_n (pc := 25) (k := 0) (by decide +kernel) rfl rfl ?_
    obtain ⟨c19, h⟩ := ck_el h
    refine RN_getI (pc := 26) (idx := 152) (ci := 11) (k := 27) (by decide +kernel) lf_RX12_152 (Or.inr rfl) c19 ?_
    refine RN_if_eq (pc := 29) (off := 77) (tgt := 106) (by decide +kernel) (by decide) (fun c20 => ?_) (fun c20 => ?_)
    · replace h := it_t c20 h
      refine RN_iload_n (pc := 106) (k := 1) (by decide +kernel) rfl rfl ?_
      obtain ⟨c21, h⟩ := ck_el h
      obtain rfl := some_el h
      exact RN_zreturn (by decide +kernel) rfl c21
    · replace h := it_f c20 h
      refine RN_iload (pc := 32) (i := 4) (by decide +kernel) rfl ?_
      refine RN_aload_n (pc := 34) (k := 0) (by decide +kernel) rfl rfl ?_
      refine RN_aload_n (pc := 35) (k := 0) (by decide +kernel) rfl rfl ?_
      refine RN_getI (pc := 36) (idx := 257) (ci := 11) (k := 30) (by decide +kernel) lf_RX12_257 (Or.inl rfl) c19 ?_
      obtain ⟨x23, f22, h⟩ := bp_el h
      refine RN_callV (M := M_X12_isUnfair) (pc := 39) (idx := 223) (as := [.int (gI σ v0 30)]) (st := [.int v4]) (t_X12_partsOf f22) (by decide +kernel) lk_RX12_223 rfl ⟨by decide, fun q hq => by cases hq; rfl⟩ c19 (Nat.le_of_ble_eq_true rfl) ⟨Nat.le_of_ble_eq_true rfl, Nat.le_of_ble_eq_true rfl⟩ rfl ?_
      show RN G M_X12_isUnfair 42 [some (.ref v0), some (.int v1), some (.long v2), none, some (.int v4)] [.int x23, .int v4] σ _ _
      refine RN_icmp_ge (pc := 42) (off := 64) (tgt := 106) (by decide +kernel) (by decide) (fun c24 => ?_) (fun c24 => ?_)
      · replace h := it_t c24 h
        refine RN_iload_n (pc := 106) (k := 1) (by decide +kernel) rfl rfl ?_
        obtain ⟨c25, h⟩ := ck_el h
        obtain rfl := some_el h
        exact RN_zreturn (by decide +kernel) rfl c25
      · replace h := it_f c24 h
        refine RN_aload_n (pc := 45) (k := 0) (by decide +kernel) rfl rfl ?_
        obtain ⟨c26, h⟩ := ck_el h
        refine RN_getR (pc := 46) (idx := 54) (ci := 11) (k := 21) (by decide +kernel) lf_RX12_54 rfl c19 c26 ?_
        obtain ⟨r27, er27, h⟩ := nm_el h
        refine RN_nmR er27 ?_
        refine RN_bipush (pc := 49) (n := 8) (v := 8) (by decide +kernel) (by decide) ?_
        refine RN_iload (pc := 51) (i := 4) (by decide +kernel) rfl ?_
        refine RN_iadd (pc := 53) (by decide +kernel) ?_
        obtain ⟨c28, h⟩ := ck_el h
        refine RN_lald (pc := 54) (by decide +kernel) c28 ?_
        refine RN_lload_n (pc := 55) (k := 2) (by decide +kernel) rfl rfl ?_
        refine RN_lmul (pc := 56) (by decide +kernel) ?_
        refine RN_aload_n (pc := 57) (k := 0) (by decide +kernel) rfl rfl ?_
        refine RN_getJ (pc := 58) (idx := 253) (ci := 11) (k := 29) (by decide +kernel) lf_RX12_253 rfl c19 ?_
        refine RN_aload_n (pc := 61) (k := 0) (by decide +kernel) rfl rfl ?_
        refine RN_aload_n (pc := 62) (k := 0) (by decide +kernel) rfl rfl ?_
        refine RN_getI (pc := 63) (idx := 257) (ci := 11) (k := 30) (by decide +kernel) lf_RX12_257 (Or.inl rfl) c19 ?_
        refine RN_iload (pc := 66) (i := 4) (by decide +kernel) rfl ?_
        obtain ⟨x30, f29, h⟩ := bp_el h
        refine RN_callV (M := M_X12_isUnfair) (pc := 68) (idx := 227) (as := [.int (gI σ v0 30), .int v4]) (st := [.long (gJ σ v0 29), .long ((gJ σ r27 ((8 : Int32) + v4).toNatClampNeg) * v2)]) (t_X12_weighed f29) (by decide +kernel) lk_RX12_227 rfl ⟨by decide, fun q hq => by cases hq; rfl⟩ c19 (Nat.le_of_ble_eq_true rfl) ⟨Nat.le_of_ble_eq_true rfl, Nat.le_of_ble_eq_true rfl⟩ rfl ?_
        show RN G M_X12_isUnfair 71 [some (.ref v0), some (.int v1), some (.long v2), none, some (.int v4)] [.long x30, .long (gJ σ v0 29), .long ((gJ σ r27 ((8 : Int32) + v4).toNatClampNeg) * v2)] σ _ _
        refine RN_lmul (pc := 71) (by decide +kernel) ?_
        refine RN_lsub (pc := 72) (by decide +kernel) ?_
        obtain ⟨x31, ex31, h⟩ := nm_el h
        refine RN_nmJ ex31 ?_
        refine RN_lstore (pc := 73) (i := 5) (ls2 := [some (.ref v0), some (.int v1), some (.long v2), none, some (.int v4), some (.long x31), none]) (by decide +kernel) (by decide) rfl ?_
        refine RN_iload_n (pc := 75) (k := 1) (by decide +kernel) rfl rfl ?_
        refine RN_if_ne (pc := 76) (off := 18) (tgt := 94) (by decide +kernel) (by decide) (fun c32 => ?_) (fun c32 => ?_)
        · replace h := it_f c32 h
          exact RN_weak (l := [some (.ref v0), none, some (.long v2), none, some (.int v4)]) (And.intro rfl (And.intro rfl (And.intro rfl trivial))) (tb_X12_isUnfair_94 n v0 v2 v4 σ _ (fun c1 c4 h => ih c1 c4 h) h)
        · replace h := it_t c32 h
          refine RN_lload (pc := 79) (i := 5) (by decide +kernel) rfl ?_
          refine RN_lload_n (pc := 81) (k := 2) (by decide +kernel) rfl rfl ?_
          refine RN_lc_ge (pc := 82) (off := 11) (tgt := 94) (by decide +kernel) (by decide +kernel) (by decide) (fun c34 => ?_) (fun c34 => ?_)
          · replace h := it_t c34 h
            exact RN_weak (l := [some (.ref v0), none, some (.long v2), none, some (.int v4)]) (And.intro rfl (And.intro rfl (And.intro rfl trivial))) (tb_X12_isUnfair_94 n v0 v2 v4 σ _ (fun c1 c4 h => ih c1 c4 h) h)
          · replace h := it_f c34 h
            refine RN_lload (pc := 86) (i := 5) (by decide +kernel) rfl ?_
            refine RN_lload_n (pc := 88) (k := 2) (by decide +kernel) rfl rfl ?_
            refine RN_lneg (pc := 89) (by decide +kernel) ?_
            refine RN_lc_gt (pc := 90) (off := 7) (tgt := 98) (by decide +kernel) (by decide +kernel) (by decide) (fun c35 => ?_) (fun c35 => ?_)
            · replace h := it_t c35 h
              refine RN_iconst (pc := 98) (n := 0) (v := 0) (by decide +kernel) (by decide) ?_
              exact RN_weak (l := [some (.ref v0), none, some (.long v2), none, some (.int v4)]) (And.intro rfl (And.intro rfl (And.intro rfl trivial))) (tb_X12_isUnfair_99 n v0 v2 v4 (0 : Int32) σ _ (fun c1 c4 h => ih c1 c4 h) h)
            · replace h := it_f c35 h
              exact RN_weak (l := [some (.ref v0), none, some (.long v2), none, some (.int v4)]) (And.intro rfl (And.intro rfl (And.intro rfl trivial))) (tb_X12_isUnfair_94 n v0 v2 v4 σ _ (fun c1 c4 h => ih c1 c4 h) h)
def b_X12_isUnfair_21 (n : Nat) (v0 : Nat) (v1 : Int32) (s0 : Int64) (σ : Sg) : Option Int32 :=
  b_X12_isUnfair_25 n v0 v1 s0 (0 : Int32) σ
set_option maxRecDepth 20000 in
theorem tb_X12_isUnfair_21 {G : Gl} {xr : Int32} (n : Nat) (v0 : Nat) (v1 : Int32) (s0 : Int64) (σ : Sg) (h : b_X12_isUnfair_21 n v0 v1 s0 σ = some xr) : RN G M_X12_isUnfair 21 [some (.ref v0), some (.int v1)] [.long s0] σ (.inl (some (.int xr))) σ := by
  unfold b_X12_isUnfair_21 at h
  refine RN_lstore_n (pc := 21) (k := 2) (ls2 := [some (.ref v0), some (.int v1), some (.long s0), none]) (by decide +kernel) rfl (by decide) rfl ?_
  refine RN_iconst (pc := 22) (n := 0) (v := 0) (by decide +kernel) (by decide) ?_
  refine RN_istore (pc := 23) (i := 4) (ls2 := [some (.ref v0), some (.int v1), some (.long s0), none, some (.int (0 : Int32))]) (by decide +kernel) (by decide) rfl ?_
  exact RN_weak (l := [some (.ref v0), some (.int v1), some (.long s0), none, some (.int (0 : Int32))]) (And.intro rfl (And.intro rfl (And.intro rfl (And.intro rfl trivial)))) (tb_X12_isUnfair_25 v0 s0 σ n v1 (0 : Int32) h)
def f_X12_isUnfair (n : Nat) (v0 : Nat) (σ : Sg) : Option Int32 :=
  ck (okO σ v0 11) <|
  if (gI σ v0 27) = 0 then (
    b_X12_isUnfair_21 n v0 (0 : Int32) (1 : Int64) σ)
  else (
    bp (f_X12_allWeights n v0 (gI σ v0 30) σ) fun x37 =>
    b_X12_isUnfair_21 n v0 (0 : Int32) x37 σ)
set_option maxRecDepth 20000 in
theorem t_X12_isUnfair {G : Gl} {xr : Int32} {n : Nat} {v0 : Nat} {σ : Sg} (h : f_X12_isUnfair n v0 σ = some xr) : MT G M_X12_isUnfair [.ref v0] σ (some (.int xr)) σ := by
  refine MT_of rfl rfl (Nat.le_of_ble_eq_true rfl) ?_
  show RN G M_X12_isUnfair 0 [some (.ref v0)] [] σ (.inl (some (.int xr))) σ
  unfold f_X12_isUnfair at h
  refine RN_iconst (pc := 0) (n := 0) (v := 0) (by decide +kernel) (by decide) ?_
  refine RN_istore_n (pc := 1) (k := 1) (ls2 := [some (.ref v0), some (.int (0 : Int32))]) (by decide +kernel) rfl (by decide) rfl ?_
  refine RN_aload_n (pc := 2) (k := 0) (by decide +kernel) rfl rfl ?_
  obtain ⟨c17, h⟩ := ck_el h
  refine RN_getI (pc := 3) (idx := 152) (ci := 11) (k := 27) (by decide +kernel) lf_RX12_152 (Or.inr rfl) c17 ?_
  refine RN_if_eq (pc := 6) (off := 14) (tgt := 20) (by decide +kernel) (by decide) (fun c18 => ?_) (fun c18 => ?_)
  · replace h := it_t c18 h
    refine RN_lconst (pc := 20) (n := 1) (v := 1) (by decide +kernel) (by decide) ?_
    exact RN_weak (l := [some (.ref v0), some (.int (0 : Int32))]) (And.intro rfl (And.intro rfl trivial)) (tb_X12_isUnfair_21 n v0 (0 : Int32) (1 : Int64) σ h)
  · replace h := it_f c18 h
    refine RN_aload_n (pc := 9) (k := 0) (by decide +kernel) rfl rfl ?_
    refine RN_aload_n (pc := 10) (k := 0) (by decide +kernel) rfl rfl ?_
    refine RN_getI (pc := 11) (idx := 257) (ci := 11) (k := 30) (by decide +kernel) lf_RX12_257 (Or.inl rfl) c17 ?_
    obtain ⟨x37, f36, h⟩ := bp_el h
    refine RN_callV (M := M_X12_isUnfair) (pc := 14) (idx := 231) (as := [.int (gI σ v0 30)]) (st := []) (t_X12_allWeights f36) (by decide +kernel) lk_RX12_231 rfl ⟨by decide, fun q hq => by cases hq; rfl⟩ c17 (Nat.le_of_ble_eq_true rfl) ⟨Nat.le_of_ble_eq_true rfl, Nat.le_of_ble_eq_true rfl⟩ rfl ?_
    show RN G M_X12_isUnfair 17 [some (.ref v0), some (.int (0 : Int32))] [.long x37] σ _ _
    refine RN_goto (pc := 17) (off := 4) (tgt := 21) (by decide +kernel) (by decide) ?_
    exact RN_weak (l := [some (.ref v0), some (.int (0 : Int32))]) (And.intro rfl (And.intro rfl trivial)) (tb_X12_isUnfair_21 n v0 (0 : Int32) x37 σ h)
def f_X12_rateF (v0 : Nat) (v1 : Int32) (σ : Sg) : Option UInt64 :=
  ck (okO σ v0 11) <|
  ck (¬ gR σ v0 1 = 0) <|
  nm (gR σ v0 1) fun r11 =>
  ck (okA σ r11 13 v1) <|
  ck (¬ gR σ v0 2 = 0) <|
  nm (gR σ v0 2) fun r14 =>
  ck (okA σ r14 13 v1) <|
  ck (n64 (FP.ddiv (FP.i2d (gI σ r11 v1.toNatClampNeg)) (FP.i2d (gI σ r14 v1.toNatClampNeg)))) <|
  some (FP.ddiv (FP.i2d (gI σ r11 v1.toNatClampNeg)) (FP.i2d (gI σ r14 v1.toNatClampNeg)))
set_option maxRecDepth 20000 in
theorem t_X12_rateF {G : Gl} {xr : UInt64} {v0 : Nat} {v1 : Int32} {σ : Sg} (h : f_X12_rateF v0 v1 σ = some xr) : MT G M_X12_rateF [.ref v0, .int v1] σ (some (.double xr)) σ := by
  refine MT_of rfl rfl (Nat.le_of_ble_eq_true rfl) ?_
  show RN G M_X12_rateF 0 [some (.ref v0), some (.int v1)] [] σ (.inl (some (.double xr))) σ
  unfold f_X12_rateF at h
  refine RN_aload_n (pc := 0) (k := 0) (by decide +kernel) rfl rfl ?_
  obtain ⟨c9, h⟩ := ck_el h
  obtain ⟨c10, h⟩ := ck_el h
  refine RN_getR (pc := 1) (idx := 7) (ci := 11) (k := 1) (by decide +kernel) lf_RX12_7 rfl c9 c10 ?_
  obtain ⟨r11, er11, h⟩ := nm_el h
  refine RN_nmR er11 ?_
  refine RN_iload_n (pc := 4) (k := 1) (by decide +kernel) rfl rfl ?_
  obtain ⟨c12, h⟩ := ck_el h
  refine RN_iald (pc := 5) (by decide +kernel) c12 ?_
  refine RN_i2d (pc := 6) (by decide +kernel) ?_
  refine RN_aload_n (pc := 7) (k := 0) (by decide +kernel) rfl rfl ?_
  obtain ⟨c13, h⟩ := ck_el h
  refine RN_getR (pc := 8) (idx := 13) (ci := 11) (k := 2) (by decide +kernel) lf_RX12_13 rfl c9 c13 ?_
  obtain ⟨r14, er14, h⟩ := nm_el h
  refine RN_nmR er14 ?_
  refine RN_iload_n (pc := 11) (k := 1) (by decide +kernel) rfl rfl ?_
  obtain ⟨c15, h⟩ := ck_el h
  refine RN_iald (pc := 12) (by decide +kernel) c15 ?_
  refine RN_i2d (pc := 13) (by decide +kernel) ?_
  obtain ⟨c16, h⟩ := ck_el h
  refine RN_ddiv (pc := 14) (by decide +kernel) c16 ?_
  obtain rfl := some_el h
  exact RN_dreturn (by decide +kernel) rfl
def f_Jxfc994_rint_294c1 (v0 : UInt64) : Option UInt64 :=
  ck (FP.dIsNaN v0 = false) <|
  nm (Jvm.copySign64 (FP.dconst1) v0) fun x10 =>
  ck (n64 v0) <|
  nm (v0 &&& 0x7fffffffffffffff) fun x12 =>
  if 0 ≤ (Op.cmpValue (FP.dcmp x12 (4841369599423283200 : UInt64)) .g) then (
    ck (n64 (FP.dmul x10 x12)) <|
    some (FP.dmul x10 x12))
  else (
    ck (n64 (FP.dadd (4841369599423283200 : UInt64) x12)) <|
    ck (n64 (FP.dsub (FP.dadd (4841369599423283200 : UInt64) x12) (4841369599423283200 : UInt64))) <|
    nm (FP.dsub (FP.dadd (4841369599423283200 : UInt64) x12) (4841369599423283200 : UInt64)) fun x17 =>
    ck (n64 (FP.dmul x10 x17)) <|
    some (FP.dmul x10 x17))
set_option maxRecDepth 20000 in
theorem t_Jxfc994_rint_294c1 {G : Gl} {xr : UInt64} {v0 : UInt64} {σ : Sg} (h : f_Jxfc994_rint_294c1 v0 = some xr) : MT G M_Jxfc994_rint_294c1 [.double v0] σ (some (.double xr)) σ := by
  refine MT_ofF (by decide +kernel) rfl (Nat.le_of_ble_eq_true rfl) ?_
  show RN G M_Jxfc994_rint_294c1 0 [some (.double v0), none] [] σ (.inl (some (.double xr))) σ
  unfold f_Jxfc994_rint_294c1 at h
  refine RN_ldc2d (pc := 0) (idx := 93) (v := 4841369599423283200) (by decide +kernel) kc_RJxfc994_93 ?_
  refine RN_dstore_n (pc := 3) (k := 2) (ls2 := [some (.double v0), none, some (.double (4841369599423283200 : UInt64)), none]) (by decide +kernel) rfl (by decide) rfl ?_
  refine RN_dconst1 (pc := 4) (by decide +kernel) ?_
  refine RN_dload_n (pc := 5) (k := 0) (by decide +kernel) rfl rfl ?_
  obtain ⟨c9, h⟩ := ck_el h
  refine RN_mcopy (pc := 6) (idx := 95) (by decide +kernel) ma_RJxfc994_95 ma_copySign_s ma_ini ma_copySign_c c9 (by decide) (by decide) (Nat.le_of_ble_eq_true rfl) ?_
  obtain ⟨x10, ex10, h⟩ := nm_el h
  refine RN_nmD ex10 ?_
  refine RN_dstore (pc := 9) (i := 4) (ls2 := [some (.double v0), none, some (.double (4841369599423283200 : UInt64)), none, some (.double x10), none]) (by decide +kernel) (by decide) rfl ?_
  refine RN_dload_n (pc := 11) (k := 0) (by decide +kernel) rfl rfl ?_
  obtain ⟨c11, h⟩ := ck_el h
  refine RN_mabs (pc := 12) (idx := 98) (by decide +kernel) ma_RJxfc994_98 ma_abs_s ma_ini ma_abs_c c11 (by decide) (by decide) (Nat.le_of_ble_eq_true rfl) ?_
  obtain ⟨x12, ex12, h⟩ := nm_el h
  refine RN_nmD ex12 ?_
  refine RN_dstore_n (pc := 15) (k := 0) (ls2 := [some (.double x12), none, some (.double (4841369599423283200 : UInt64)), none, some (.double x10), none]) (by decide +kernel) rfl (by decide) rfl ?_
  refine RN_dload_n (pc := 16) (k := 0) (by decide +kernel) rfl rfl ?_
  refine RN_dload_n (pc := 17) (k := 2) (by decide +kernel) rfl rfl ?_
  refine RN_dcmp (pc := 18) (op := .g) (by decide +kernel) ?_
  refine RN_if_ge (pc := 19) (off := 9) (tgt := 28) (by decide +kernel) (by decide) (fun c13 => ?_) (fun c13 => ?_)
  · replace h := it_t c13 h
    refine RN_dload (pc := 28) (i := 4) (by decide +kernel) rfl ?_
    refine RN_dload_n (pc := 30) (k := 0) (by decide +kernel) rfl rfl ?_
    obtain ⟨c14, h⟩ := ck_el h
    refine RN_dmul (pc := 31) (by decide +kernel) c14 ?_
    obtain rfl := some_el h
    exact RN_dreturn (by decide +kernel) rfl
  · replace h := it_f c13 h
    refine RN_dload_n (pc := 22) (k := 2) (by decide +kernel) rfl rfl ?_
    refine RN_dload_n (pc := 23) (k := 0) (by decide +kernel) rfl rfl ?_
    obtain ⟨c15, h⟩ := ck_el h
    refine RN_dadd (pc := 24) (by decide +kernel) c15 ?_
    refine RN_dload_n (pc := 25) (k := 2) (by decide +kernel) rfl rfl ?_
    obtain ⟨c16, h⟩ := ck_el h
    refine RN_dsub (pc := 26) (by decide +kernel) c16 ?_
    obtain ⟨x17, ex17, h⟩ := nm_el h
    refine RN_nmD ex17 ?_
    refine RN_dstore_n (pc := 27) (k := 0) (ls2 := [some (.double x17), none, some (.double (4841369599423283200 : UInt64)), none, some (.double x10), none]) (by decide +kernel) rfl (by decide) rfl ?_
    refine RN_dload (pc := 28) (i := 4) (by decide +kernel) rfl ?_
    refine RN_dload_n (pc := 30) (k := 0) (by decide +kernel) rfl rfl ?_
    obtain ⟨c18, h⟩ := ck_el h
    refine RN_dmul (pc := 31) (by decide +kernel) c18 ?_
    obtain rfl := some_el h
    exact RN_dreturn (by decide +kernel) rfl
def b_X12_roundedF_68 (v2 : UInt64) (s0 : UInt64) : Option UInt64 :=
  ck (n64 (FP.dmul s0 v2)) <|
  some (FP.dmul s0 v2)
set_option maxRecDepth 20000 in
theorem tb_X12_roundedF_68 {G : Gl} {xr : UInt64} {σ : Sg} (v2 : UInt64) (s0 : UInt64) (h : b_X12_roundedF_68 v2 s0 = some xr) : RN G M_X12_roundedF 68 [none, none, some (.double v2)] [.double s0] σ (.inl (some (.double xr))) σ := by
  unfold b_X12_roundedF_68 at h
  refine RN_dstore (pc := 68) (i := 7) (ls2 := [none, none, some (.double v2), none, none, none, none, some (.double s0), none]) (by decide +kernel) (by decide) rfl ?_
  refine RN_goto (pc := 70) (off := 80) (tgt := 150) (by decide +kernel) (by decide) ?_
  refine RN_dload (pc := 150) (i := 7) (by decide +kernel) rfl ?_
  refine RN_dload_n (pc := 152) (k := 2) (by decide +kernel) rfl rfl ?_
  obtain ⟨c25, h⟩ := ck_el h
  refine RN_dmul (pc := 153) (by decide +kernel) c25 ?_
  obtain rfl := some_el h
  exact RN_dreturn (by decide +kernel) rfl
def b_X12_roundedF_103 (v2 : UInt64) (s0 : UInt64) : Option UInt64 :=
  ck (n64 (FP.dmul s0 v2)) <|
  some (FP.dmul s0 v2)
set_option maxRecDepth 20000 in
theorem tb_X12_roundedF_103 {G : Gl} {xr : UInt64} {σ : Sg} (v2 : UInt64) (s0 : UInt64) (h : b_X12_roundedF_103 v2 s0 = some xr) : RN G M_X12_roundedF 103 [none, none, some (.double v2)] [.double s0] σ (.inl (some (.double xr))) σ := by
  unfold b_X12_roundedF_103 at h
  refine RN_dstore (pc := 103) (i := 7) (ls2 := [none, none, some (.double v2), none, none, none, none, some (.double s0), none]) (by decide +kernel) (by decide) rfl ?_
  refine RN_goto (pc := 105) (off := 45) (tgt := 150) (by decide +kernel) (by decide) ?_
  refine RN_dload (pc := 150) (i := 7) (by decide +kernel) rfl ?_
  refine RN_dload_n (pc := 152) (k := 2) (by decide +kernel) rfl rfl ?_
  obtain ⟨c35, h⟩ := ck_el h
  refine RN_dmul (pc := 153) (by decide +kernel) c35 ?_
  obtain rfl := some_el h
  exact RN_dreturn (by decide +kernel) rfl
def b_X12_roundedF_128 (v2 : UInt64) (s0 : UInt64) : Option UInt64 :=
  ck (n64 (FP.dmul s0 v2)) <|
  some (FP.dmul s0 v2)
set_option maxRecDepth 20000 in
theorem tb_X12_roundedF_128 {G : Gl} {xr : UInt64} {σ : Sg} (v2 : UInt64) (s0 : UInt64) (h : b_X12_roundedF_128 v2 s0 = some xr) : RN G M_X12_roundedF 128 [none, none, some (.double v2)] [.double s0] σ (.inl (some (.double xr))) σ := by
  unfold b_X12_roundedF_128 at h
  refine RN_dstore (pc := 128) (i := 7) (ls2 := [none, none, some (.double v2), none, none, none, none, some (.double s0), none]) (by decide +kernel) (by decide) rfl ?_
  refine RN_goto (pc := 130) (off := 20) (tgt := 150) (by decide +kernel) (by decide) ?_
  refine RN_dload (pc := 150) (i := 7) (by decide +kernel) rfl ?_
  refine RN_dload_n (pc := 152) (k := 2) (by decide +kernel) rfl rfl ?_
  obtain ⟨c40, h⟩ := ck_el h
  refine RN_dmul (pc := 153) (by decide +kernel) c40 ?_
  obtain rfl := some_el h
  exact RN_dreturn (by decide +kernel) rfl
def f_X12_roundedF (v0 : UInt64) (v2 : UInt64) (v4 : Int32) : Option UInt64 :=
  ck (n64 (FP.ddiv v0 v2)) <|
  nm (FP.ddiv v0 v2) fun x21 =>
  if v4 = 0 then (
    if (Op.cmpValue (FP.dcmp x21 (FP.dconst0)) .g) < 0 then (
      ck (n64 (FP.dsub x21 (4602678819172646912 : UInt64))) <|
      b_X12_roundedF_68 v2 (Jvm.Free.Hsc.ceilOf (FP.dsub x21 (4602678819172646912 : UInt64))))
    else (
      ck (n64 (FP.dadd x21 (4602678819172646912 : UInt64))) <|
      b_X12_roundedF_68 v2 (Jvm.Free.Hsc.floorOf (FP.dadd x21 (4602678819172646912 : UInt64)))))
  else (
  if v4 = 1 then (
    bp (f_Jxfc994_rint_294c1 x21) fun x28 =>
    ck (n64 x28) <|
    ck (n64 (FP.dmul x28 v2)) <|
    some (FP.dmul x28 v2))
  else (
  if v4 = 2 then (
    if (Op.cmpValue (FP.dcmp x21 (FP.dconst0)) .l) ≤ 0 then (
      ck (n64 x21) <|
      b_X12_roundedF_103 v2 (Jvm.Free.Hsc.ceilOf x21))
    else (
      ck (n64 x21) <|
      b_X12_roundedF_103 v2 (Jvm.Free.Hsc.floorOf x21)))
  else (
  if v4 = 3 then (
    if (Op.cmpValue (FP.dcmp x21 (FP.dconst0)) .l) ≤ 0 then (
      ck (n64 x21) <|
      b_X12_roundedF_128 v2 (Jvm.Free.Hsc.floorOf x21))
    else (
      ck (n64 x21) <|
      b_X12_roundedF_128 v2 (Jvm.Free.Hsc.ceilOf x21)))
  else (
  if v4 = 4 then (
    ck (n64 x21) <|
    nm (Jvm.Free.Hsc.floorOf x21) fun x44 =>
    ck (n64 (FP.dmul x44 v2)) <|
    some (FP.dmul x44 v2))
  else (
    ck (n64 x21) <|
    nm (Jvm.Free.Hsc.ceilOf x21) fun x47 =>
    ck (n64 (FP.dmul x47 v2)) <|
    some (FP.dmul x47 v2))))))
set_option maxRecDepth 20000 in
theorem t_X12_roundedF {G : Gl} {xr : UInt64} {v0 : UInt64} {v2 : UInt64} {v4 : Int32} {σ : Sg} (h : f_X12_roundedF v0 v2 v4 = some xr) : MT G M_X12_roundedF [.double v0, .double v2, .int v4] σ (some (.double xr)) σ := by
  refine MT_of rfl rfl (Nat.le_of_ble_eq_true rfl) ?_
  show RN G M_X12_roundedF 0 [some (.double v0), none, some (.double v2), none, some (.int v4)] [] σ (.inl (some (.double xr))) σ
  unfold f_X12_roundedF at h
  refine RN_dload_n (pc := 0) (k := 0) (by decide +kernel) rfl rfl ?_
  refine RN_dload_n (pc := 1) (k := 2) (by decide +kernel) rfl rfl ?_
  obtain ⟨c20, h⟩ := ck_el h
  refine RN_ddiv (pc := 2) (by decide +kernel) c20 ?_
  obtain ⟨x21, ex21, h⟩ := nm_el h
  refine RN_nmD ex21 ?_
  refine RN_dstore (pc := 3) (i := 5) (ls2 := [some (.double v0), none, some (.double v2), none, some (.int v4), some (.double x21), none]) (by decide +kernel) (by decide) rfl ?_
  refine RN_iload (pc := 5) (i := 4) (by decide +kernel) rfl ?_
  by_cases c22 : v4 = 0
  · replace h := it_t c22 h
    refine RN_tsw (pc := 7) (dflt := 136) (lo := 0) (hi := 4) (offs := #[33, 66, 76, 101, 126]) (len := 33) (v := 0) (off := 33) (tgt := 40) c22 (by decide +kernel) (by decide) (by decide) (by decide +kernel) (by decide) ?_
    refine RN_dload (pc := 40) (i := 5) (by decide +kernel) rfl ?_
    refine RN_dconst0 (pc := 42) (by decide +kernel) ?_
    refine RN_dcmp (pc := 43) (op := .g) (by decide +kernel) ?_
    refine RN_if_lt (pc := 44) (off := 15) (tgt := 59) (by decide +kernel) (by decide) (fun c23 => ?_) (fun c23 => ?_)
    · replace h := it_t c23 h
      refine RN_dload (pc := 59) (i := 5) (by decide +kernel) rfl ?_
      refine RN_ldc2d (pc := 61) (idx := 308) (v := 4602678819172646912) (by decide +kernel) kc_RX12_308 ?_
      obtain ⟨c24, h⟩ := ck_el h
      refine RN_dsub (pc := 64) (by decide +kernel) c24 ?_
      refine RN_mceil (pc := 65) (idx := 315) (by decide +kernel) ma_RX12_315 ma_ceil_s ma_ini ma_ceil_c c24 (by decide) (by decide) (Nat.le_of_ble_eq_true rfl) ?_
      exact RN_weak (l := [none, none, some (.double v2)]) (And.intro rfl trivial) (tb_X12_roundedF_68 v2 (Jvm.Free.Hsc.ceilOf (FP.dsub x21 (4602678819172646912 : UInt64))) h)
    · replace h := it_f c23 h
      refine RN_dload (pc := 47) (i := 5) (by decide +kernel) rfl ?_
      refine RN_ldc2d (pc := 49) (idx := 308) (v := 4602678819172646912) (by decide +kernel) kc_RX12_308 ?_
      obtain ⟨c26, h⟩ := ck_el h
      refine RN_dadd (pc := 52) (by decide +kernel) c26 ?_
      refine RN_mfloor (pc := 53) (idx := 310) (by decide +kernel) ma_RX12_310 ma_floor_s ma_ini ma_floor_c c26 (by decide) (by decide) (Nat.le_of_ble_eq_true rfl) ?_
      refine RN_goto (pc := 56) (off := 12) (tgt := 68) (by decide +kernel) (by decide) ?_
      exact RN_weak (l := [none, none, some (.double v2)]) (And.intro rfl trivial) (tb_X12_roundedF_68 v2 (Jvm.Free.Hsc.floorOf (FP.dadd x21 (4602678819172646912 : UInt64))) h)
  · replace h := it_f c22 h
    by_cases c27 : v4 = 1
    · replace h := it_t c27 h
      refine RN_tsw (pc := 7) (dflt := 136) (lo := 0) (hi := 4) (offs := #[33, 66, 76, 101, 126]) (len := 33) (v := 1) (off := 66) (tgt := 73) c27 (by decide +kernel) (by decide) (by decide) (by decide +kernel) (by decide) ?_
      refine RN_dload (pc := 73) (i := 5) (by decide +kernel) rfl ?_
      obtain ⟨x28, f29, h⟩ := bp_el h
      obtain ⟨c30, h⟩ := ck_el h
      refine RN_mrint (M := M_X12_roundedF) (pc := 75) (idx := 318) (st := []) (t_Jxfc994_rint_294c1 f29) ⟨rfl, rfl, by decide, by decide⟩ (by decide +kernel) ma_RX12_318 ma_rint_s ma_ini ma_rint_c ma_sr_c ma_sm c30 (by decide) (by decide) (Nat.le_of_ble_eq_true rfl) ?_
      refine RN_dstore (pc := 78) (i := 7) (ls2 := [some (.double v0), none, some (.double v2), none, some (.int v4), some (.double x21), none, some (.double x28), none]) (by decide +kernel) (by decide) rfl ?_
      refine RN_goto (pc := 80) (off := 70) (tgt := 150) (by decide +kernel) (by decide) ?_
      refine RN_dload (pc := 150) (i := 7) (by decide +kernel) rfl ?_
      refine RN_dload_n (pc := 152) (k := 2) (by decide +kernel) rfl rfl ?_
      obtain ⟨c31, h⟩ := ck_el h
      refine RN_dmul (pc := 153) (by decide +kernel) c31 ?_
      obtain rfl := some_el h
      exact RN_dreturn (by decide +kernel) rfl
    · replace h := it_f c27 h
      by_cases c32 : v4 = 2
      · replace h := it_t c32 h
        refine RN_tsw (pc := 7) (dflt := 136) (lo := 0) (hi := 4) (offs := #[33, 66, 76, 101, 126]) (len := 33) (v := 2) (off := 76) (tgt := 83) c32 (by decide +kernel) (by decide) (by decide) (by decide +kernel) (by decide) ?_
        refine RN_dload (pc := 83) (i := 5) (by decide +kernel) rfl ?_
        refine RN_dconst0 (pc := 85) (by decide +kernel) ?_
        refine RN_dcmp (pc := 86) (op := .l) (by decide +kernel) ?_
        refine RN_if_le (pc := 87) (off := 11) (tgt := 98) (by decide +kernel) (by decide) (fun c33 => ?_) (fun c33 => ?_)
        · replace h := it_t c33 h
          refine RN_dload (pc := 98) (i := 5) (by decide +kernel) rfl ?_
          obtain ⟨c34, h⟩ := ck_el h
          refine RN_mceil (pc := 100) (idx := 315) (by decide +kernel) ma_RX12_315 ma_ceil_s ma_ini ma_ceil_c c34 (by decide) (by decide) (Nat.le_of_ble_eq_true rfl) ?_
          exact RN_weak (l := [none, none, some (.double v2)]) (And.intro rfl trivial) (tb_X12_roundedF_103 v2 (Jvm.Free.Hsc.ceilOf x21) h)
        · replace h := it_f c33 h
          refine RN_dload (pc := 90) (i := 5) (by decide +kernel) rfl ?_
          obtain ⟨c36, h⟩ := ck_el h
          refine RN_mfloor (pc := 92) (idx := 310) (by decide +kernel) ma_RX12_310 ma_floor_s ma_ini ma_floor_c c36 (by decide) (by decide) (Nat.le_of_ble_eq_true rfl) ?_
          refine RN_goto (pc := 95) (off := 8) (tgt := 103) (by decide +kernel) (by decide) ?_
          exact RN_weak (l := [none, none, some (.double v2)]) (And.intro rfl trivial) (tb_X12_roundedF_103 v2 (Jvm.Free.Hsc.floorOf x21) h)
      · replace h := it_f c32 h
        by_cases c37 : v4 = 3
        · replace h := it_t c37 h
          refine RN_tsw (pc := 7) (dflt := 136) (lo := 0) (hi := 4) (offs := #[33, 66, 76, 101, 126]) (len := 33) (v := 3) (off := 101) (tgt := 108) c37 (by decide +kernel) (by decide) (by decide) (by decide +kernel) (by decide) ?_
          refine RN_dload (pc := 108) (i := 5) (by decide +kernel) rfl ?_
          refine RN_dconst0 (pc := 110) (by decide +kernel) ?_
          refine RN_dcmp (pc := 111) (op := .l) (by decide +kernel) ?_
          refine RN_if_le (pc := 112) (off := 11) (tgt := 123) (by decide +kernel) (by decide) (fun c38 => ?_) (fun c38 => ?_)
          · replace h := it_t c38 h
            refine RN_dload (pc := 123) (i := 5) (by decide +kernel) rfl ?_
            obtain ⟨c39, h⟩ := ck_el h
            refine RN_mfloor (pc := 125) (idx := 310) (by decide +kernel) ma_RX12_310 ma_floor_s ma_ini ma_floor_c c39 (by decide) (by decide) (Nat.le_of_ble_eq_true rfl) ?_
            exact RN_weak (l := [none, none, some (.double v2)]) (And.intro rfl trivial) (tb_X12_roundedF_128 v2 (Jvm.Free.Hsc.floorOf x21) h)
          · replace h := it_f c38 h
            refine RN_dload (pc := 115) (i := 5) (by decide +kernel) rfl ?_
            obtain ⟨c41, h⟩ := ck_el h
            refine RN_mceil (pc := 117) (idx := 315) (by decide +kernel) ma_RX12_315 ma_ceil_s ma_ini ma_ceil_c c41 (by decide) (by decide) (Nat.le_of_ble_eq_true rfl) ?_
            refine RN_goto (pc := 120) (off := 8) (tgt := 128) (by decide +kernel) (by decide) ?_
            exact RN_weak (l := [none, none, some (.double v2)]) (And.intro rfl trivial) (tb_X12_roundedF_128 v2 (Jvm.Free.Hsc.ceilOf x21) h)
        · replace h := it_f c37 h
          by_cases c42 : v4 = 4
          · replace h := it_t c42 h
            refine RN_tsw (pc := 7) (dflt := 136) (lo := 0) (hi := 4) (offs := #[33, 66, 76, 101, 126]) (len := 33) (v := 4) (off := 126) (tgt := 133) c42 (by decide +kernel) (by decide) (by decide) (by decide +kernel) (by decide) ?_
            refine RN_dload (pc := 133) (i := 5) (by decide +kernel) rfl ?_
            obtain ⟨c43, h⟩ := ck_el h
            refine RN_mfloor (pc := 135) (idx := 310) (by decide +kernel) ma_RX12_310 ma_floor_s ma_ini ma_floor_c c43 (by decide) (by decide) (Nat.le_of_ble_eq_true rfl) ?_
            obtain ⟨x44, ex44, h⟩ := nm_el h
            refine RN_nmD ex44 ?_
            refine RN_dstore (pc := 138) (i := 7) (ls2 := [some (.double v0), none, some (.double v2), none, some (.int v4), some (.double x21), none, some (.double x44), none]) (by decide +kernel) (by decide) rfl ?_
            refine RN_goto (pc := 140) (off := 10) (tgt := 150) (by decide +kernel) (by decide) ?_
            refine RN_dload (pc := 150) (i := 7) (by decide +kernel) rfl ?_
            refine RN_dload_n (pc := 152) (k := 2) (by decide +kernel) rfl rfl ?_
            obtain ⟨c45, h⟩ := ck_el h
            refine RN_dmul (pc := 153) (by decide +kernel) c45 ?_
            obtain rfl := some_el h
            exact RN_dreturn (by decide +kernel) rfl
          · replace h := it_f c42 h
            refine RN_tableOut (pc := 7) (dflt := 136) (lo := 0) (hi := 4) (offs := #[33, 66, 76, 101, 126]) (len := 33) (tgt := 143) (by decide +kernel) (tsw_s (hi := 3) (hi' := 4) (tsw_s (hi := 2) (hi' := 3) (tsw_s (hi := 1) (hi' := 2) (tsw_s (hi := 0) (hi' := 1) (tsw_s (hi := -1) (hi' := 0) (tsw_0 (0)) (by decide) (by decide) c22) (by decide) (by decide) c27) (by decide) (by decide) c32) (by decide) (by decide) c37) (by decide) (by decide) c42) (by decide) ?_
            refine RN_dload (pc := 143) (i := 5) (by decide +kernel) rfl ?_
            obtain ⟨c46, h⟩ := ck_el h
            refine RN_mceil (pc := 145) (idx := 315) (by decide +kernel) ma_RX12_315 ma_ceil_s ma_ini ma_ceil_c c46 (by decide) (by decide) (Nat.le_of_ble_eq_true rfl) ?_
            obtain ⟨x47, ex47, h⟩ := nm_el h
            refine RN_nmD ex47 ?_
            refine RN_dstore (pc := 148) (i := 7) (ls2 := [some (.double v0), none, some (.double v2), none, some (.int v4), some (.double x21), none, some (.double x47), none]) (by decide +kernel) (by decide) rfl ?_
            refine RN_dload (pc := 150) (i := 7) (by decide +kernel) rfl ?_
            refine RN_dload_n (pc := 152) (k := 2) (by decide +kernel) rfl rfl ?_
            obtain ⟨c48, h⟩ := ck_el h
            refine RN_dmul (pc := 153) (by decide +kernel) c48 ?_
            obtain rfl := some_el h
            exact RN_dreturn (by decide +kernel) rfl
def b_X12_splitsF_52 : Nat → Nat → Int32 → Sg → Option Sg
  | 0, _, _, _ => none
  | n + 1, v0, v6, σ =>
  if (8 : Int32) ≤ v6 then (
    some σ)
  else (
    ck (okO σ v0 11) <|
    ck (¬ gR σ v0 44 = 0) <|
    nm (gR σ v0 44) fun r36 =>
    ck (¬ gR σ v0 21 = 0) <|
    nm (gR σ v0 21) fun r38 =>
    ck (okA σ r38 14 ((8 : Int32) + v6)) <|
    ck (okW σ r36 12 v6) <|
    nm (pD σ r36 v6.toNatClampNeg (FP.l2d (gJ σ r38 ((8 : Int32) + v6).toNatClampNeg))) fun σ41 =>
    nm (v6 + (1 : Int32)) fun x42 =>
    b_X12_splitsF_52 n v0 x42 σ41)
set_option maxRecDepth 20000 in
theorem tb_X12_splitsF_52 {G : Gl} {σr : Sg} (v0 : Nat) : ∀ (n : Nat) (v6 : Int32) (σ : Sg), b_X12_splitsF_52 n v0 v6 σ = some σr → RN G M_X12_splitsF 52 [some (.ref v0), none, none, none, none, none, some (.int v6)] [] σ (.inl none) σr := by
  intro n
  induction n with
  | zero =>
    intro v6 σ h
    exact none_el h
  | succ n ih =>
    intro v6 σ h
    rw [b_X12_splitsF_52] at h
    refine RN_iload (pc := 52) (i := 6) (by decide +kernel) rfl ?_
    refine RN_bipush (pc := 54) (n := 8) (v := 8) (by decide +kernel) (by decide) ?_
    refine RN_icmp_ge (pc := 56) (off := 27) (tgt := 83) (by decide +kernel) (by decide) (fun c33 => ?_) (fun c33 => ?_)
    · replace h := it_t c33 h
      obtain rfl := some_el h
      exact RN_return (by decide +kernel) rfl
    · replace h := it_f c33 h
      refine RN_aload_n (pc := 59) (k := 0) (by decide +kernel) rfl rfl ?_
      obtain ⟨c34, h⟩ := ck_el h
      obtain ⟨c35, h⟩ := ck_el h
      refine RN_getR (pc := 60) (idx := 107) (ci := 11) (k := 44) (by decide +kernel) lf_RX12_107 rfl c34 c35 ?_
      obtain ⟨r36, er36, h⟩ := nm_el h
      refine RN_nmR er36 ?_
      refine RN_iload (pc := 63) (i := 6) (by decide +kernel) rfl ?_
      refine RN_aload_n (pc := 65) (k := 0) (by decide +kernel) rfl rfl ?_
      obtain ⟨c37, h⟩ := ck_el h
      refine RN_getR (pc := 66) (idx := 54) (ci := 11) (k := 21) (by decide +kernel) lf_RX12_54 rfl c34 c37 ?_
      obtain ⟨r38, er38, h⟩ := nm_el h
      refine RN_nmR er38 ?_
      refine RN_bipush (pc := 69) (n := 8) (v := 8) (by decide +kernel) (by decide) ?_
      refine RN_iload (pc := 71) (i := 6) (by decide +kernel) rfl ?_
      refine RN_iadd (pc := 73) (by decide +kernel) ?_
      obtain ⟨c39, h⟩ := ck_el h
      refine RN_lald (pc := 74) (by decide +kernel) c39 ?_
      refine RN_l2d (pc := 75) (by decide +kernel) ?_
      obtain ⟨c40, h⟩ := ck_el h
      refine RN_dast (pc := 76) (by decide +kernel) c40 ?_
      obtain ⟨σ41, eσ41, h⟩ := nm_el h
      refine RN_nmS eσ41 ?_
      obtain ⟨x42, ex42, h⟩ := nm_el h
      refine RN_iinc (pc := 77) (i := 6) (n := 1) (v := x42) (ls2 := [some (.ref v0), none, none, none, none, none, some (.int x42)]) (by decide +kernel) rfl (by rw [ex42]; rfl) (by decide) rfl ?_
      refine RN_goto (pc := 80) (off := -28) (tgt := 52) (by decide +kernel) (by decide) ?_
      exact RN_weak (l := [some (.ref v0), none, none, none, none, none, some (.int x42)]) (And.intro rfl (And.intro rfl trivial)) (ih x42 σ41 h)
def b_X12_splitsF_39 (n : Nat) (v0 : Nat) (v2 : Int32) (v3 : Int32) (s0 : Int64) (s1 : Nat) (σ : Sg) : Option Sg :=
  ck (okO σ s1 11) <|
  bp (f_X12_splits n s1 s0 v2 v3 σ) fun σ30 =>
  ck (okO σ30 v0 11) <|
  nm (pI σ30 v0 16 (0 : Int32)) fun σ32 =>
  b_X12_splitsF_52 n v0 (0 : Int32) σ32
set_option maxRecDepth 20000 in
theorem tb_X12_splitsF_39 {G : Gl} {σr : Sg} (n : Nat) (v0 : Nat) (v2 : Int32) (v3 : Int32) (s0 : Int64) (s1 : Nat) (σ : Sg) (h : b_X12_splitsF_39 n v0 v2 v3 s0 s1 σ = some σr) : RN G M_X12_splitsF 39 [some (.ref v0), none, some (.int v2), some (.int v3)] [.long s0, .ref s1] σ (.inl none) σr := by
  unfold b_X12_splitsF_39 at h
  refine RN_iload_n (pc := 39) (k := 2) (by decide +kernel) rfl rfl ?_
  refine RN_iload_n (pc := 40) (k := 3) (by decide +kernel) rfl rfl ?_
  obtain ⟨c28, h⟩ := ck_el h
  obtain ⟨σ30, f29, h⟩ := bp_el h
  refine RN_callV (M := M_X12_splitsF) (pc := 41) (idx := 249) (as := [.long s0, .int v2, .int v3]) (st := []) (t_X12_splits f29) (by decide +kernel) lk_RX12_249 rfl ⟨by decide, fun q hq => by cases hq; rfl⟩ c28 (Nat.le_of_ble_eq_true rfl) ⟨Nat.le_of_ble_eq_true rfl, Nat.le_of_ble_eq_true rfl⟩ rfl ?_
  show RN G M_X12_splitsF 44 [some (.ref v0), none, some (.int v2), some (.int v3)] [] σ30 _ _
  refine RN_aload_n (pc := 44) (k := 0) (by decide +kernel) rfl rfl ?_
  refine RN_iconst (pc := 45) (n := 0) (v := 0) (by decide +kernel) (by decide) ?_
  obtain ⟨c31, h⟩ := ck_el h
  refine RN_putI (pc := 46) (idx := 146) (ci := 11) (k := 16) (by decide +kernel) lf_RX12_146 rfl (fun q hq => by cases hq; exact Or.inl rfl) c31 ?_
  obtain ⟨σ32, eσ32, h⟩ := nm_el h
  refine RN_nmS eσ32 ?_
  refine RN_iconst (pc := 49) (n := 0) (v := 0) (by decide +kernel) (by decide) ?_
  refine RN_istore (pc := 50) (i := 6) (ls2 := [some (.ref v0), none, some (.int v2), some (.int v3), none, none, some (.int (0 : Int32))]) (by decide +kernel) (by decide) rfl ?_
  exact RN_weak (l := [some (.ref v0), none, none, none, none, none, some (.int (0 : Int32))]) (And.intro rfl (And.intro rfl trivial)) (tb_X12_splitsF_52 v0 n (0 : Int32) σ32 h)
def b_X12_splitsF_33 (n : Nat) (v0 : Nat) (v2 : Int32) (v3 : Int32) (s0 : Nat) (σ : Sg) : Option Sg :=
  b_X12_splitsF_39 n v0 v2 v3 (0 : Int64) s0 σ
set_option maxRecDepth 20000 in
theorem tb_X12_splitsF_33 {G : Gl} {σr : Sg} (n : Nat) (v0 : Nat) (v2 : Int32) (v3 : Int32) (s0 : Nat) (σ : Sg) (h : b_X12_splitsF_33 n v0 v2 v3 s0 σ = some σr) : RN G M_X12_splitsF 33 [some (.ref v0), none, some (.int v2), some (.int v3)] [.ref s0] σ (.inl none) σr := by
  unfold b_X12_splitsF_33 at h
  refine RN_lconst (pc := 33) (n := 0) (v := 0) (by decide +kernel) (by decide) ?_
  refine RN_goto (pc := 34) (off := 5) (tgt := 39) (by decide +kernel) (by decide) ?_
  exact RN_weak (l := [some (.ref v0), none, some (.int v2), some (.int v3)]) (And.intro rfl (And.intro rfl (And.intro rfl trivial))) (tb_X12_splitsF_39 n v0 v2 v3 (0 : Int64) s0 σ h)
def f_X12_splitsF (n : Nat) (v0 : Nat) (v1 : Int32) (v2 : Int32) (v3 : Int32) (σ : Sg) : Option Sg :=
  ck (okO σ v0 11) <|
  ck (¬ gR σ v0 43 = 0) <|
  nm (gR σ v0 43) fun r23 =>
  ck (okA σ r23 12 v1) <|
  nm (FP.d2l (gD σ r23 v1.toNatClampNeg)) fun x25 =>
  nm (pI σ v0 16 (1 : Int32)) fun σ26 =>
  if (1099511627776 : Int64) < x25 then (
    b_X12_splitsF_33 n v0 v2 v3 v0 σ26)
  else (
    if (-1099511627776 : Int64) ≤ x25 then (
      b_X12_splitsF_39 n v0 v2 v3 x25 v0 σ26)
    else (
      b_X12_splitsF_33 n v0 v2 v3 v0 σ26))
set_option maxRecDepth 20000 in
theorem t_X12_splitsF {G : Gl} {σr : Sg} {n : Nat} {v0 : Nat} {v1 : Int32} {v2 : Int32} {v3 : Int32} {σ : Sg} (h : f_X12_splitsF n v0 v1 v2 v3 σ = some σr) : MT G M_X12_splitsF [.ref v0, .int v1, .int v2, .int v3] σ none σr := by
  refine MT_of rfl rfl (Nat.le_of_ble_eq_true rfl) ?_
  show RN G M_X12_splitsF 0 [some (.ref v0), some (.int v1), some (.int v2), some (.int v3)] [] σ (.inl none) σr
  unfold f_X12_splitsF at h
  refine RN_aload_n (pc := 0) (k := 0) (by decide +kernel) rfl rfl ?_
  obtain ⟨c21, h⟩ := ck_el h
  obtain ⟨c22, h⟩ := ck_el h
  refine RN_getR (pc := 1) (idx := 103) (ci := 11) (k := 43) (by decide +kernel) lf_RX12_103 rfl c21 c22 ?_
  obtain ⟨r23, er23, h⟩ := nm_el h
  refine RN_nmR er23 ?_
  refine RN_iload_n (pc := 4) (k := 1) (by decide +kernel) rfl rfl ?_
  obtain ⟨c24, h⟩ := ck_el h
  refine RN_dald (pc := 5) (by decide +kernel) c24 ?_
  refine RN_d2l (pc := 6) (by decide +kernel) ?_
  obtain ⟨x25, ex25, h⟩ := nm_el h
  refine RN_nmJ ex25 ?_
  refine RN_lstore (pc := 7) (i := 4) (ls2 := [some (.ref v0), some (.int v1), some (.int v2), some (.int v3), some (.long x25), none]) (by decide +kernel) (by decide) rfl ?_
  refine RN_aload_n (pc := 9) (k := 0) (by decide +kernel) rfl rfl ?_
  refine RN_iconst (pc := 10) (n := 1) (v := 1) (by decide +kernel) (by decide) ?_
  refine RN_putI (pc := 11) (idx := 146) (ci := 11) (k := 16) (by decide +kernel) lf_RX12_146 rfl (fun q hq => by cases hq; exact Or.inl rfl) c21 ?_
  obtain ⟨σ26, eσ26, h⟩ := nm_el h
  refine RN_nmS eσ26 ?_
  refine RN_aload_n (pc := 14) (k := 0) (by decide +kernel) rfl rfl ?_
  refine RN_lload (pc := 15) (i := 4) (by decide +kernel) rfl ?_
  refine RN_ldc2 (pc := 17) (idx := 192) (v := 1099511627776) (by decide +kernel) kc_RX12_192 ?_
  refine RN_lc_gt (pc := 20) (off := 12) (tgt := 33) (by decide +kernel) (by decide +kernel) (by decide) (fun c27 => ?_) (fun c27 => ?_)
  · replace h := it_t c27 h
    exact RN_weak (l := [some (.ref v0), none, some (.int v2), some (.int v3)]) (And.intro rfl (And.intro rfl (And.intro rfl trivial))) (tb_X12_splitsF_33 n v0 v2 v3 v0 σ26 h)
  · replace h := it_f c27 h
    refine RN_lload (pc := 24) (i := 4) (by decide +kernel) rfl ?_
    refine RN_ldc2 (pc := 26) (idx := 194) (v := -1099511627776) (by decide +kernel) kc_RX12_194 ?_
    refine RN_lc_ge (pc := 29) (off := 7) (tgt := 37) (by decide +kernel) (by decide +kernel) (by decide) (fun c43 => ?_) (fun c43 => ?_)
    · replace h := it_t c43 h
      refine RN_lload (pc := 37) (i := 4) (by decide +kernel) rfl ?_
      exact RN_weak (l := [some (.ref v0), none, some (.int v2), some (.int v3)]) (And.intro rfl (And.intro rfl (And.intro rfl trivial))) (tb_X12_splitsF_39 n v0 v2 v3 x25 v0 σ26 h)
    · replace h := it_f c43 h
      exact RN_weak (l := [some (.ref v0), none, some (.int v2), some (.int v3)]) (And.intro rfl (And.intro rfl (And.intro rfl trivial))) (tb_X12_splitsF_33 n v0 v2 v3 v0 σ26 h)
def b_X12_keepsF_49 (s0 : UInt64) (s1 : Int32) (s2 : Nat) (σ : Sg) : Option Sg :=
  ck (okW σ s2 12 s1) <|
  nm (pD σ s2 s1.toNatClampNeg s0) fun σ28 =>
  some σ28
set_option maxRecDepth 20000 in
theorem tb_X12_keepsF_49 {G : Gl} {σr : Sg} (s0 : UInt64) (s1 : Int32) (s2 : Nat) (σ : Sg) (h : b_X12_keepsF_49 s0 s1 s2 σ = some σr) : RN G M_X12_keepsF 49 [] [.double s0, .int s1, .ref s2] σ (.inl none) σr := by
  unfold b_X12_keepsF_49 at h
  obtain ⟨c27, h⟩ := ck_el h
  refine RN_dast (pc := 49) (by decide +kernel) c27 ?_
  obtain ⟨σ28, eσ28, h⟩ := nm_el h
  refine RN_nmS eσ28 ?_
  obtain rfl := some_el h
  exact RN_return (by decide +kernel) rfl
def f_X12_keepsF (v0 : Nat) (v1 : Int32) (σ : Sg) : Option Sg :=
  ck (okO σ v0 11) <|
  ck (¬ gR σ v0 43 = 0) <|
  nm (gR σ v0 43) fun r18 =>
  nm (gR σ v0 43) fun r19 =>
  ck (okA σ r19 12 v1) <|
  if (Op.cmpValue (FP.dcmp (gD σ r19 v1.toNatClampNeg) (4832362400168542208 : UInt64)) .l) ≤ 0 then (
    nm (gR σ v0 43) fun r22 =>
    ck (okA σ r22 12 v1) <|
    if 0 ≤ (Op.cmpValue (FP.dcmp (gD σ r22 v1.toNatClampNeg) (14055734437023318016 : UInt64)) .g) then (
      nm (gR σ v0 43) fun r25 =>
      ck (okA σ r25 12 v1) <|
      b_X12_keepsF_49 (gD σ r25 v1.toNatClampNeg) v1 r18 σ)
    else (
      b_X12_keepsF_49 (14055734437023318016 : UInt64) v1 r18 σ))
  else (
    b_X12_keepsF_49 (4832362400168542208 : UInt64) v1 r18 σ)
set_option maxRecDepth 20000 in
theorem t_X12_keepsF {G : Gl} {σr : Sg} {v0 : Nat} {v1 : Int32} {σ : Sg} (h : f_X12_keepsF v0 v1 σ = some σr) : MT G M_X12_keepsF [.ref v0, .int v1] σ none σr := by
  refine MT_of rfl rfl (Nat.le_of_ble_eq_true rfl) ?_
  show RN G M_X12_keepsF 0 [some (.ref v0), some (.int v1)] [] σ (.inl none) σr
  unfold f_X12_keepsF at h
  refine RN_aload_n (pc := 0) (k := 0) (by decide +kernel) rfl rfl ?_
  obtain ⟨c16, h⟩ := ck_el h
  obtain ⟨c17, h⟩ := ck_el h
  refine RN_getR (pc := 1) (idx := 103) (ci := 11) (k := 43) (by decide +kernel) lf_RX12_103 rfl c16 c17 ?_
  obtain ⟨r18, er18, h⟩ := nm_el h
  refine RN_nmR er18 ?_
  refine RN_iload_n (pc := 4) (k := 1) (by decide +kernel) rfl rfl ?_
  refine RN_aload_n (pc := 5) (k := 0) (by decide +kernel) rfl rfl ?_
  refine RN_getR (pc := 6) (idx := 103) (ci := 11) (k := 43) (by decide +kernel) lf_RX12_103 rfl c16 c17 ?_
  obtain ⟨r19, er19, h⟩ := nm_el h
  refine RN_nmR er19 ?_
  refine RN_iload_n (pc := 9) (k := 1) (by decide +kernel) rfl rfl ?_
  obtain ⟨c20, h⟩ := ck_el h
  refine RN_dald (pc := 10) (by decide +kernel) c20 ?_
  refine RN_ldc2d (pc := 11) (idx := 340) (v := 4832362400168542208) (by decide +kernel) kc_RX12_340 ?_
  refine RN_dcmp (pc := 14) (op := .l) (by decide +kernel) ?_
  refine RN_if_le (pc := 15) (off := 9) (tgt := 24) (by decide +kernel) (by decide) (fun c21 => ?_) (fun c21 => ?_)
  · replace h := it_t c21 h
    refine RN_aload_n (pc := 24) (k := 0) (by decide +kernel) rfl rfl ?_
    refine RN_getR (pc := 25) (idx := 103) (ci := 11) (k := 43) (by decide +kernel) lf_RX12_103 rfl c16 c17 ?_
    obtain ⟨r22, er22, h⟩ := nm_el h
    refine RN_nmR er22 ?_
    refine RN_iload_n (pc := 28) (k := 1) (by decide +kernel) rfl rfl ?_
    obtain ⟨c23, h⟩ := ck_el h
    refine RN_dald (pc := 29) (by decide +kernel) c23 ?_
    refine RN_ldc2d (pc := 30) (idx := 342) (v := 14055734437023318016) (by decide +kernel) kc_RX12_342 ?_
    refine RN_dcmp (pc := 33) (op := .g) (by decide +kernel) ?_
    refine RN_if_ge (pc := 34) (off := 9) (tgt := 43) (by decide +kernel) (by decide) (fun c24 => ?_) (fun c24 => ?_)
    · replace h := it_t c24 h
      refine RN_aload_n (pc := 43) (k := 0) (by decide +kernel) rfl rfl ?_
      refine RN_getR (pc := 44) (idx := 103) (ci := 11) (k := 43) (by decide +kernel) lf_RX12_103 rfl c16 c17 ?_
      obtain ⟨r25, er25, h⟩ := nm_el h
      refine RN_nmR er25 ?_
      refine RN_iload_n (pc := 47) (k := 1) (by decide +kernel) rfl rfl ?_
      obtain ⟨c26, h⟩ := ck_el h
      refine RN_dald (pc := 48) (by decide +kernel) c26 ?_
      exact RN_weak (l := []) trivial (tb_X12_keepsF_49 (gD σ r25 v1.toNatClampNeg) v1 r18 σ h)
    · replace h := it_f c24 h
      refine RN_ldc2d (pc := 37) (idx := 342) (v := 14055734437023318016) (by decide +kernel) kc_RX12_342 ?_
      refine RN_goto (pc := 40) (off := 9) (tgt := 49) (by decide +kernel) (by decide) ?_
      exact RN_weak (l := []) trivial (tb_X12_keepsF_49 (14055734437023318016 : UInt64) v1 r18 σ h)
  · replace h := it_f c21 h
    refine RN_ldc2d (pc := 18) (idx := 340) (v := 4832362400168542208) (by decide +kernel) kc_RX12_340 ?_
    refine RN_goto (pc := 21) (off := 28) (tgt := 49) (by decide +kernel) (by decide) ?_
    exact RN_weak (l := []) trivial (tb_X12_keepsF_49 (4832362400168542208 : UInt64) v1 r18 σ h)
def b_X12_doesF_494 (n : Nat) (v0 : Nat) (v4 : Int32) (σ : Sg) : Option Sg :=
  ck (okO σ v0 11) <|
  bp (f_X12_keepsF v0 v4 σ) fun σ185 =>
  some σ185
set_option maxRecDepth 20000 in
theorem tb_X12_doesF_494 {G : Gl} {σr : Sg} (n : Nat) (v0 : Nat) (v4 : Int32) (σ : Sg) (h : b_X12_doesF_494 n v0 v4 σ = some σr) : RN G M_X12_doesF 494 [some (.ref v0), none, none, none, some (.int v4)] [] σ (.inl none) σr := by
  unfold b_X12_doesF_494 at h
  refine RN_aload_n (pc := 494) (k := 0) (by decide +kernel) rfl rfl ?_
  refine RN_iload (pc := 495) (i := 4) (by decide +kernel) rfl ?_
  obtain ⟨c183, h⟩ := ck_el h
  obtain ⟨σ185, f184, h⟩ := bp_el h
  refine RN_callV (M := M_X12_doesF) (pc := 497) (idx := 336) (as := [.int v4]) (st := []) (t_X12_keepsF f184) (by decide +kernel) lk_RX12_336 rfl ⟨by decide, fun q hq => by cases hq; rfl⟩ c183 (Nat.le_of_ble_eq_true rfl) ⟨Nat.le_of_ble_eq_true rfl, Nat.le_of_ble_eq_true rfl⟩ rfl ?_
  show RN G M_X12_doesF 500 [some (.ref v0), none, none, none, some (.int v4)] [] σ185 _ _
  obtain rfl := some_el h
  exact RN_return (by decide +kernel) rfl
def b_X12_doesF_226 (n : Nat) (v0 : Nat) (v4 : Int32) (s0 : UInt64) (s1 : Int32) (s2 : Nat) (σ : Sg) : Option Sg :=
  ck (okW σ s2 12 s1) <|
  nm (pD σ s2 s1.toNatClampNeg s0) fun σ239 =>
  b_X12_doesF_494 n v0 v4 σ239
set_option maxRecDepth 20000 in
theorem tb_X12_doesF_226 {G : Gl} {σr : Sg} (n : Nat) (v0 : Nat) (v4 : Int32) (s0 : UInt64) (s1 : Int32) (s2 : Nat) (σ : Sg) (h : b_X12_doesF_226 n v0 v4 s0 s1 s2 σ = some σr) : RN G M_X12_doesF 226 [some (.ref v0), none, none, none, some (.int v4)] [.double s0, .int s1, .ref s2] σ (.inl none) σr := by
  unfold b_X12_doesF_226 at h
  obtain ⟨c238, h⟩ := ck_el h
  refine RN_dast (pc := 226) (by decide +kernel) c238 ?_
  obtain ⟨σ239, eσ239, h⟩ := nm_el h
  refine RN_nmS eσ239 ?_
  refine RN_goto (pc := 227) (off := 267) (tgt := 494) (by decide +kernel) (by decide) ?_
  exact RN_weak (l := [some (.ref v0), none, none, none, some (.int v4)]) (And.intro rfl (And.intro rfl trivial)) (tb_X12_doesF_494 n v0 v4 σ239 h)
def b_X12_doesF_375 (n : Nat) (v0 : Nat) (v4 : Int32) (s0 : UInt64) (s1 : Int32) (s2 : Nat) (σ : Sg) : Option Sg :=
  ck (okW σ s2 12 s1) <|
  nm (pD σ s2 s1.toNatClampNeg s0) fun σ285 =>
  b_X12_doesF_494 n v0 v4 σ285
set_option maxRecDepth 20000 in
theorem tb_X12_doesF_375 {G : Gl} {σr : Sg} (n : Nat) (v0 : Nat) (v4 : Int32) (s0 : UInt64) (s1 : Int32) (s2 : Nat) (σ : Sg) (h : b_X12_doesF_375 n v0 v4 s0 s1 s2 σ = some σr) : RN G M_X12_doesF 375 [some (.ref v0), none, none, none, some (.int v4)] [.double s0, .int s1, .ref s2] σ (.inl none) σr := by
  unfold b_X12_doesF_375 at h
  obtain ⟨c284, h⟩ := ck_el h
  refine RN_dast (pc := 375) (by decide +kernel) c284 ?_
  obtain ⟨σ285, eσ285, h⟩ := nm_el h
  refine RN_nmS eσ285 ?_
  refine RN_goto (pc := 376) (off := 118) (tgt := 494) (by decide +kernel) (by decide) ?_
  exact RN_weak (l := [some (.ref v0), none, none, none, some (.int v4)]) (And.intro rfl (And.intro rfl trivial)) (tb_X12_doesF_494 n v0 v4 σ285 h)
def b_X12_doesF_349 (n : Nat) (v0 : Nat) (v4 : Int32) (v6 : Int32) (s0 : Int32) (σ : Sg) : Option Sg :=
  ck (okO σ v0 11) <|
  ck (¬ gR σ v0 43 = 0) <|
  nm (gR σ v0 43) fun r280 =>
  if s0 = 0 then (
    nm (gR σ v0 43) fun r282 =>
    ck (okA σ r282 12 v4) <|
    b_X12_doesF_375 n v0 v4 (gD σ r282 v4.toNatClampNeg) v4 r280 σ)
  else (
    b_X12_doesF_375 n v0 v4 (FP.i2d v6) v4 r280 σ)
set_option maxRecDepth 20000 in
theorem tb_X12_doesF_349 {G : Gl} {σr : Sg} (n : Nat) (v0 : Nat) (v4 : Int32) (v6 : Int32) (s0 : Int32) (σ : Sg) (h : b_X12_doesF_349 n v0 v4 v6 s0 σ = some σr) : RN G M_X12_doesF 349 [some (.ref v0), none, none, none, some (.int v4), none, some (.int v6)] [.int s0] σ (.inl none) σr := by
  unfold b_X12_doesF_349 at h
  refine RN_istore (pc := 349) (i := 9) (ls2 := [some (.ref v0), none, none, none, some (.int v4), none, some (.int v6), none, none, some (.int s0)]) (by decide +kernel) (by decide) rfl ?_
  refine RN_aload_n (pc := 351) (k := 0) (by decide +kernel) rfl rfl ?_
  obtain ⟨c278, h⟩ := ck_el h
  obtain ⟨c279, h⟩ := ck_el h
  refine RN_getR (pc := 352) (idx := 103) (ci := 11) (k := 43) (by decide +kernel) lf_RX12_103 rfl c278 c279 ?_
  obtain ⟨r280, er280, h⟩ := nm_el h
  refine RN_nmR er280 ?_
  refine RN_iload (pc := 355) (i := 4) (by decide +kernel) rfl ?_
  refine RN_iload (pc := 357) (i := 9) (by decide +kernel) rfl ?_
  refine RN_if_eq (pc := 359) (off := 9) (tgt := 368) (by decide +kernel) (by decide) (fun c281 => ?_) (fun c281 => ?_)
  · replace h := it_t c281 h
    refine RN_aload_n (pc := 368) (k := 0) (by decide +kernel) rfl rfl ?_
    refine RN_getR (pc := 369) (idx := 103) (ci := 11) (k := 43) (by decide +kernel) lf_RX12_103 rfl c278 c279 ?_
    obtain ⟨r282, er282, h⟩ := nm_el h
    refine RN_nmR er282 ?_
    refine RN_iload (pc := 372) (i := 4) (by decide +kernel) rfl ?_
    obtain ⟨c283, h⟩ := ck_el h
    refine RN_dald (pc := 374) (by decide +kernel) c283 ?_
    exact RN_weak (l := [some (.ref v0), none, none, none, some (.int v4)]) (And.intro rfl (And.intro rfl trivial)) (tb_X12_doesF_375 n v0 v4 (gD σ r282 v4.toNatClampNeg) v4 r280 σ h)
  · replace h := it_f c281 h
    refine RN_iload (pc := 362) (i := 6) (by decide +kernel) rfl ?_
    refine RN_i2d (pc := 364) (by decide +kernel) ?_
    refine RN_goto (pc := 365) (off := 10) (tgt := 375) (by decide +kernel) (by decide) ?_
    exact RN_weak (l := [some (.ref v0), none, none, none, some (.int v4)]) (And.intro rfl (And.intro rfl trivial)) (tb_X12_doesF_375 n v0 v4 (FP.i2d v6) v4 r280 σ h)
def b_X12_doesF_415 (n : Nat) (v0 : Nat) (v4 : Int32) (s0 : Int64) (s1 : Int64) (s2 : Int32) (s3 : Nat) (σ : Sg) : Option Sg :=
  ck (okW σ s3 14 s2) <|
  nm (pJ σ s3 s2.toNatClampNeg (s1 + s0)) fun σ299 =>
  b_X12_doesF_494 n v0 v4 σ299
set_option maxRecDepth 20000 in
theorem tb_X12_doesF_415 {G : Gl} {σr : Sg} (n : Nat) (v0 : Nat) (v4 : Int32) (s0 : Int64) (s1 : Int64) (s2 : Int32) (s3 : Nat) (σ : Sg) (h : b_X12_doesF_415 n v0 v4 s0 s1 s2 s3 σ = some σr) : RN G M_X12_doesF 415 [some (.ref v0), none, none, none, some (.int v4)] [.long s0, .long s1, .int s2, .ref s3] σ (.inl none) σr := by
  unfold b_X12_doesF_415 at h
  refine RN_ladd (pc := 415) (by decide +kernel) ?_
  obtain ⟨c298, h⟩ := ck_el h
  refine RN_last (pc := 416) (by decide +kernel) c298 ?_
  obtain ⟨σ299, eσ299, h⟩ := nm_el h
  refine RN_nmS eσ299 ?_
  refine RN_goto (pc := 417) (off := 77) (tgt := 494) (by decide +kernel) (by decide) ?_
  exact RN_weak (l := [some (.ref v0), none, none, none, some (.int v4)]) (And.intro rfl (And.intro rfl trivial)) (tb_X12_doesF_494 n v0 v4 σ299 h)
def b_X12_doesF_446 : Nat → Nat → Int32 → Int32 → Int32 → Int32 → Sg → Option Sg
  | 0, _, _, _, _, _, _ => none
  | n + 1, v0, v4, v5, v6, v10, σ =>
  if v6 ≤ v10 then (
    b_X12_doesF_494 n v0 v4 σ)
  else (
    ck (okO σ v0 11) <|
    ck (¬ gR σ v0 43 = 0) <|
    nm (gR σ v0 43) fun r315 =>
    ck (okA σ r315 12 v4) <|
    nm (gR σ v0 43) fun r317 =>
    ck (okA σ r317 12 v4) <|
    bp (f_X12_rateF v0 v5 σ) fun x320 =>
    ck (n64 (FP.dmul (gD σ r317 v4.toNatClampNeg) x320)) <|
    bp (f_X12_roundedF (FP.dmul (gD σ r317 v4.toNatClampNeg) x320) (FP.dconst1) (1 : Int32)) fun x323 =>
    ck (n64 (FP.dadd (gD σ r315 v4.toNatClampNeg) x323)) <|
    ck (okW σ r315 12 v4) <|
    nm (pD σ r315 v4.toNatClampNeg (FP.dadd (gD σ r315 v4.toNatClampNeg) x323)) fun σ326 =>
    ck (okO σ326 v0 11) <|
    bp (f_X12_keepsF v0 v4 σ326) fun σ329 =>
    nm (v10 + (1 : Int32)) fun x330 =>
    b_X12_doesF_446 n v0 v4 v5 v6 x330 σ329)
set_option maxRecDepth 20000 in
theorem tb_X12_doesF_446 {G : Gl} {σr : Sg} (v0 : Nat) (v4 : Int32) (v5 : Int32) (v6 : Int32) : ∀ (n : Nat) (v10 : Int32) (σ : Sg), b_X12_doesF_446 n v0 v4 v5 v6 v10 σ = some σr → RN G M_X12_doesF 446 [some (.ref v0), none, none, none, some (.int v4), some (.int v5), some (.int v6), none, none, none, some (.int v10)] [] σ (.inl none) σr := by
  intro n
  induction n with
  | zero =>
    intro v10 σ h
    exact none_el h
  | succ n ih =>
    intro v10 σ h
    rw [b_X12_doesF_446] at h
    refine RN_iload (pc := 446) (i := 10) (by decide +kernel) rfl ?_
    refine RN_iload (pc := 448) (i := 6) (by decide +kernel) rfl ?_
    refine RN_icmp_ge (pc := 450) (off := 44) (tgt := 494) (by decide +kernel) (by decide) (fun c312 => ?_) (fun c312 => ?_)
    · replace h := it_t c312 h
      exact RN_weak (l := [some (.ref v0), none, none, none, some (.int v4)]) (And.intro rfl (And.intro rfl trivial)) (tb_X12_doesF_494 n v0 v4 σ h)
    · replace h := it_f c312 h
      refine RN_aload_n (pc := 453) (k := 0) (by decide +kernel) rfl rfl ?_
      obtain ⟨c313, h⟩ := ck_el h
      obtain ⟨c314, h⟩ := ck_el h
      refine RN_getR (pc := 454) (idx := 103) (ci := 11) (k := 43) (by decide +kernel) lf_RX12_103 rfl c313 c314 ?_
      obtain ⟨r315, er315, h⟩ := nm_el h
      refine RN_nmR er315 ?_
      refine RN_iload (pc := 457) (i := 4) (by decide +kernel) rfl ?_
      refine RN_dup2_11 (pc := 459) (by decide +kernel) rfl rfl ?_
      obtain ⟨c316, h⟩ := ck_el h
      refine RN_dald (pc := 460) (by decide +kernel) c316 ?_
      refine RN_aload_n (pc := 461) (k := 0) (by decide +kernel) rfl rfl ?_
      refine RN_getR (pc := 462) (idx := 103) (ci := 11) (k := 43) (by decide +kernel) lf_RX12_103 rfl c313 c314 ?_
      obtain ⟨r317, er317, h⟩ := nm_el h
      refine RN_nmR er317 ?_
      refine RN_iload (pc := 465) (i := 4) (by decide +kernel) rfl ?_
      obtain ⟨c318, h⟩ := ck_el h
      refine RN_dald (pc := 467) (by decide +kernel) c318 ?_
      refine RN_aload_n (pc := 468) (k := 0) (by decide +kernel) rfl rfl ?_
      refine RN_iload (pc := 469) (i := 5) (by decide +kernel) rfl ?_
      obtain ⟨x320, f319, h⟩ := bp_el h
      refine RN_callV (M := M_X12_doesF) (pc := 471) (idx := 321) (as := [.int v5]) (st := [.double (gD σ r317 v4.toNatClampNeg), .double (gD σ r315 v4.toNatClampNeg), .int v4, .ref r315]) (t_X12_rateF f319) (by decide +kernel) lk_RX12_321 rfl ⟨by decide, fun q hq => by cases hq; rfl⟩ c313 (Nat.le_of_ble_eq_true rfl) ⟨Nat.le_of_ble_eq_true rfl, Nat.le_of_ble_eq_true rfl⟩ rfl ?_
      show RN G M_X12_doesF 474 [some (.ref v0), none, none, none, some (.int v4), some (.int v5), some (.int v6), none, none, none, some (.int v10)] [.double x320, .double (gD σ r317 v4.toNatClampNeg), .double (gD σ r315 v4.toNatClampNeg), .int v4, .ref r315] σ _ _
      obtain ⟨c321, h⟩ := ck_el h
      refine RN_dmul (pc := 474) (by decide +kernel) c321 ?_
      refine RN_dconst1 (pc := 475) (by decide +kernel) ?_
      refine RN_iconst (pc := 476) (n := 1) (v := 1) (by decide +kernel) (by decide) ?_
      obtain ⟨x323, f322, h⟩ := bp_el h
      refine RN_callS (M := M_X12_doesF) (pc := 477) (idx := 325) (as := [.double (FP.dmul (gD σ r317 v4.toNatClampNeg) x320), .double (FP.dconst1), .int (1 : Int32)]) (st := [.double (gD σ r315 v4.toNatClampNeg), .int v4, .ref r315]) (t_X12_roundedF f322) (by decide +kernel) lk_RX12_325 rfl (Nat.le_of_ble_eq_true rfl) ⟨Nat.le_of_ble_eq_true rfl, Nat.le_of_ble_eq_true rfl⟩ rfl ?_
      show RN G M_X12_doesF 480 [some (.ref v0), none, none, none, some (.int v4), some (.int v5), some (.int v6), none, none, none, some (.int v10)] [.double x323, .double (gD σ r315 v4.toNatClampNeg), .int v4, .ref r315] σ _ _
      obtain ⟨c324, h⟩ := ck_el h
      refine RN_dadd (pc := 480) (by decide +kernel) c324 ?_
      obtain ⟨c325, h⟩ := ck_el h
      refine RN_dast (pc := 481) (by decide +kernel) c325 ?_
      obtain ⟨σ326, eσ326, h⟩ := nm_el h
      refine RN_nmS eσ326 ?_
      refine RN_aload_n (pc := 482) (k := 0) (by decide +kernel) rfl rfl ?_
      refine RN_iload (pc := 483) (i := 4) (by decide +kernel) rfl ?_
      obtain ⟨c327, h⟩ := ck_el h
      obtain ⟨σ329, f328, h⟩ := bp_el h
      refine RN_callV (M := M_X12_doesF) (pc := 485) (idx := 336) (as := [.int v4]) (st := []) (t_X12_keepsF f328) (by decide +kernel) lk_RX12_336 rfl ⟨by decide, fun q hq => by cases hq; rfl⟩ c327 (Nat.le_of_ble_eq_true rfl) ⟨Nat.le_of_ble_eq_true rfl, Nat.le_of_ble_eq_true rfl⟩ rfl ?_
      show RN G M_X12_doesF 488 [some (.ref v0), none, none, none, some (.int v4), some (.int v5), some (.int v6), none, none, none, some (.int v10)] [] σ329 _ _
      obtain ⟨x330, ex330, h⟩ := nm_el h
      refine RN_iinc (pc := 488) (i := 10) (n := 1) (v := x330) (ls2 := [some (.ref v0), none, none, none, some (.int v4), some (.int v5), some (.int v6), none, none, none, some (.int x330)]) (by decide +kernel) rfl (by rw [ex330]; rfl) (by decide) rfl ?_
      refine RN_goto (pc := 491) (off := -45) (tgt := 446) (by decide +kernel) (by decide) ?_
      exact RN_weak (l := [some (.ref v0), none, none, none, some (.int v4), some (.int v5), some (.int v6), none, none, none, some (.int x330)]) (And.intro rfl (And.intro rfl (And.intro rfl (And.intro rfl (And.intro rfl trivial))))) (ih x330 σ329 h)
def f_X12_doesF (n : Nat) (v0 : Nat) (v1 : Int32) (v2 : UInt64) (σ : Sg) : Option Sg :=
  ck (okO σ v0 11) <|
  ck (¬ gR σ v0 10 = 0) <|
  nm (gR σ v0 10) fun r163 =>
  ck (okA σ r163 13 v1) <|
  nm (gI σ r163 v1.toNatClampNeg) fun x165 =>
  ck (¬ gR σ v0 11 = 0) <|
  nm (gR σ v0 11) fun r167 =>
  ck (okA σ r167 13 v1) <|
  nm (gI σ r167 v1.toNatClampNeg) fun x169 =>
  ck (¬ gR σ v0 12 = 0) <|
  nm (gR σ v0 12) fun r171 =>
  ck (okA σ r171 13 v1) <|
  nm (gI σ r171 v1.toNatClampNeg) fun x173 =>
  ck (¬ gR σ v0 9 = 0) <|
  nm (gR σ v0 9) fun r175 =>
  ck (okA σ r175 13 v1) <|
  if (gI σ r175 v1.toNatClampNeg) = 0 then (
    ck (¬ gR σ v0 43 = 0) <|
    nm (gR σ v0 43) fun r179 =>
    ck (n64 (FP.dadd (FP.dconst0) v2)) <|
    ck (okW σ r179 12 x165) <|
    nm (pD σ r179 x165.toNatClampNeg (FP.dadd (FP.dconst0) v2)) fun σ182 =>
    b_X12_doesF_494 n v0 x165 σ182)
  else (
  if (gI σ r175 v1.toNatClampNeg) = 1 then (
    ck (¬ gR σ v0 43 = 0) <|
    nm (gR σ v0 43) fun r188 =>
    ck (n64 (FP.dadd (FP.dconst0) v2)) <|
    bp (f_X12_rateF v0 x169 σ) fun x191 =>
    ck (n64 (FP.dmul (FP.dadd (FP.dconst0) v2) x191)) <|
    bp (f_X12_roundedF (FP.dmul (FP.dadd (FP.dconst0) v2) x191) (FP.dconst1) x173) fun x194 =>
    ck (n64 (FP.dadd (FP.dconst0) x194)) <|
    ck (okW σ r188 12 x165) <|
    nm (pD σ r188 x165.toNatClampNeg (FP.dadd (FP.dconst0) x194)) fun σ197 =>
    b_X12_doesF_494 n v0 x165 σ197)
  else (
  if (gI σ r175 v1.toNatClampNeg) = 2 then (
    ck (¬ gR σ v0 43 = 0) <|
    nm (gR σ v0 43) fun r200 =>
    ck (n64 (FP.dadd (FP.dconst0) v2)) <|
    bp (f_X12_rateF v0 x169 σ) fun x203 =>
    ck (n64 (FP.dmul (FP.dadd (FP.dconst0) v2) x203)) <|
    bp (f_X12_roundedF (FP.dmul (FP.dadd (FP.dconst0) v2) x203) (FP.dconst1) x173) fun x206 =>
    ck (n64 (FP.dadd (FP.dconst0) x206)) <|
    ck (okW σ r200 12 x165) <|
    nm (pD σ r200 x165.toNatClampNeg (FP.dadd (FP.dconst0) x206)) fun σ209 =>
    b_X12_doesF_494 n v0 x165 σ209)
  else (
  if (gI σ r175 v1.toNatClampNeg) = 3 then (
    ck (¬ gR σ v0 43 = 0) <|
    nm (gR σ v0 43) fun r212 =>
    nm (gR σ v0 43) fun r213 =>
    ck (okA σ r213 12 x169) <|
    bp (f_X12_rateF v0 x173 σ) fun x216 =>
    ck (n64 (FP.dmul (gD σ r213 x169.toNatClampNeg) x216)) <|
    ck (okW σ r212 12 x165) <|
    nm (pD σ r212 x165.toNatClampNeg (FP.dmul (gD σ r213 x169.toNatClampNeg) x216)) fun σ219 =>
    b_X12_doesF_494 n v0 x165 σ219)
  else (
  if (gI σ r175 v1.toNatClampNeg) = 4 then (
    ck (¬ gR σ v0 43 = 0) <|
    nm (gR σ v0 43) fun r222 =>
    nm (gR σ v0 43) fun r223 =>
    ck (okA σ r223 12 x165) <|
    bp (f_X12_roundedF (gD σ r223 x165.toNatClampNeg) (FP.i2d x173) x169) fun x226 =>
    ck (okW σ r222 12 x165) <|
    nm (pD σ r222 x165.toNatClampNeg x226) fun σ228 =>
    b_X12_doesF_494 n v0 x165 σ228)
  else (
  if (gI σ r175 v1.toNatClampNeg) = 5 then (
    ck (¬ gR σ v0 43 = 0) <|
    nm (gR σ v0 43) fun r231 =>
    if x173 = 0 then (
      nm (gR σ v0 43) fun r240 =>
      ck (okA σ r240 12 x165) <|
      nm (gR σ v0 43) fun r242 =>
      ck (okA σ r242 12 x169) <|
      ck (n64 (FP.dadd (gD σ r240 x165.toNatClampNeg) (gD σ r242 x169.toNatClampNeg))) <|
      b_X12_doesF_226 n v0 x165 (FP.dadd (gD σ r240 x165.toNatClampNeg) (gD σ r242 x169.toNatClampNeg)) x165 r231 σ)
    else (
      nm (gR σ v0 43) fun r233 =>
      ck (okA σ r233 12 x165) <|
      nm (gR σ v0 43) fun r235 =>
      ck (okA σ r235 12 x169) <|
      ck (n64 (FP.dsub (gD σ r233 x165.toNatClampNeg) (gD σ r235 x169.toNatClampNeg))) <|
      b_X12_doesF_226 n v0 x165 (FP.dsub (gD σ r233 x165.toNatClampNeg) (gD σ r235 x169.toNatClampNeg)) x165 r231 σ))
  else (
  if (gI σ r175 v1.toNatClampNeg) = 6 then (
    bp (f_X12_splitsF n v0 x165 x169 x173 σ) fun σ247 =>
    b_X12_doesF_494 n v0 x165 σ247)
  else (
  if (gI σ r175 v1.toNatClampNeg) = 7 then (
    ck (¬ gR σ v0 43 = 0) <|
    nm (gR σ v0 43) fun r250 =>
    ck (¬ gR σ v0 44 = 0) <|
    nm (gR σ v0 44) fun r252 =>
    ck (okA σ r252 12 x169) <|
    ck (okW σ r250 12 x165) <|
    nm (pD σ r250 x165.toNatClampNeg (gD σ r252 x169.toNatClampNeg)) fun σ255 =>
    b_X12_doesF_494 n v0 x165 σ255)
  else (
  if (gI σ r175 v1.toNatClampNeg) = 8 then (
    ck (¬ gR σ v0 43 = 0) <|
    nm (gR σ v0 43) fun r258 =>
    ck (okA σ r258 12 x165) <|
    ck (n64 (FP.dadd (gD σ v0 45) (gD σ r258 x165.toNatClampNeg))) <|
    nm (FP.dadd (gD σ v0 45) (gD σ r258 x165.toNatClampNeg)) fun x261 =>
    nm (gR σ v0 43) fun r262 =>
    ck (n64 x261) <|
    ck (okW σ r262 12 x165) <|
    nm (pD σ r262 x165.toNatClampNeg (Jvm.Free.Hsc.floorOf x261)) fun σ265 =>
    ck (okO σ265 v0 11) <|
    ck (¬ gR σ265 v0 43 = 0) <|
    nm (gR σ265 v0 43) fun r268 =>
    ck (okA σ265 r268 12 x165) <|
    ck (n64 (FP.dsub x261 (gD σ265 r268 x165.toNatClampNeg))) <|
    nm (pD σ265 v0 45 (FP.dsub x261 (gD σ265 r268 x165.toNatClampNeg))) fun σ271 =>
    b_X12_doesF_494 n v0 x165 σ271)
  else (
  if (gI σ r175 v1.toNatClampNeg) = 9 then (
    if x169 = 0 then (
      ck (¬ gR σ v0 43 = 0) <|
      nm (gR σ v0 43) fun r287 =>
      ck (okA σ r287 12 x165) <|
      if (Op.cmpValue (FP.dcmp (gD σ r287 x165.toNatClampNeg) (FP.i2d x173)) .l) ≤ 0 then (
        b_X12_doesF_349 n v0 x165 x173 (0 : Int32) σ)
      else (
        b_X12_doesF_349 n v0 x165 x173 (1 : Int32) σ))
    else (
      ck (¬ gR σ v0 43 = 0) <|
      nm (gR σ v0 43) fun r275 =>
      ck (okA σ r275 12 x165) <|
      if 0 ≤ (Op.cmpValue (FP.dcmp (gD σ r275 x165.toNatClampNeg) (FP.i2d x173)) .g) then (
        b_X12_doesF_349 n v0 x165 x173 (0 : Int32) σ)
      else (
        b_X12_doesF_349 n v0 x165 x173 (1 : Int32) σ)))
  else (
  if (gI σ r175 v1.toNatClampNeg) = 10 then (
    ck (¬ gR σ v0 23 = 0) <|
    nm (gR σ v0 23) fun r292 =>
    ck (okA σ r292 14 ((8 : Int32) + x169)) <|
    if x173 = 0 then (
      ck (¬ gR σ v0 43 = 0) <|
      nm (gR σ v0 43) fun r301 =>
      ck (okA σ r301 12 x165) <|
      b_X12_doesF_415 n v0 x165 (FP.d2l (gD σ r301 x165.toNatClampNeg)) (gJ σ r292 ((8 : Int32) + x169).toNatClampNeg) ((8 : Int32) + x169) r292 σ)
    else (
      ck (¬ gR σ v0 43 = 0) <|
      nm (gR σ v0 43) fun r296 =>
      ck (okA σ r296 12 x165) <|
      b_X12_doesF_415 n v0 x165 (-(FP.d2l (gD σ r296 x165.toNatClampNeg))) (gJ σ r292 ((8 : Int32) + x169).toNatClampNeg) ((8 : Int32) + x169) r292 σ))
  else (
  if (gI σ r175 v1.toNatClampNeg) = 11 then (
    ck (¬ gR σ v0 43 = 0) <|
    nm (gR σ v0 43) fun r305 =>
    nm (gR σ v0 43) fun r306 =>
    ck (okA σ r306 12 x169) <|
    bp (f_X12_roundedF (gD σ r306 x169.toNatClampNeg) (FP.dconst1) x173) fun x309 =>
    ck (okW σ r305 12 x165) <|
    nm (pD σ r305 x165.toNatClampNeg x309) fun σ311 =>
    b_X12_doesF_494 n v0 x165 σ311)
  else (
    b_X12_doesF_446 n v0 x165 x169 x173 (0 : Int32) σ))))))))))))
set_option maxRecDepth 20000 in
theorem t_X12_doesF {G : Gl} {σr : Sg} {n : Nat} {v0 : Nat} {v1 : Int32} {v2 : UInt64} {σ : Sg} (h : f_X12_doesF n v0 v1 v2 σ = some σr) : MT G M_X12_doesF [.ref v0, .int v1, .double v2] σ none σr := by
  refine MT_of rfl rfl (Nat.le_of_ble_eq_true rfl) ?_
  show RN G M_X12_doesF 0 [some (.ref v0), some (.int v1), some (.double v2), none] [] σ (.inl none) σr
  unfold f_X12_doesF at h
  refine RN_aload_n (pc := 0) (k := 0) (by decide +kernel) rfl rfl ?_
  obtain ⟨c161, h⟩ := ck_el h
  obtain ⟨c162, h⟩ := ck_el h
  refine RN_getR (pc := 1) (idx := 31) (ci := 11) (k := 10) (by decide +kernel) lf_RX12_31 rfl c161 c162 ?_
  obtain ⟨r163, er163, h⟩ := nm_el h
  refine RN_nmR er163 ?_
  refine RN_iload_n (pc := 4) (k := 1) (by decide +kernel) rfl rfl ?_
  obtain ⟨c164, h⟩ := ck_el h
  refine RN_iald (pc := 5) (by decide +kernel) c164 ?_
  obtain ⟨x165, ex165, h⟩ := nm_el h
  refine RN_nmI ex165 ?_
  refine RN_istore (pc := 6) (i := 4) (ls2 := [some (.ref v0), some (.int v1), some (.double v2), none, some (.int x165)]) (by decide +kernel) (by decide) rfl ?_
  refine RN_aload_n (pc := 8) (k := 0) (by decide +kernel) rfl rfl ?_
  obtain ⟨c166, h⟩ := ck_el h
  refine RN_getR (pc := 9) (idx := 34) (ci := 11) (k := 11) (by decide +kernel) lf_RX12_34 rfl c161 c166 ?_
  obtain ⟨r167, er167, h⟩ := nm_el h
  refine RN_nmR er167 ?_
  refine RN_iload_n (pc := 12) (k := 1) (by decide +kernel) rfl rfl ?_
  obtain ⟨c168, h⟩ := ck_el h
  refine RN_iald (pc := 13) (by decide +kernel) c168 ?_
  obtain ⟨x169, ex169, h⟩ := nm_el h
  refine RN_nmI ex169 ?_
  refine RN_istore (pc := 14) (i := 5) (ls2 := [some (.ref v0), some (.int v1), some (.double v2), none, some (.int x165), some (.int x169)]) (by decide +kernel) (by decide) rfl ?_
  refine RN_aload_n (pc := 16) (k := 0) (by decide +kernel) rfl rfl ?_
  obtain ⟨c170, h⟩ := ck_el h
  refine RN_getR (pc := 17) (idx := 37) (ci := 11) (k := 12) (by decide +kernel) lf_RX12_37 rfl c161 c170 ?_
  obtain ⟨r171, er171, h⟩ := nm_el h
  refine RN_nmR er171 ?_
  refine RN_iload_n (pc := 20) (k := 1) (by decide +kernel) rfl rfl ?_
  obtain ⟨c172, h⟩ := ck_el h
  refine RN_iald (pc := 21) (by decide +kernel) c172 ?_
  obtain ⟨x173, ex173, h⟩ := nm_el h
  refine RN_nmI ex173 ?_
  refine RN_istore (pc := 22) (i := 6) (ls2 := [some (.ref v0), some (.int v1), some (.double v2), none, some (.int x165), some (.int x169), some (.int x173)]) (by decide +kernel) (by decide) rfl ?_
  refine RN_aload_n (pc := 24) (k := 0) (by decide +kernel) rfl rfl ?_
  obtain ⟨c174, h⟩ := ck_el h
  refine RN_getR (pc := 25) (idx := 28) (ci := 11) (k := 9) (by decide +kernel) lf_RX12_28 rfl c161 c174 ?_
  obtain ⟨r175, er175, h⟩ := nm_el h
  refine RN_nmR er175 ?_
  refine RN_iload_n (pc := 28) (k := 1) (by decide +kernel) rfl rfl ?_
  obtain ⟨c176, h⟩ := ck_el h
  refine RN_iald (pc := 29) (by decide +kernel) c176 ?_
  by_cases c177 : (gI σ r175 v1.toNatClampNeg) = 0
  · replace h := it_t c177 h
    refine RN_tsw (pc := 30) (dflt := 413) (lo := 0) (hi := 11) (offs := #[62, 75, 75, 103, 127, 152, 200, 213, 230, 273, 349, 390]) (len := 62) (v := 0) (off := 62) (tgt := 92) c177 (by decide +kernel) (by decide) (by decide) (by decide +kernel) (by decide) ?_
    refine RN_aload_n (pc := 92) (k := 0) (by decide +kernel) rfl rfl ?_
    obtain ⟨c178, h⟩ := ck_el h
    refine RN_getR (pc := 93) (idx := 103) (ci := 11) (k := 43) (by decide +kernel) lf_RX12_103 rfl c161 c178 ?_
    obtain ⟨r179, er179, h⟩ := nm_el h
    refine RN_nmR er179 ?_
    refine RN_iload (pc := 96) (i := 4) (by decide +kernel) rfl ?_
    refine RN_dconst0 (pc := 98) (by decide +kernel) ?_
    refine RN_dload_n (pc := 99) (k := 2) (by decide +kernel) rfl rfl ?_
    obtain ⟨c180, h⟩ := ck_el h
    refine RN_dadd (pc := 100) (by decide +kernel) c180 ?_
    obtain ⟨c181, h⟩ := ck_el h
    refine RN_dast (pc := 101) (by decide +kernel) c181 ?_
    obtain ⟨σ182, eσ182, h⟩ := nm_el h
    refine RN_nmS eσ182 ?_
    refine RN_goto (pc := 102) (off := 392) (tgt := 494) (by decide +kernel) (by decide) ?_
    exact RN_weak (l := [some (.ref v0), none, none, none, some (.int x165)]) (And.intro rfl (And.intro rfl trivial)) (tb_X12_doesF_494 n v0 x165 σ182 h)
  · replace h := it_f c177 h
    by_cases c186 : (gI σ r175 v1.toNatClampNeg) = 1
    · replace h := it_t c186 h
      refine RN_tsw (pc := 30) (dflt := 413) (lo := 0) (hi := 11) (offs := #[62, 75, 75, 103, 127, 152, 200, 213, 230, 273, 349, 390]) (len := 62) (v := 1) (off := 75) (tgt := 105) c186 (by decide +kernel) (by decide) (by decide) (by decide +kernel) (by decide) ?_
      refine RN_aload_n (pc := 105) (k := 0) (by decide +kernel) rfl rfl ?_
      obtain ⟨c187, h⟩ := ck_el h
      refine RN_getR (pc := 106) (idx := 103) (ci := 11) (k := 43) (by decide +kernel) lf_RX12_103 rfl c161 c187 ?_
      obtain ⟨r188, er188, h⟩ := nm_el h
      refine RN_nmR er188 ?_
      refine RN_iload (pc := 109) (i := 4) (by decide +kernel) rfl ?_
      refine RN_dconst0 (pc := 111) (by decide +kernel) ?_
      refine RN_dconst0 (pc := 112) (by decide +kernel) ?_
      refine RN_dload_n (pc := 113) (k := 2) (by decide +kernel) rfl rfl ?_
      obtain ⟨c189, h⟩ := ck_el h
      refine RN_dadd (pc := 114) (by decide +kernel) c189 ?_
      refine RN_aload_n (pc := 115) (k := 0) (by decide +kernel) rfl rfl ?_
      refine RN_iload (pc := 116) (i := 5) (by decide +kernel) rfl ?_
      obtain ⟨x191, f190, h⟩ := bp_el h
      refine RN_callV (M := M_X12_doesF) (pc := 118) (idx := 321) (as := [.int x169]) (st := [.double (FP.dadd (FP.dconst0) v2), .double (FP.dconst0), .int x165, .ref r188]) (t_X12_rateF f190) (by decide +kernel) lk_RX12_321 rfl ⟨by decide, fun q hq => by cases hq; rfl⟩ c161 (Nat.le_of_ble_eq_true rfl) ⟨Nat.le_of_ble_eq_true rfl, Nat.le_of_ble_eq_true rfl⟩ rfl ?_
      show RN G M_X12_doesF 121 [some (.ref v0), some (.int v1), some (.double v2), none, some (.int x165), some (.int x169), some (.int x173)] [.double x191, .double (FP.dadd (FP.dconst0) v2), .double (FP.dconst0), .int x165, .ref r188] σ _ _
      obtain ⟨c192, h⟩ := ck_el h
      refine RN_dmul (pc := 121) (by decide +kernel) c192 ?_
      refine RN_dconst1 (pc := 122) (by decide +kernel) ?_
      refine RN_iload (pc := 123) (i := 6) (by decide +kernel) rfl ?_
      obtain ⟨x194, f193, h⟩ := bp_el h
      refine RN_callS (M := M_X12_doesF) (pc := 125) (idx := 325) (as := [.double (FP.dmul (FP.dadd (FP.dconst0) v2) x191), .double (FP.dconst1), .int x173]) (st := [.double (FP.dconst0), .int x165, .ref r188]) (t_X12_roundedF f193) (by decide +kernel) lk_RX12_325 rfl (Nat.le_of_ble_eq_true rfl) ⟨Nat.le_of_ble_eq_true rfl, Nat.le_of_ble_eq_true rfl⟩ rfl ?_
      show RN G M_X12_doesF 128 [some (.ref v0), some (.int v1), some (.double v2), none, some (.int x165), some (.int x169), some (.int x173)] [.double x194, .double (FP.dconst0), .int x165, .ref r188] σ _ _
      obtain ⟨c195, h⟩ := ck_el h
      refine RN_dadd (pc := 128) (by decide +kernel) c195 ?_
      obtain ⟨c196, h⟩ := ck_el h
      refine RN_dast (pc := 129) (by decide +kernel) c196 ?_
      obtain ⟨σ197, eσ197, h⟩ := nm_el h
      refine RN_nmS eσ197 ?_
      refine RN_goto (pc := 130) (off := 364) (tgt := 494) (by decide +kernel) (by decide) ?_
      exact RN_weak (l := [some (.ref v0), none, none, none, some (.int x165)]) (And.intro rfl (And.intro rfl trivial)) (tb_X12_doesF_494 n v0 x165 σ197 h)
    · replace h := it_f c186 h
      by_cases c198 : (gI σ r175 v1.toNatClampNeg) = 2
      · replace h := it_t c198 h
        refine RN_tsw (pc := 30) (dflt := 413) (lo := 0) (hi := 11) (offs := #[62, 75, 75, 103, 127, 152, 200, 213, 230, 273, 349, 390]) (len := 62) (v := 2) (off := 75) (tgt := 105) c198 (by decide +kernel) (by decide) (by decide) (by decide +kernel) (by decide) ?_
        refine RN_aload_n (pc := 105) (k := 0) (by decide +kernel) rfl rfl ?_
        obtain ⟨c199, h⟩ := ck_el h
        refine RN_getR (pc := 106) (idx := 103) (ci := 11) (k := 43) (by decide +kernel) lf_RX12_103 rfl c161 c199 ?_
        obtain ⟨r200, er200, h⟩ := nm_el h
        refine RN_nmR er200 ?_
        refine RN_iload (pc := 109) (i := 4) (by decide +kernel) rfl ?_
        refine RN_dconst0 (pc := 111) (by decide +kernel) ?_
        refine RN_dconst0 (pc := 112) (by decide +kernel) ?_
        refine RN_dload_n (pc := 113) (k := 2) (by decide +kernel) rfl rfl ?_
        obtain ⟨c201, h⟩ := ck_el h
        refine RN_dadd (pc := 114) (by decide +kernel) c201 ?_
        refine RN_aload_n (pc := 115) (k := 0) (by decide +kernel) rfl rfl ?_
        refine RN_iload (pc := 116) (i := 5) (by decide +kernel) rfl ?_
        obtain ⟨x203, f202, h⟩ := bp_el h
        refine RN_callV (M := M_X12_doesF) (pc := 118) (idx := 321) (as := [.int x169]) (st := [.double (FP.dadd (FP.dconst0) v2), .double (FP.dconst0), .int x165, .ref r200]) (t_X12_rateF f202) (by decide +kernel) lk_RX12_321 rfl ⟨by decide, fun q hq => by cases hq; rfl⟩ c161 (Nat.le_of_ble_eq_true rfl) ⟨Nat.le_of_ble_eq_true rfl, Nat.le_of_ble_eq_true rfl⟩ rfl ?_
        show RN G M_X12_doesF 121 [some (.ref v0), some (.int v1), some (.double v2), none, some (.int x165), some (.int x169), some (.int x173)] [.double x203, .double (FP.dadd (FP.dconst0) v2), .double (FP.dconst0), .int x165, .ref r200] σ _ _
        obtain ⟨c204, h⟩ := ck_el h
        refine RN_dmul (pc := 121) (by decide +kernel) c204 ?_
        refine RN_dconst1 (pc := 122) (by decide +kernel) ?_
        refine RN_iload (pc := 123) (i := 6) (by decide +kernel) rfl ?_
        obtain ⟨x206, f205, h⟩ := bp_el h
        refine RN_callS (M := M_X12_doesF) (pc := 125) (idx := 325) (as := [.double (FP.dmul (FP.dadd (FP.dconst0) v2) x203), .double (FP.dconst1), .int x173]) (st := [.double (FP.dconst0), .int x165, .ref r200]) (t_X12_roundedF f205) (by decide +kernel) lk_RX12_325 rfl (Nat.le_of_ble_eq_true rfl) ⟨Nat.le_of_ble_eq_true rfl, Nat.le_of_ble_eq_true rfl⟩ rfl ?_
        show RN G M_X12_doesF 128 [some (.ref v0), some (.int v1), some (.double v2), none, some (.int x165), some (.int x169), some (.int x173)] [.double x206, .double (FP.dconst0), .int x165, .ref r200] σ _ _
        obtain ⟨c207, h⟩ := ck_el h
        refine RN_dadd (pc := 128) (by decide +kernel) c207 ?_
        obtain ⟨c208, h⟩ := ck_el h
        refine RN_dast (pc := 129) (by decide +kernel) c208 ?_
        obtain ⟨σ209, eσ209, h⟩ := nm_el h
        refine RN_nmS eσ209 ?_
        refine RN_goto (pc := 130) (off := 364) (tgt := 494) (by decide +kernel) (by decide) ?_
        exact RN_weak (l := [some (.ref v0), none, none, none, some (.int x165)]) (And.intro rfl (And.intro rfl trivial)) (tb_X12_doesF_494 n v0 x165 σ209 h)
      · replace h := it_f c198 h
        by_cases c210 : (gI σ r175 v1.toNatClampNeg) = 3
        · replace h := it_t c210 h
          refine RN_tsw (pc := 30) (dflt := 413) (lo := 0) (hi := 11) (offs := #[62, 75, 75, 103, 127, 152, 200, 213, 230, 273, 349, 390]) (len := 62) (v := 3) (off := 103) (tgt := 133) c210 (by decide +kernel) (by decide) (by decide) (by decide +kernel) (by decide) ?_
          refine RN_aload_n (pc := 133) (k := 0) (by decide +kernel) rfl rfl ?_
          obtain ⟨c211, h⟩ := ck_el h
          refine RN_getR (pc := 134) (idx := 103) (ci := 11) (k := 43) (by decide +kernel) lf_RX12_103 rfl c161 c211 ?_
          obtain ⟨r212, er212, h⟩ := nm_el h
          refine RN_nmR er212 ?_
          refine RN_iload (pc := 137) (i := 4) (by decide +kernel) rfl ?_
          refine RN_aload_n (pc := 139) (k := 0) (by decide +kernel) rfl rfl ?_
          refine RN_getR (pc := 140) (idx := 103) (ci := 11) (k := 43) (by decide +kernel) lf_RX12_103 rfl c161 c211 ?_
          obtain ⟨r213, er213, h⟩ := nm_el h
          refine RN_nmR er213 ?_
          refine RN_iload (pc := 143) (i := 5) (by decide +kernel) rfl ?_
          obtain ⟨c214, h⟩ := ck_el h
          refine RN_dald (pc := 145) (by decide +kernel) c214 ?_
          refine RN_aload_n (pc := 146) (k := 0) (by decide +kernel) rfl rfl ?_
          refine RN_iload (pc := 147) (i := 6) (by decide +kernel) rfl ?_
          obtain ⟨x216, f215, h⟩ := bp_el h
          refine RN_callV (M := M_X12_doesF) (pc := 149) (idx := 321) (as := [.int x173]) (st := [.double (gD σ r213 x169.toNatClampNeg), .int x165, .ref r212]) (t_X12_rateF f215) (by decide +kernel) lk_RX12_321 rfl ⟨by decide, fun q hq => by cases hq; rfl⟩ c161 (Nat.le_of_ble_eq_true rfl) ⟨Nat.le_of_ble_eq_true rfl, Nat.le_of_ble_eq_true rfl⟩ rfl ?_
          show RN G M_X12_doesF 152 [some (.ref v0), some (.int v1), some (.double v2), none, some (.int x165), some (.int x169), some (.int x173)] [.double x216, .double (gD σ r213 x169.toNatClampNeg), .int x165, .ref r212] σ _ _
          obtain ⟨c217, h⟩ := ck_el h
          refine RN_dmul (pc := 152) (by decide +kernel) c217 ?_
          obtain ⟨c218, h⟩ := ck_el h
          refine RN_dast (pc := 153) (by decide +kernel) c218 ?_
          obtain ⟨σ219, eσ219, h⟩ := nm_el h
          refine RN_nmS eσ219 ?_
          refine RN_goto (pc := 154) (off := 340) (tgt := 494) (by decide +kernel) (by decide) ?_
          exact RN_weak (l := [some (.ref v0), none, none, none, some (.int x165)]) (And.intro rfl (And.intro rfl trivial)) (tb_X12_doesF_494 n v0 x165 σ219 h)
        · replace h := it_f c210 h
          by_cases c220 : (gI σ r175 v1.toNatClampNeg) = 4
          · replace h := it_t c220 h
            refine RN_tsw (pc := 30) (dflt := 413) (lo := 0) (hi := 11) (offs := #[62, 75, 75, 103, 127, 152, 200, 213, 230, 273, 349, 390]) (len := 62) (v := 4) (off := 127) (tgt := 157) c220 (by decide +kernel) (by decide) (by decide) (by decide +kernel) (by decide) ?_
            refine RN_aload_n (pc := 157) (k := 0) (by decide +kernel) rfl rfl ?_
            obtain ⟨c221, h⟩ := ck_el h
            refine RN_getR (pc := 158) (idx := 103) (ci := 11) (k := 43) (by decide +kernel) lf_RX12_103 rfl c161 c221 ?_
            obtain ⟨r222, er222, h⟩ := nm_el h
            refine RN_nmR er222 ?_
            refine RN_iload (pc := 161) (i := 4) (by decide +kernel) rfl ?_
            refine RN_aload_n (pc := 163) (k := 0) (by decide +kernel) rfl rfl ?_
            refine RN_getR (pc := 164) (idx := 103) (ci := 11) (k := 43) (by decide +kernel) lf_RX12_103 rfl c161 c221 ?_
            obtain ⟨r223, er223, h⟩ := nm_el h
            refine RN_nmR er223 ?_
            refine RN_iload (pc := 167) (i := 4) (by decide +kernel) rfl ?_
            obtain ⟨c224, h⟩ := ck_el h
            refine RN_dald (pc := 169) (by decide +kernel) c224 ?_
            refine RN_iload (pc := 170) (i := 6) (by decide +kernel) rfl ?_
            refine RN_i2d (pc := 172) (by decide +kernel) ?_
            refine RN_iload (pc := 173) (i := 5) (by decide +kernel) rfl ?_
            obtain ⟨x226, f225, h⟩ := bp_el h
            refine RN_callS (M := M_X12_doesF) (pc := 175) (idx := 325) (as := [.double (gD σ r223 x165.toNatClampNeg), .double (FP.i2d x173), .int x169]) (st := [.int x165, .ref r222]) (t_X12_roundedF f225) (by decide +kernel) lk_RX12_325 rfl (Nat.le_of_ble_eq_true rfl) ⟨Nat.le_of_ble_eq_true rfl, Nat.le_of_ble_eq_true rfl⟩ rfl ?_
            show RN G M_X12_doesF 178 [some (.ref v0), some (.int v1), some (.double v2), none, some (.int x165), some (.int x169), some (.int x173)] [.double x226, .int x165, .ref r222] σ _ _
            obtain ⟨c227, h⟩ := ck_el h
            refine RN_dast (pc := 178) (by decide +kernel) c227 ?_
            obtain ⟨σ228, eσ228, h⟩ := nm_el h
            refine RN_nmS eσ228 ?_
            refine RN_goto (pc := 179) (off := 315) (tgt := 494) (by decide +kernel) (by decide) ?_
            exact RN_weak (l := [some (.ref v0), none, none, none, some (.int x165)]) (And.intro rfl (And.intro rfl trivial)) (tb_X12_doesF_494 n v0 x165 σ228 h)
          · replace h := it_f c220 h
            by_cases c229 : (gI σ r175 v1.toNatClampNeg) = 5
            · replace h := it_t c229 h
              refine RN_tsw (pc := 30) (dflt := 413) (lo := 0) (hi := 11) (offs := #[62, 75, 75, 103, 127, 152, 200, 213, 230, 273, 349, 390]) (len := 62) (v := 5) (off := 152) (tgt := 182) c229 (by decide +kernel) (by decide) (by decide) (by decide +kernel) (by decide) ?_
              refine RN_aload_n (pc := 182) (k := 0) (by decide +kernel) rfl rfl ?_
              obtain ⟨c230, h⟩ := ck_el h
              refine RN_getR (pc := 183) (idx := 103) (ci := 11) (k := 43) (by decide +kernel) lf_RX12_103 rfl c161 c230 ?_
              obtain ⟨r231, er231, h⟩ := nm_el h
              refine RN_nmR er231 ?_
              refine RN_iload (pc := 186) (i := 4) (by decide +kernel) rfl ?_
              refine RN_iload (pc := 188) (i := 6) (by decide +kernel) rfl ?_
              refine RN_if_ne (pc := 190) (off := 21) (tgt := 211) (by decide +kernel) (by decide) (fun c232 => ?_) (fun c232 => ?_)
              · replace h := it_f c232 h
                refine RN_aload_n (pc := 211) (k := 0) (by decide +kernel) rfl rfl ?_
                refine RN_getR (pc := 212) (idx := 103) (ci := 11) (k := 43) (by decide +kernel) lf_RX12_103 rfl c161 c230 ?_
                obtain ⟨r233, er233, h⟩ := nm_el h
                refine RN_nmR er233 ?_
                refine RN_iload (pc := 215) (i := 4) (by decide +kernel) rfl ?_
                obtain ⟨c234, h⟩ := ck_el h
                refine RN_dald (pc := 217) (by decide +kernel) c234 ?_
                refine RN_aload_n (pc := 218) (k := 0) (by decide +kernel) rfl rfl ?_
                refine RN_getR (pc := 219) (idx := 103) (ci := 11) (k := 43) (by decide +kernel) lf_RX12_103 rfl c161 c230 ?_
                obtain ⟨r235, er235, h⟩ := nm_el h
                refine RN_nmR er235 ?_
                refine RN_iload (pc := 222) (i := 5) (by decide +kernel) rfl ?_
                obtain ⟨c236, h⟩ := ck_el h
                refine RN_dald (pc := 224) (by decide +kernel) c236 ?_
                obtain ⟨c237, h⟩ := ck_el h
                refine RN_dsub (pc := 225) (by decide +kernel) c237 ?_
                exact RN_weak (l := [some (.ref v0), none, none, none, some (.int x165)]) (And.intro rfl (And.intro rfl trivial)) (tb_X12_doesF_226 n v0 x165 (FP.dsub (gD σ r233 x165.toNatClampNeg) (gD σ r235 x169.toNatClampNeg)) x165 r231 σ h)
              · replace h := it_t c232 h
                refine RN_aload_n (pc := 193) (k := 0) (by decide +kernel) rfl rfl ?_
                refine RN_getR (pc := 194) (idx := 103) (ci := 11) (k := 43) (by decide +kernel) lf_RX12_103 rfl c161 c230 ?_
                obtain ⟨r240, er240, h⟩ := nm_el h
                refine RN_nmR er240 ?_
                refine RN_iload (pc := 197) (i := 4) (by decide +kernel) rfl ?_
                obtain ⟨c241, h⟩ := ck_el h
                refine RN_dald (pc := 199) (by decide +kernel) c241 ?_
                refine RN_aload_n (pc := 200) (k := 0) (by decide +kernel) rfl rfl ?_
                refine RN_getR (pc := 201) (idx := 103) (ci := 11) (k := 43) (by decide +kernel) lf_RX12_103 rfl c161 c230 ?_
                obtain ⟨r242, er242, h⟩ := nm_el h
                refine RN_nmR er242 ?_
                refine RN_iload (pc := 204) (i := 5) (by decide +kernel) rfl ?_
                obtain ⟨c243, h⟩ := ck_el h
                refine RN_dald (pc := 206) (by decide +kernel) c243 ?_
                obtain ⟨c244, h⟩ := ck_el h
                refine RN_dadd (pc := 207) (by decide +kernel) c244 ?_
                refine RN_goto (pc := 208) (off := 18) (tgt := 226) (by decide +kernel) (by decide) ?_
                exact RN_weak (l := [some (.ref v0), none, none, none, some (.int x165)]) (And.intro rfl (And.intro rfl trivial)) (tb_X12_doesF_226 n v0 x165 (FP.dadd (gD σ r240 x165.toNatClampNeg) (gD σ r242 x169.toNatClampNeg)) x165 r231 σ h)
            · replace h := it_f c229 h
              by_cases c245 : (gI σ r175 v1.toNatClampNeg) = 6
              · replace h := it_t c245 h
                refine RN_tsw (pc := 30) (dflt := 413) (lo := 0) (hi := 11) (offs := #[62, 75, 75, 103, 127, 152, 200, 213, 230, 273, 349, 390]) (len := 62) (v := 6) (off := 200) (tgt := 230) c245 (by decide +kernel) (by decide) (by decide) (by decide +kernel) (by decide) ?_
                refine RN_aload_n (pc := 230) (k := 0) (by decide +kernel) rfl rfl ?_
                refine RN_iload (pc := 231) (i := 4) (by decide +kernel) rfl ?_
                refine RN_iload (pc := 233) (i := 5) (by decide +kernel) rfl ?_
                refine RN_iload (pc := 235) (i := 6) (by decide +kernel) rfl ?_
                obtain ⟨σ247, f246, h⟩ := bp_el h
                refine RN_callV (M := M_X12_doesF) (pc := 237) (idx := 329) (as := [.int x165, .int x169, .int x173]) (st := []) (t_X12_splitsF f246) (by decide +kernel) lk_RX12_329 rfl ⟨by decide, fun q hq => by cases hq; rfl⟩ c161 (Nat.le_of_ble_eq_true rfl) ⟨Nat.le_of_ble_eq_true rfl, Nat.le_of_ble_eq_true rfl⟩ rfl ?_
                show RN G M_X12_doesF 240 [some (.ref v0), some (.int v1), some (.double v2), none, some (.int x165), some (.int x169), some (.int x173)] [] σ247 _ _
                refine RN_goto (pc := 240) (off := 254) (tgt := 494) (by decide +kernel) (by decide) ?_
                exact RN_weak (l := [some (.ref v0), none, none, none, some (.int x165)]) (And.intro rfl (And.intro rfl trivial)) (tb_X12_doesF_494 n v0 x165 σ247 h)
              · replace h := it_f c245 h
                by_cases c248 : (gI σ r175 v1.toNatClampNeg) = 7
                · replace h := it_t c248 h
                  refine RN_tsw (pc := 30) (dflt := 413) (lo := 0) (hi := 11) (offs := #[62, 75, 75, 103, 127, 152, 200, 213, 230, 273, 349, 390]) (len := 62) (v := 7) (off := 213) (tgt := 243) c248 (by decide +kernel) (by decide) (by decide) (by decide +kernel) (by decide) ?_
                  refine RN_aload_n (pc := 243) (k := 0) (by decide +kernel) rfl rfl ?_
                  obtain ⟨c249, h⟩ := ck_el h
                  refine RN_getR (pc := 244) (idx := 103) (ci := 11) (k := 43) (by decide +kernel) lf_RX12_103 rfl c161 c249 ?_
                  obtain ⟨r250, er250, h⟩ := nm_el h
                  refine RN_nmR er250 ?_
                  refine RN_iload (pc := 247) (i := 4) (by decide +kernel) rfl ?_
                  refine RN_aload_n (pc := 249) (k := 0) (by decide +kernel) rfl rfl ?_
                  obtain ⟨c251, h⟩ := ck_el h
                  refine RN_getR (pc := 250) (idx := 107) (ci := 11) (k := 44) (by decide +kernel) lf_RX12_107 rfl c161 c251 ?_
                  obtain ⟨r252, er252, h⟩ := nm_el h
                  refine RN_nmR er252 ?_
                  refine RN_iload (pc := 253) (i := 5) (by decide +kernel) rfl ?_
                  obtain ⟨c253, h⟩ := ck_el h
                  refine RN_dald (pc := 255) (by decide +kernel) c253 ?_
                  obtain ⟨c254, h⟩ := ck_el h
                  refine RN_dast (pc := 256) (by decide +kernel) c254 ?_
                  obtain ⟨σ255, eσ255, h⟩ := nm_el h
                  refine RN_nmS eσ255 ?_
                  refine RN_goto (pc := 257) (off := 237) (tgt := 494) (by decide +kernel) (by decide) ?_
                  exact RN_weak (l := [some (.ref v0), none, none, none, some (.int x165)]) (And.intro rfl (And.intro rfl trivial)) (tb_X12_doesF_494 n v0 x165 σ255 h)
                · replace h := it_f c248 h
                  by_cases c256 : (gI σ r175 v1.toNatClampNeg) = 8
                  · replace h := it_t c256 h
                    refine RN_tsw (pc := 30) (dflt := 413) (lo := 0) (hi := 11) (offs := #[62, 75, 75, 103, 127, 152, 200, 213, 230, 273, 349, 390]) (len := 62) (v := 8) (off := 230) (tgt := 260) c256 (by decide +kernel) (by decide) (by decide) (by decide +kernel) (by decide) ?_
                    refine RN_aload_n (pc := 260) (k := 0) (by decide +kernel) rfl rfl ?_
                    refine RN_getD (pc := 261) (idx := 332) (ci := 11) (k := 45) (by decide +kernel) lf_RX12_332 rfl c161 ?_
                    refine RN_aload_n (pc := 264) (k := 0) (by decide +kernel) rfl rfl ?_
                    obtain ⟨c257, h⟩ := ck_el h
                    refine RN_getR (pc := 265) (idx := 103) (ci := 11) (k := 43) (by decide +kernel) lf_RX12_103 rfl c161 c257 ?_
                    obtain ⟨r258, er258, h⟩ := nm_el h
                    refine RN_nmR er258 ?_
                    refine RN_iload (pc := 268) (i := 4) (by decide +kernel) rfl ?_
                    obtain ⟨c259, h⟩ := ck_el h
                    refine RN_dald (pc := 270) (by decide +kernel) c259 ?_
                    obtain ⟨c260, h⟩ := ck_el h
                    refine RN_dadd (pc := 271) (by decide +kernel) c260 ?_
                    obtain ⟨x261, ex261, h⟩ := nm_el h
                    refine RN_nmD ex261 ?_
                    refine RN_dstore (pc := 272) (i := 7) (ls2 := [some (.ref v0), some (.int v1), some (.double v2), none, some (.int x165), some (.int x169), some (.int x173), some (.double x261), none]) (by decide +kernel) (by decide) rfl ?_
                    refine RN_aload_n (pc := 274) (k := 0) (by decide +kernel) rfl rfl ?_
                    refine RN_getR (pc := 275) (idx := 103) (ci := 11) (k := 43) (by decide +kernel) lf_RX12_103 rfl c161 c257 ?_
                    obtain ⟨r262, er262, h⟩ := nm_el h
                    refine RN_nmR er262 ?_
                    refine RN_iload (pc := 278) (i := 4) (by decide +kernel) rfl ?_
                    refine RN_dload (pc := 280) (i := 7) (by decide +kernel) rfl ?_
                    obtain ⟨c263, h⟩ := ck_el h
                    refine RN_mfloor (pc := 282) (idx := 310) (by decide +kernel) ma_RX12_310 ma_floor_s ma_ini ma_floor_c c263 (by decide) (by decide) (Nat.le_of_ble_eq_true rfl) ?_
                    obtain ⟨c264, h⟩ := ck_el h
                    refine RN_dast (pc := 285) (by decide +kernel) c264 ?_
                    obtain ⟨σ265, eσ265, h⟩ := nm_el h
                    refine RN_nmS eσ265 ?_
                    refine RN_aload_n (pc := 286) (k := 0) (by decide +kernel) rfl rfl ?_
                    refine RN_dload (pc := 287) (i := 7) (by decide +kernel) rfl ?_
                    refine RN_aload_n (pc := 289) (k := 0) (by decide +kernel) rfl rfl ?_
                    obtain ⟨c266, h⟩ := ck_el h
                    obtain ⟨c267, h⟩ := ck_el h
                    refine RN_getR (pc := 290) (idx := 103) (ci := 11) (k := 43) (by decide +kernel) lf_RX12_103 rfl c266 c267 ?_
                    obtain ⟨r268, er268, h⟩ := nm_el h
                    refine RN_nmR er268 ?_
                    refine RN_iload (pc := 293) (i := 4) (by decide +kernel) rfl ?_
                    obtain ⟨c269, h⟩ := ck_el h
                    refine RN_dald (pc := 295) (by decide +kernel) c269 ?_
                    obtain ⟨c270, h⟩ := ck_el h
                    refine RN_dsub (pc := 296) (by decide +kernel) c270 ?_
                    refine RN_putD (pc := 297) (idx := 332) (ci := 11) (k := 45) (by decide +kernel) lf_RX12_332 rfl (fun q hq => by cases hq; exact Or.inl rfl) c266 ?_
                    obtain ⟨σ271, eσ271, h⟩ := nm_el h
                    refine RN_nmS eσ271 ?_
                    refine RN_goto (pc := 300) (off := 194) (tgt := 494) (by decide +kernel) (by decide) ?_
                    exact RN_weak (l := [some (.ref v0), none, none, none, some (.int x165)]) (And.intro rfl (And.intro rfl trivial)) (tb_X12_doesF_494 n v0 x165 σ271 h)
                  · replace h := it_f c256 h
                    by_cases c272 : (gI σ r175 v1.toNatClampNeg) = 9
                    · replace h := it_t c272 h
                      refine RN_tsw (pc := 30) (dflt := 413) (lo := 0) (hi := 11) (offs := #[62, 75, 75, 103, 127, 152, 200, 213, 230, 273, 349, 390]) (len := 62) (v := 9) (off := 273) (tgt := 303) c272 (by decide +kernel) (by decide) (by decide) (by decide +kernel) (by decide) ?_
                      refine RN_iload (pc := 303) (i := 5) (by decide +kernel) rfl ?_
                      refine RN_if_ne (pc := 305) (off := 25) (tgt := 330) (by decide +kernel) (by decide) (fun c273 => ?_) (fun c273 => ?_)
                      · replace h := it_f c273 h
                        refine RN_aload_n (pc := 330) (k := 0) (by decide +kernel) rfl rfl ?_
                        obtain ⟨c274, h⟩ := ck_el h
                        refine RN_getR (pc := 331) (idx := 103) (ci := 11) (k := 43) (by decide +kernel) lf_RX12_103 rfl c161 c274 ?_
                        obtain ⟨r275, er275, h⟩ := nm_el h
                        refine RN_nmR er275 ?_
                        refine RN_iload (pc := 334) (i := 4) (by decide +kernel) rfl ?_
                        obtain ⟨c276, h⟩ := ck_el h
                        refine RN_dald (pc := 336) (by decide +kernel) c276 ?_
                        refine RN_iload (pc := 337) (i := 6) (by decide +kernel) rfl ?_
                        refine RN_i2d (pc := 339) (by decide +kernel) ?_
                        refine RN_dcmp (pc := 340) (op := .g) (by decide +kernel) ?_
                        refine RN_if_ge (pc := 341) (off := 7) (tgt := 348) (by decide +kernel) (by decide) (fun c277 => ?_) (fun c277 => ?_)
                        · replace h := it_t c277 h
                          refine RN_iconst (pc := 348) (n := 0) (v := 0) (by decide +kernel) (by decide) ?_
                          exact RN_weak (l := [some (.ref v0), none, none, none, some (.int x165), none, some (.int x173)]) (And.intro rfl (And.intro rfl (And.intro rfl trivial))) (tb_X12_doesF_349 n v0 x165 x173 (0 : Int32) σ h)
                        · replace h := it_f c277 h
                          refine RN_iconst (pc := 344) (n := 1) (v := 1) (by decide +kernel) (by decide) ?_
                          refine RN_goto (pc := 345) (off := 4) (tgt := 349) (by decide +kernel) (by decide) ?_
                          exact RN_weak (l := [some (.ref v0), none, none, none, some (.int x165), none, some (.int x173)]) (And.intro rfl (And.intro rfl (And.intro rfl trivial))) (tb_X12_doesF_349 n v0 x165 x173 (1 : Int32) σ h)
                      · replace h := it_t c273 h
                        refine RN_aload_n (pc := 308) (k := 0) (by decide +kernel) rfl rfl ?_
                        obtain ⟨c286, h⟩ := ck_el h
                        refine RN_getR (pc := 309) (idx := 103) (ci := 11) (k := 43) (by decide +kernel) lf_RX12_103 rfl c161 c286 ?_
                        obtain ⟨r287, er287, h⟩ := nm_el h
                        refine RN_nmR er287 ?_
                        refine RN_iload (pc := 312) (i := 4) (by decide +kernel) rfl ?_
                        obtain ⟨c288, h⟩ := ck_el h
                        refine RN_dald (pc := 314) (by decide +kernel) c288 ?_
                        refine RN_iload (pc := 315) (i := 6) (by decide +kernel) rfl ?_
                        refine RN_i2d (pc := 317) (by decide +kernel) ?_
                        refine RN_dcmp (pc := 318) (op := .l) (by decide +kernel) ?_
                        refine RN_if_le (pc := 319) (off := 7) (tgt := 326) (by decide +kernel) (by decide) (fun c289 => ?_) (fun c289 => ?_)
                        · replace h := it_t c289 h
                          refine RN_iconst (pc := 326) (n := 0) (v := 0) (by decide +kernel) (by decide) ?_
                          refine RN_goto (pc := 327) (off := 22) (tgt := 349) (by decide +kernel) (by decide) ?_
                          exact RN_weak (l := [some (.ref v0), none, none, none, some (.int x165), none, some (.int x173)]) (And.intro rfl (And.intro rfl (And.intro rfl trivial))) (tb_X12_doesF_349 n v0 x165 x173 (0 : Int32) σ h)
                        · replace h := it_f c289 h
                          refine RN_iconst (pc := 322) (n := 1) (v := 1) (by decide +kernel) (by decide) ?_
                          refine RN_goto (pc := 323) (off := 26) (tgt := 349) (by decide +kernel) (by decide) ?_
                          exact RN_weak (l := [some (.ref v0), none, none, none, some (.int x165), none, some (.int x173)]) (And.intro rfl (And.intro rfl (And.intro rfl trivial))) (tb_X12_doesF_349 n v0 x165 x173 (1 : Int32) σ h)
                    · replace h := it_f c272 h
                      by_cases c290 : (gI σ r175 v1.toNatClampNeg) = 10
                      · replace h := it_t c290 h
                        refine RN_tsw (pc := 30) (dflt := 413) (lo := 0) (hi := 11) (offs := #[62, 75, 75, 103, 127, 152, 200, 213, 230, 273, 349, 390]) (len := 62) (v := 10) (off := 349) (tgt := 379) c290 (by decide +kernel) (by decide) (by decide) (by decide +kernel) (by decide) ?_
                        refine RN_aload_n (pc := 379) (k := 0) (by decide +kernel) rfl rfl ?_
                        obtain ⟨c291, h⟩ := ck_el h
                        refine RN_getR (pc := 380) (idx := 60) (ci := 11) (k := 23) (by decide +kernel) lf_RX12_60 rfl c161 c291 ?_
                        obtain ⟨r292, er292, h⟩ := nm_el h
                        refine RN_nmR er292 ?_
                        refine RN_bipush (pc := 383) (n := 8) (v := 8) (by decide +kernel) (by decide) ?_
                        refine RN_iload (pc := 385) (i := 5) (by decide +kernel) rfl ?_
                        refine RN_iadd (pc := 387) (by decide +kernel) ?_
                        refine RN_dup2_11 (pc := 388) (by decide +kernel) rfl rfl ?_
                        obtain ⟨c293, h⟩ := ck_el h
                        refine RN_lald (pc := 389) (by decide +kernel) c293 ?_
                        refine RN_iload (pc := 390) (i := 6) (by decide +kernel) rfl ?_
                        refine RN_if_ne (pc := 392) (off := 14) (tgt := 406) (by decide +kernel) (by decide) (fun c294 => ?_) (fun c294 => ?_)
                        · replace h := it_f c294 h
                          refine RN_aload_n (pc := 406) (k := 0) (by decide +kernel) rfl rfl ?_
                          obtain ⟨c295, h⟩ := ck_el h
                          refine RN_getR (pc := 407) (idx := 103) (ci := 11) (k := 43) (by decide +kernel) lf_RX12_103 rfl c161 c295 ?_
                          obtain ⟨r296, er296, h⟩ := nm_el h
                          refine RN_nmR er296 ?_
                          refine RN_iload (pc := 410) (i := 4) (by decide +kernel) rfl ?_
                          obtain ⟨c297, h⟩ := ck_el h
                          refine RN_dald (pc := 412) (by decide +kernel) c297 ?_
                          refine RN_d2l (pc := 413) (by decide +kernel) ?_
                          refine RN_lneg (pc := 414) (by decide +kernel) ?_
                          exact RN_weak (l := [some (.ref v0), none, none, none, some (.int x165)]) (And.intro rfl (And.intro rfl trivial)) (tb_X12_doesF_415 n v0 x165 (-(FP.d2l (gD σ r296 x165.toNatClampNeg))) (gJ σ r292 ((8 : Int32) + x169).toNatClampNeg) ((8 : Int32) + x169) r292 σ h)
                        · replace h := it_t c294 h
                          refine RN_aload_n (pc := 395) (k := 0) (by decide +kernel) rfl rfl ?_
                          obtain ⟨c300, h⟩ := ck_el h
                          refine RN_getR (pc := 396) (idx := 103) (ci := 11) (k := 43) (by decide +kernel) lf_RX12_103 rfl c161 c300 ?_
                          obtain ⟨r301, er301, h⟩ := nm_el h
                          refine RN_nmR er301 ?_
                          refine RN_iload (pc := 399) (i := 4) (by decide +kernel) rfl ?_
                          obtain ⟨c302, h⟩ := ck_el h
                          refine RN_dald (pc := 401) (by decide +kernel) c302 ?_
                          refine RN_d2l (pc := 402) (by decide +kernel) ?_
                          refine RN_goto (pc := 403) (off := 12) (tgt := 415) (by decide +kernel) (by decide) ?_
                          exact RN_weak (l := [some (.ref v0), none, none, none, some (.int x165)]) (And.intro rfl (And.intro rfl trivial)) (tb_X12_doesF_415 n v0 x165 (FP.d2l (gD σ r301 x165.toNatClampNeg)) (gJ σ r292 ((8 : Int32) + x169).toNatClampNeg) ((8 : Int32) + x169) r292 σ h)
                      · replace h := it_f c290 h
                        by_cases c303 : (gI σ r175 v1.toNatClampNeg) = 11
                        · replace h := it_t c303 h
                          refine RN_tsw (pc := 30) (dflt := 413) (lo := 0) (hi := 11) (offs := #[62, 75, 75, 103, 127, 152, 200, 213, 230, 273, 349, 390]) (len := 62) (v := 11) (off := 390) (tgt := 420) c303 (by decide +kernel) (by decide) (by decide) (by decide +kernel) (by decide) ?_
                          refine RN_aload_n (pc := 420) (k := 0) (by decide +kernel) rfl rfl ?_
                          obtain ⟨c304, h⟩ := ck_el h
                          refine RN_getR (pc := 421) (idx := 103) (ci := 11) (k := 43) (by decide +kernel) lf_RX12_103 rfl c161 c304 ?_
                          obtain ⟨r305, er305, h⟩ := nm_el h
                          refine RN_nmR er305 ?_
                          refine RN_iload (pc := 424) (i := 4) (by decide +kernel) rfl ?_
                          refine RN_aload_n (pc := 426) (k := 0) (by decide +kernel) rfl rfl ?_
                          refine RN_getR (pc := 427) (idx := 103) (ci := 11) (k := 43) (by decide +kernel) lf_RX12_103 rfl c161 c304 ?_
                          obtain ⟨r306, er306, h⟩ := nm_el h
                          refine RN_nmR er306 ?_
                          refine RN_iload (pc := 430) (i := 5) (by decide +kernel) rfl ?_
                          obtain ⟨c307, h⟩ := ck_el h
                          refine RN_dald (pc := 432) (by decide +kernel) c307 ?_
                          refine RN_dconst1 (pc := 433) (by decide +kernel) ?_
                          refine RN_iload (pc := 434) (i := 6) (by decide +kernel) rfl ?_
                          obtain ⟨x309, f308, h⟩ := bp_el h
                          refine RN_callS (M := M_X12_doesF) (pc := 436) (idx := 325) (as := [.double (gD σ r306 x169.toNatClampNeg), .double (FP.dconst1), .int x173]) (st := [.int x165, .ref r305]) (t_X12_roundedF f308) (by decide +kernel) lk_RX12_325 rfl (Nat.le_of_ble_eq_true rfl) ⟨Nat.le_of_ble_eq_true rfl, Nat.le_of_ble_eq_true rfl⟩ rfl ?_
                          show RN G M_X12_doesF 439 [some (.ref v0), some (.int v1), some (.double v2), none, some (.int x165), some (.int x169), some (.int x173)] [.double x309, .int x165, .ref r305] σ _ _
                          obtain ⟨c310, h⟩ := ck_el h
                          refine RN_dast (pc := 439) (by decide +kernel) c310 ?_
                          obtain ⟨σ311, eσ311, h⟩ := nm_el h
                          refine RN_nmS eσ311 ?_
                          refine RN_goto (pc := 440) (off := 54) (tgt := 494) (by decide +kernel) (by decide) ?_
                          exact RN_weak (l := [some (.ref v0), none, none, none, some (.int x165)]) (And.intro rfl (And.intro rfl trivial)) (tb_X12_doesF_494 n v0 x165 σ311 h)
                        · replace h := it_f c303 h
                          refine RN_tableOut (pc := 30) (dflt := 413) (lo := 0) (hi := 11) (offs := #[62, 75, 75, 103, 127, 152, 200, 213, 230, 273, 349, 390]) (len := 62) (tgt := 443) (by decide +kernel) (tsw_s (hi := 10) (hi' := 11) (tsw_s (hi := 9) (hi' := 10) (tsw_s (hi := 8) (hi' := 9) (tsw_s (hi := 7) (hi' := 8) (tsw_s (hi := 6) (hi' := 7) (tsw_s (hi := 5) (hi' := 6) (tsw_s (hi := 4) (hi' := 5) (tsw_s (hi := 3) (hi' := 4) (tsw_s (hi := 2) (hi' := 3) (tsw_s (hi := 1) (hi' := 2) (tsw_s (hi := 0) (hi' := 1) (tsw_s (hi := -1) (hi' := 0) (tsw_0 (0)) (by decide) (by decide) c177) (by decide) (by decide) c186) (by decide) (by decide) c198) (by decide) (by decide) c210) (by decide) (by decide) c220) (by decide) (by decide) c229) (by decide) (by decide) c245) (by decide) (by decide) c248) (by decide) (by decide) c256) (by decide) (by decide) c272) (by decide) (by decide) c290) (by decide) (by decide) c303) (by decide) ?_
                          refine RN_iconst (pc := 443) (n := 0) (v := 0) (by decide +kernel) (by decide) ?_
                          refine RN_istore (pc := 444) (i := 10) (ls2 := [some (.ref v0), some (.int v1), some (.double v2), none, some (.int x165), some (.int x169), some (.int x173), none, none, none, some (.int (0 : Int32))]) (by decide +kernel) (by decide) rfl ?_
                          exact RN_weak (l := [some (.ref v0), none, none, none, some (.int x165), some (.int x169), some (.int x173), none, none, none, some (.int (0 : Int32))]) (And.intro rfl (And.intro rfl (And.intro rfl (And.intro rfl (And.intro rfl trivial))))) (tb_X12_doesF_446 v0 x165 x169 x173 n (0 : Int32) σ h)
