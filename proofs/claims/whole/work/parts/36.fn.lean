def b_X12_isUnfair_99 (k25 : Int32 → Int32 → Option Int32) (n : Nat) (v0 : Nat) (v2 : Int64) (v4 : Int32) (s0 : Int32) (σ : Sg) : Option Int32 :=
  nm (v4 + (1 : Int32)) fun x33 =>
  k25 s0 x33
set_option maxRecDepth 20000 in
theorem tb_X12_isUnfair_99 {G : Gl} {xr : Int32} (n : Nat) (v0 : Nat) (v2 : Int64) (v4 : Int32) (s0 : Int32) (σ : Sg) (k25 : Int32 → Int32 → Option Int32) (hk25 : ∀ (c1 : Int32) (c4 : Int32), k25 c1 c4 = some xr → RN G M_X12_isUnfair 25 [some (.ref v0), some (.int c1), some (.long v2), none, some (.int c4)] [] σ (.inl (some (.int xr))) σ) (h : b_X12_isUnfair_99 k25 n v0 v2 v4 s0 σ = some xr) : RN G M_X12_isUnfair 99 [some (.ref v0), none, some (.long v2), none, some (.int v4)] [.int s0] σ (.inl (some (.int xr))) σ := by
  unfold b_X12_isUnfair_99 at h
  refine RN_istore_n (pc := 99) (k := 1) (ls2 := [some (.ref v0), some (.int s0), some (.long v2), none, some (.int v4)]) (by decide +kernel) rfl (by decide) rfl ?_
  obtain ⟨x33, ex33, h⟩ := nm_el h
  refine RN_iinc (pc := 100) (i := 4) (n := 1) (v := x33) (ls2 := [some (.ref v0), some (.int s0), some (.long v2), none, some (.int x33)]) (by decide +kernel) rfl (by rw [ex33]; rfl) (by decide) rfl ?_
  refine RN_goto (pc := 103) (off := -78) (tgt := 25) (by decide +kernel) (by decide) ?_
  exact RN_weak (l := [some (.ref v0), some (.int s0), some (.long v2), none, some (.int x33)]) (And.intro rfl (And.intro rfl (And.intro rfl (And.intro rfl trivial)))) (hk25 s0 x33 h)
def b_X12_isUnfair_94 (k25 : Int32 → Int32 → Option Int32) (n : Nat) (v0 : Nat) (v2 : Int64) (v4 : Int32) (σ : Sg) : Option Int32 :=
  b_X12_isUnfair_99 k25 n v0 v2 v4 (1 : Int32) σ
set_option maxRecDepth 20000 in
theorem tb_X12_isUnfair_94 {G : Gl} {xr : Int32} (n : Nat) (v0 : Nat) (v2 : Int64) (v4 : Int32) (σ : Sg) (k25 : Int32 → Int32 → Option Int32) (hk25 : ∀ (c1 : Int32) (c4 : Int32), k25 c1 c4 = some xr → RN G M_X12_isUnfair 25 [some (.ref v0), some (.int c1), some (.long v2), none, some (.int c4)] [] σ (.inl (some (.int xr))) σ) (h : b_X12_isUnfair_94 k25 n v0 v2 v4 σ = some xr) : RN G M_X12_isUnfair 94 [some (.ref v0), none, some (.long v2), none, some (.int v4)] [] σ (.inl (some (.int xr))) σ := by
  unfold b_X12_isUnfair_94 at h
  refine RN_iconst (pc := 94) (n := 1) (v := 1) (by decide +kernel) (by decide) ?_
  refine RN_goto (pc := 95) (off := 4) (tgt := 99) (by decide +kernel) (by decide) ?_
  exact RN_weak (l := [some (.ref v0), none, some (.long v2), none, some (.int v4)]) (And.intro rfl (And.intro rfl (And.intro rfl trivial))) (tb_X12_isUnfair_99 n v0 v2 v4 (1 : Int32) σ k25 hk25 h)
def b_X12_isUnfair_25 : Nat → Nat → Int32 → Int64 → Int32 → Sg → Option Int32
  | 0, _, _, _, _, _ => none
  | n + 1, v0, v1, v2, v4, σ =>
  ck (okO σ v0 11) <|
  if (gI σ v0 27) = 0 then (
    ck (v1 = 0 ∨ v1 = 1) <|
    some v1)
  else (
    bp (f_X12_partsOf n v0 (gI σ v0 30) σ) fun x23 =>
    if x23 ≤ v4 then (
      ck (v1 = 0 ∨ v1 = 1) <|
      some v1)
    else (
      ck (¬ gR σ v0 21 = 0) <|
      nm (gR σ v0 21) fun r27 =>
      ck (okA σ r27 14 ((8 : Int32) + v4)) <|
      bp (f_X12_weighed n v0 (gI σ v0 30) v4 σ) fun x30 =>
      nm (((gJ σ r27 ((8 : Int32) + v4).toNatClampNeg) * v2) - ((gJ σ v0 29) * x30)) fun x31 =>
      if v1 = 0 then (
        if v2 ≤ x31 then (
          b_X12_isUnfair_94 (fun c1 c4 => b_X12_isUnfair_25 n v0 c1 v2 c4 σ) n v0 v2 v4 σ)
        else (
          if (-v2) < x31 then (
            b_X12_isUnfair_99 (fun c1 c4 => b_X12_isUnfair_25 n v0 c1 v2 c4 σ) n v0 v2 v4 (0 : Int32) σ)
          else (
            b_X12_isUnfair_94 (fun c1 c4 => b_X12_isUnfair_25 n v0 c1 v2 c4 σ) n v0 v2 v4 σ)))
      else (
        b_X12_isUnfair_94 (fun c1 c4 => b_X12_isUnfair_25 n v0 c1 v2 c4 σ) n v0 v2 v4 σ)))
set_option maxRecDepth 20000 in
theorem tb_X12_isUnfair_25 {G : Gl} {xr : Int32} (v0 : Nat) (v2 : Int64) (σ : Sg) : ∀ (n : Nat) (v1 : Int32) (v4 : Int32), b_X12_isUnfair_25 n v0 v1 v2 v4 σ = some xr → RN G M_X12_isUnfair 25 [some (.ref v0), some (.int v1), some (.long v2), none, some (.int v4)] [] σ (.inl (some (.int xr))) σ := by
  intro n
  induction n with
  | zero =>
    intro v1 v4 h
    exact none_el h
  | succ n ih =>
    intro v1 v4 h
    rw [b_X12_isUnfair_25] at h
    refine RN_aload_n (pc := 25) (k := 0) (by decide +kernel) rfl rfl ?_
    obtain ⟨c19, h⟩ := ck_el h
    refine RN_getI (pc := 26) (idx := 152) (ci := 11) (k := 27) (by decide +kernel) lf_RX12_152 (Or.inr rfl) c19 ?_
    refine RN_if_eq (pc := 29) (off := 77) (tgt := 106) (by decide +kernel) (by decide) (fun c20 => ?_) (fun c20 => ?_)
    · replace h := it_t c20 h
      refine RN_iload_n (pc := 106) (k := 1) (by decide +kernel) rfl rfl ?_
      obtain ⟨c21, h⟩ := ck_el h
      obtain rfl := some_el h
      exact RN_zreturn (by decide +kernel) rfl c21
    · replace h := it_f c20 h
      refine RN_iload (pc := 32) (i := 4) (by decide +kernel) rfl ?_
      refine RN_aload_n (pc := 34) (k := 0) (by decide +kernel) rfl rfl ?_
      refine RN_aload_n (pc := 35) (k := 0) (by decide +kernel) rfl rfl ?_
      refine RN_getI (pc := 36) (idx := 257) (ci := 11) (k := 30) (by decide +kernel) lf_RX12_257 (Or.inl rfl) c19 ?_
      obtain ⟨x23, f22, h⟩ := bp_el h
      refine RN_callV (M := M_X12_isUnfair) (pc := 39) (idx := 223) (as := [.int (gI σ v0 30)]) (st := [.int v4]) (t_X12_partsOf f22) (by decide +kernel) lk_RX12_223 rfl ⟨by decide, fun q hq => by cases hq; rfl⟩ c19 (Nat.le_of_ble_eq_true rfl) ⟨Nat.le_of_ble_eq_true rfl, Nat.le_of_ble_eq_true rfl⟩ rfl ?_
      show RN G M_X12_isUnfair 42 [some (.ref v0), some (.int v1), some (.long v2), none, some (.int v4)] [.int x23, .int v4] σ _ _
      refine RN_icmp_ge (pc := 42) (off := 64) (tgt := 106) (by decide +kernel) (by decide) (fun c24 => ?_) (fun c24 => ?_)
      · replace h := it_t c24 h
        refine RN_iload_n (pc := 106) (k := 1) (by decide +kernel) rfl rfl ?_
        obtain ⟨c25, h⟩ := ck_el h
        obtain rfl := some_el h
        exact RN_zreturn (by decide +kernel) rfl c25
      · replace h := it_f c24 h
        refine RN_aload_n (pc := 45) (k := 0) (by decide +kernel) rfl rfl ?_
        obtain ⟨c26, h⟩ := ck_el h
        refine RN_getR (pc := 46) (idx := 54) (ci := 11) (k := 21) (by decide +kernel) lf_RX12_54 rfl c19 c26 ?_
        obtain ⟨r27, er27, h⟩ := nm_el h
        refine RN_nmR er27 ?_
        refine RN_bipush (pc := 49) (n := 8) (v := 8) (by decide +kernel) (by decide) ?_
        refine RN_iload (pc := 51) (i := 4) (by decide +kernel) rfl ?_
        refine RN_iadd (pc := 53) (by decide +kernel) ?_
        obtain ⟨c28, h⟩ := ck_el h
        refine RN_lald (pc := 54) (by decide +kernel) c28 ?_
        refine RN_lload_n (pc := 55) (k := 2) (by decide +kernel) rfl rfl ?_
        refine RN_lmul (pc := 56) (by decide +kernel) ?_
        refine RN_aload_n (pc := 57) (k := 0) (by decide +kernel) rfl rfl ?_
        refine RN_getJ (pc := 58) (idx := 253) (ci := 11) (k := 29) (by decide +kernel) lf_RX12_253 rfl c19 ?_
        refine RN_aload_n (pc := 61) (k := 0) (by decide +kernel) rfl rfl ?_
        refine RN_aload_n (pc := 62) (k := 0) (by decide +kernel) rfl rfl ?_
        refine RN_getI (pc := 63) (idx := 257) (ci := 11) (k := 30) (by decide +kernel) lf_RX12_257 (Or.inl rfl) c19 ?_
        refine RN_iload (pc := 66) (i := 4) (by decide +kernel) rfl ?_
        obtain ⟨x30, f29, h⟩ := bp_el h
        refine RN_callV (M := M_X12_isUnfair) (pc := 68) (idx := 227) (as := [.int (gI σ v0 30), .int v4]) (st := [.long (gJ σ v0 29), .long ((gJ σ r27 ((8 : Int32) + v4).toNatClampNeg) * v2)]) (t_X12_weighed f29) (by decide +kernel) lk_RX12_227 rfl ⟨by decide, fun q hq => by cases hq; rfl⟩ c19 (Nat.le_of_ble_eq_true rfl) ⟨Nat.le_of_ble_eq_true rfl, Nat.le_of_ble_eq_true rfl⟩ rfl ?_
        show RN G M_X12_isUnfair 71 [some (.ref v0), some (.int v1), some (.long v2), none, some (.int v4)] [.long x30, .long (gJ σ v0 29), .long ((gJ σ r27 ((8 : Int32) + v4).toNatClampNeg) * v2)] σ _ _
        refine RN_lmul (pc := 71) (by decide +kernel) ?_
        refine RN_lsub (pc := 72) (by decide +kernel) ?_
        obtain ⟨x31, ex31, h⟩ := nm_el h
        refine RN_nmJ ex31 ?_
        refine RN_lstore (pc := 73) (i := 5) (ls2 := [some (.ref v0), some (.int v1), some (.long v2), none, some (.int v4), some (.long x31), none]) (by decide +kernel) (by decide) rfl ?_
        refine RN_iload_n (pc := 75) (k := 1) (by decide +kernel) rfl rfl ?_
        refine RN_if_ne (pc := 76) (off := 18) (tgt := 94) (by decide +kernel) (by decide) (fun c32 => ?_) (fun c32 => ?_)
        · replace h := it_f c32 h
          exact RN_weak (l := [some (.ref v0), none, some (.long v2), none, some (.int v4)]) (And.intro rfl (And.intro rfl (And.intro rfl trivial))) (tb_X12_isUnfair_94 n v0 v2 v4 σ _ (fun c1 c4 h => ih c1 c4 h) h)
        · replace h := it_t c32 h
          refine RN_lload (pc := 79) (i := 5) (by decide +kernel) rfl ?_
          refine RN_lload_n (pc := 81) (k := 2) (by decide +kernel) rfl rfl ?_
          refine RN_lc_ge (pc := 82) (off := 11) (tgt := 94) (by decide +kernel) (by decide +kernel) (by decide) (fun c34 => ?_) (fun c34 => ?_)
          · replace h := it_t c34 h
            exact RN_weak (l := [some (.ref v0), none, some (.long v2), none, some (.int v4)]) (And.intro rfl (And.intro rfl (And.intro rfl trivial))) (tb_X12_isUnfair_94 n v0 v2 v4 σ _ (fun c1 c4 h => ih c1 c4 h) h)
          · replace h := it_f c34 h
            refine RN_lload (pc := 86) (i := 5) (by decide +kernel) rfl ?_
            refine RN_lload_n (pc := 88) (k := 2) (by decide +kernel) rfl rfl ?_
            refine RN_lneg (pc := 89) (by decide +kernel) ?_
            refine RN_lc_gt (pc := 90) (off := 7) (tgt := 98) (by decide +kernel) (by decide +kernel) (by decide) (fun c35 => ?_) (fun c35 => ?_)
            · replace h := it_t c35 h
              refine RN_iconst (pc := 98) (n := 0) (v := 0) (by decide +kernel) (by decide) ?_
              exact RN_weak (l := [some (.ref v0), none, some (.long v2), none, some (.int v4)]) (And.intro rfl (And.intro rfl (And.intro rfl trivial))) (tb_X12_isUnfair_99 n v0 v2 v4 (0 : Int32) σ _ (fun c1 c4 h => ih c1 c4 h) h)
            · replace h := it_f c35 h
              exact RN_weak (l := [some (.ref v0), none, some (.long v2), none, some (.int v4)]) (And.intro rfl (And.intro rfl (And.intro rfl trivial))) (tb_X12_isUnfair_94 n v0 v2 v4 σ _ (fun c1 c4 h => ih c1 c4 h) h)
def b_X12_isUnfair_21 (n : Nat) (v0 : Nat) (v1 : Int32) (s0 : Int64) (σ : Sg) : Option Int32 :=
  b_X12_isUnfair_25 n v0 v1 s0 (0 : Int32) σ
set_option maxRecDepth 20000 in
theorem tb_X12_isUnfair_21 {G : Gl} {xr : Int32} (n : Nat) (v0 : Nat) (v1 : Int32) (s0 : Int64) (σ : Sg) (h : b_X12_isUnfair_21 n v0 v1 s0 σ = some xr) : RN G M_X12_isUnfair 21 [some (.ref v0), some (.int v1)] [.long s0] σ (.inl (some (.int xr))) σ := by
  unfold b_X12_isUnfair_21 at h
  refine RN_lstore_n (pc := 21) (k := 2) (ls2 := [some (.ref v0), some (.int v1), some (.long s0), none]) (by decide +kernel) rfl (by decide) rfl ?_
  refine RN_iconst (pc := 22) (n := 0) (v := 0) (by decide +kernel) (by decide) ?_
  refine RN_istore (pc := 23) (i := 4) (ls2 := [some (.ref v0), some (.int v1), some (.long s0), none, some (.int (0 : Int32))]) (by decide +kernel) (by decide) rfl ?_
  exact RN_weak (l := [some (.ref v0), some (.int v1), some (.long s0), none, some (.int (0 : Int32))]) (And.intro rfl (And.intro rfl (And.intro rfl (And.intro rfl trivial)))) (tb_X12_isUnfair_25 v0 s0 σ n v1 (0 : Int32) h)
def f_X12_isUnfair (n : Nat) (v0 : Nat) (σ : Sg) : Option Int32 :=
  ck (okO σ v0 11) <|
  if (gI σ v0 27) = 0 then (
    b_X12_isUnfair_21 n v0 (0 : Int32) (1 : Int64) σ)
  else (
    bp (f_X12_allWeights n v0 (gI σ v0 30) σ) fun x37 =>
    b_X12_isUnfair_21 n v0 (0 : Int32) x37 σ)
set_option maxRecDepth 20000 in
theorem t_X12_isUnfair {G : Gl} {xr : Int32} {n : Nat} {v0 : Nat} {σ : Sg} (h : f_X12_isUnfair n v0 σ = some xr) : MT G M_X12_isUnfair [.ref v0] σ (some (.int xr)) σ := by
  refine MT_of rfl rfl (Nat.le_of_ble_eq_true rfl) ?_
  show RN G M_X12_isUnfair 0 [some (.ref v0)] [] σ (.inl (some (.int xr))) σ
  unfold f_X12_isUnfair at h
  refine RN_iconst (pc := 0) (n := 0) (v := 0) (by decide +kernel) (by decide) ?_
  refine RN_istore_n (pc := 1) (k := 1) (ls2 := [some (.ref v0), some (.int (0 : Int32))]) (by decide +kernel) rfl (by decide) rfl ?_
  refine RN_aload_n (pc := 2) (k := 0) (by decide +kernel) rfl rfl ?_
  obtain ⟨c17, h⟩ := ck_el h
  refine RN_getI (pc := 3) (idx := 152) (ci := 11) (k := 27) (by decide +kernel) lf_RX12_152 (Or.inr rfl) c17 ?_
  refine RN_if_eq (pc := 6) (off := 14) (tgt := 20) (by decide +kernel) (by decide) (fun c18 => ?_) (fun c18 => ?_)
  · replace h := it_t c18 h
    refine RN_lconst (pc := 20) (n := 1) (v := 1) (by decide +kernel) (by decide) ?_
    exact RN_weak (l := [some (.ref v0), some (.int (0 : Int32))]) (And.intro rfl (And.intro rfl trivial)) (tb_X12_isUnfair_21 n v0 (0 : Int32) (1 : Int64) σ h)
  · replace h := it_f c18 h
    refine RN_aload_n (pc := 9) (k := 0) (by decide +kernel) rfl rfl ?_
    refine RN_aload_n (pc := 10) (k := 0) (by decide +kernel) rfl rfl ?_
    refine RN_getI (pc := 11) (idx := 257) (ci := 11) (k := 30) (by decide +kernel) lf_RX12_257 (Or.inl rfl) c17 ?_
    obtain ⟨x37, f36, h⟩ := bp_el h
    refine RN_callV (M := M_X12_isUnfair) (pc := 14) (idx := 231) (as := [.int (gI σ v0 30)]) (st := []) (t_X12_allWeights f36) (by decide +kernel) lk_RX12_231 rfl ⟨by decide, fun q hq => by cases hq; rfl⟩ c17 (Nat.le_of_ble_eq_true rfl) ⟨Nat.le_of_ble_eq_true rfl, Nat.le_of_ble_eq_true rfl⟩ rfl ?_
    show RN G M_X12_isUnfair 17 [some (.ref v0), some (.int (0 : Int32))] [.long x37] σ _ _
    refine RN_goto (pc := 17) (off := 4) (tgt := 21) (by decide +kernel) (by decide) ?_
    exact RN_weak (l := [some (.ref v0), some (.int (0 : Int32))]) (And.intro rfl (And.intro rfl trivial)) (tb_X12_isUnfair_21 n v0 (0 : Int32) x37 σ h)
def f_X12_rateF (v0 : Nat) (v1 : Int32) (σ : Sg) : Option UInt64 :=
  ck (okO σ v0 11) <|
  ck (¬ gR σ v0 1 = 0) <|
  nm (gR σ v0 1) fun r11 =>
  ck (okA σ r11 13 v1) <|
  ck (¬ gR σ v0 2 = 0) <|
  nm (gR σ v0 2) fun r14 =>
  ck (okA σ r14 13 v1) <|
  ck (n64 (FP.ddiv (FP.i2d (gI σ r11 v1.toNatClampNeg)) (FP.i2d (gI σ r14 v1.toNatClampNeg)))) <|
  some (FP.ddiv (FP.i2d (gI σ r11 v1.toNatClampNeg)) (FP.i2d (gI σ r14 v1.toNatClampNeg)))
set_option maxRecDepth 20000 in
theorem t_X12_rateF {G : Gl} {xr : UInt64} {v0 : Nat} {v1 : Int32} {σ : Sg} (h : f_X12_rateF v0 v1 σ = some xr) : MT G M_X12_rateF [.ref v0, .int v1] σ (some (.double xr)) σ := by
  refine MT_of rfl rfl (Nat.le_of_ble_eq_true rfl) ?_
  show RN G M_X12_rateF 0 [some (.ref v0), some (.int v1)] [] σ (.inl (some (.double xr))) σ
  unfold f_X12_rateF at h
  refine RN_aload_n (pc := 0) (k := 0) (by decide +kernel) rfl rfl ?_
  obtain ⟨c9, h⟩ := ck_el h
  obtain ⟨c10, h⟩ := ck_el h
  refine RN_getR (pc := 1) (idx := 7) (ci := 11) (k := 1) (by decide +kernel) lf_RX12_7 rfl c9 c10 ?_
  obtain ⟨r11, er11, h⟩ := nm_el h
  refine RN_nmR er11 ?_
  refine RN_iload_n (pc := 4) (k := 1) (by decide +kernel) rfl rfl ?_
  obtain ⟨c12, h⟩ := ck_el h
  refine RN_iald (pc := 5) (by decide +kernel) c12 ?_
  refine RN_i2d (pc := 6) (by decide +kernel) ?_
  refine RN_aload_n (pc := 7) (k := 0) (by decide +kernel) rfl rfl ?_
  obtain ⟨c13, h⟩ := ck_el h
  refine RN_getR (pc := 8) (idx := 13) (ci := 11) (k := 2) (by decide +kernel) lf_RX12_13 rfl c9 c13 ?_
  obtain ⟨r14, er14, h⟩ := nm_el h
  refine RN_nmR er14 ?_
  refine RN_iload_n (pc := 11) (k := 1) (by decide +kernel) rfl rfl ?_
  obtain ⟨c15, h⟩ := ck_el h
  refine RN_iald (pc := 12) (by decide +kernel) c15 ?_
  refine RN_i2d (pc := 13) (by decide +kernel) ?_
  obtain ⟨c16, h⟩ := ck_el h
  refine RN_ddiv (pc := 14) (by decide +kernel) c16 ?_
  obtain rfl := some_el h
  exact RN_dreturn (by decide +kernel) rfl
def f_J9_getExponent_b4643 (v0 : UInt64) : Option Int32 :=
  some (((((v0.toInt64) &&& (9218868437227405312 : Int64)) >>> ((52 : Int32).toInt64 &&& 63)) - (1023 : Int64)).toInt32)
set_option maxRecDepth 20000 in
theorem t_J9_getExponent_b4643 {G : Gl} {xr : Int32} {v0 : UInt64} {σ : Sg} (h : f_J9_getExponent_b4643 v0 = some xr) : MT G M_J9_getExponent_b4643 [.double v0] σ (some (.int xr)) σ := by
  refine MT_ofF (by decide +kernel) rfl (Nat.le_of_ble_eq_true rfl) ?_
  show RN G M_J9_getExponent_b4643 0 [some (.double v0), none] [] σ (.inl (some (.int xr))) σ
  unfold f_J9_getExponent_b4643 at h
  refine RN_dload_n (pc := 0) (k := 0) (by decide +kernel) rfl rfl ?_
  refine RN_d2raw (pc := 1) (idx := 79) (by decide +kernel) na_RJ9_79 na_doubleToRawLongBits_n na_doubleToRawLongBits_s na_dbl (by decide) (by decide) (Nat.le_of_ble_eq_true rfl) ?_
  refine RN_ldc2 (pc := 4) (idx := 87) (v := 9218868437227405312) (by decide +kernel) kc_RJ9_87 ?_
  refine RN_land (pc := 7) (by decide +kernel) ?_
  refine RN_bipush (pc := 8) (n := 52) (v := 52) (by decide +kernel) (by decide) ?_
  refine RN_lshr (pc := 10) (by decide +kernel) ?_
  refine RN_ldc2 (pc := 11) (idx := 322) (v := 1023) (by decide +kernel) kc_RJ9_322 ?_
  refine RN_lsub (pc := 14) (by decide +kernel) ?_
  refine RN_l2i (pc := 15) (by decide +kernel) ?_
  obtain rfl := some_el h
  exact RN_ireturn (by decide +kernel) rfl
def b_Jxfc994_floorOrCeil_f4a47_69 (v0 : UInt64) (v6 : UInt64) (v8 : Int32) (σ : Sg) : Option (UInt64 × Sg) :=
  nm (v0.toInt64) fun x14 =>
  nm ((4503599627370495 : Int64) >>> (v8.toInt64 &&& 63)) fun x15 =>
  if (x15 &&& x14) = (0 : Int64) then (
    some (v0, σ))
  else (
    ck (vn_snl2d (x14 &&& (x15 ^^^ (-1 : Int64))) = false) <|
    nm ((x14 &&& (x15 ^^^ (-1 : Int64))).toUInt64) fun x18 =>
    ck (n64 (FP.dmul v6 v0)) <|
    if (Op.cmpValue (FP.dcmp (FP.dmul v6 v0) (FP.dconst0)) .l) ≤ 0 then (
      some (x18, σ))
    else (
      ck (n64 (FP.dadd x18 v6)) <|
      nm (FP.dadd x18 v6) fun x22 =>
      some (x22, σ)))
set_option maxRecDepth 20000 in
theorem tb_Jxfc994_floorOrCeil_f4a47_69 {G : Gl} {xr : UInt64} {σr : Sg} (v0 : UInt64) (v6 : UInt64) (v8 : Int32) (σ : Sg) (h : b_Jxfc994_floorOrCeil_f4a47_69 v0 v6 v8 σ = some (xr, σr)) : RN G M_Jxfc994_floorOrCeil_f4a47 69 [some (.double v0), none, none, none, none, none, some (.double v6), none, some (.int v8)] [] σ (.inl (some (.double xr))) σr := by
  unfold b_Jxfc994_floorOrCeil_f4a47_69 at h
  refine RN_dload_n (pc := 69) (k := 0) (by decide +kernel) rfl rfl ?_
  refine RN_d2raw (pc := 70) (idx := 77) (by decide +kernel) na_RJxfc994_77 na_doubleToRawLongBits_n na_doubleToRawLongBits_s na_dbl (by decide) (by decide) (Nat.le_of_ble_eq_true rfl) ?_
  obtain ⟨x14, ex14, h⟩ := nm_el h
  refine RN_nmJ ex14 ?_
  refine RN_lstore (pc := 73) (i := 9) (ls2 := [some (.double v0), none, none, none, none, none, some (.double v6), none, some (.int v8), some (.long x14), none]) (by decide +kernel) (by decide) rfl ?_
  refine RN_ldc2 (pc := 75) (idx := 85) (v := 4503599627370495) (by decide +kernel) kc_RJxfc994_85 ?_
  refine RN_iload (pc := 78) (i := 8) (by decide +kernel) rfl ?_
  refine RN_lshr (pc := 80) (by decide +kernel) ?_
  obtain ⟨x15, ex15, h⟩ := nm_el h
  refine RN_nmJ ex15 ?_
  refine RN_lstore (pc := 81) (i := 11) (ls2 := [some (.double v0), none, none, none, none, none, some (.double v6), none, some (.int v8), some (.long x14), none, some (.long x15), none]) (by decide +kernel) (by decide) rfl ?_
  refine RN_lload (pc := 83) (i := 11) (by decide +kernel) rfl ?_
  refine RN_lload (pc := 85) (i := 9) (by decide +kernel) rfl ?_
  refine RN_land (pc := 87) (by decide +kernel) ?_
  refine RN_lconst (pc := 88) (n := 0) (v := 0) (by decide +kernel) (by decide) ?_
  refine RN_lc_ne (pc := 89) (off := 5) (tgt := 95) (by decide +kernel) (by decide +kernel) (by decide) (fun c16 => ?_) (fun c16 => ?_)
  · replace h := it_f c16 h
    refine RN_lload (pc := 95) (i := 9) (by decide +kernel) rfl ?_
    refine RN_lload (pc := 97) (i := 11) (by decide +kernel) rfl ?_
    refine RN_ldc2 (pc := 99) (idx := 87) (v := -1) (by decide +kernel) kc_RJxfc994_87 ?_
    refine RN_lxor (pc := 102) (by decide +kernel) ?_
    refine RN_land (pc := 103) (by decide +kernel) ?_
    obtain ⟨c17, h⟩ := ck_el h
    refine RN_raw2d (pc := 104) (idx := 89) (by decide +kernel) na_RJxfc994_89 na_longBitsToDouble_n na_longBitsToDouble_s na_dbl c17 (by decide) (by decide) (Nat.le_of_ble_eq_true rfl) ?_
    obtain ⟨x18, ex18, h⟩ := nm_el h
    refine RN_nmD ex18 ?_
    refine RN_dstore (pc := 107) (i := 13) (ls2 := [some (.double v0), none, none, none, none, none, some (.double v6), none, some (.int v8), some (.long x14), none, some (.long x15), none, some (.double x18), none]) (by decide +kernel) (by decide) rfl ?_
    refine RN_dload (pc := 109) (i := 6) (by decide +kernel) rfl ?_
    refine RN_dload_n (pc := 111) (k := 0) (by decide +kernel) rfl rfl ?_
    obtain ⟨c19, h⟩ := ck_el h
    refine RN_dmul (pc := 112) (by decide +kernel) c19 ?_
    refine RN_dconst0 (pc := 113) (by decide +kernel) ?_
    refine RN_dcmp (pc := 114) (op := .l) (by decide +kernel) ?_
    refine RN_if_le (pc := 115) (off := 10) (tgt := 125) (by decide +kernel) (by decide) (fun c20 => ?_) (fun c20 => ?_)
    · replace h := it_t c20 h
      refine RN_dload (pc := 125) (i := 13) (by decide +kernel) rfl ?_
      obtain ⟨rfl, rfl⟩ := some_el2 h
      exact RN_dreturn (by decide +kernel) rfl
    · replace h := it_f c20 h
      refine RN_dload (pc := 118) (i := 13) (by decide +kernel) rfl ?_
      refine RN_dload (pc := 120) (i := 6) (by decide +kernel) rfl ?_
      obtain ⟨c21, h⟩ := ck_el h
      refine RN_dadd (pc := 122) (by decide +kernel) c21 ?_
      obtain ⟨x22, ex22, h⟩ := nm_el h
      refine RN_nmD ex22 ?_
      refine RN_dstore (pc := 123) (i := 13) (ls2 := [some (.double v0), none, none, none, none, none, some (.double v6), none, some (.int v8), some (.long x14), none, some (.long x15), none, some (.double x22), none]) (by decide +kernel) (by decide) rfl ?_
      refine RN_dload (pc := 125) (i := 13) (by decide +kernel) rfl ?_
      obtain ⟨rfl, rfl⟩ := some_el2 h
      exact RN_dreturn (by decide +kernel) rfl
  · replace h := it_t c16 h
    refine RN_dload_n (pc := 93) (k := 0) (by decide +kernel) rfl rfl ?_
    obtain ⟨rfl, rfl⟩ := some_el2 h
    exact RN_dreturn (by decide +kernel) rfl
def f_Jxfc994_floorOrCeil_f4a47 (v0 : UInt64) (v2 : UInt64) (v4 : UInt64) (v6 : UInt64) (σ : Sg) : Option (UInt64 × Sg) :=
  bp (f_J9_getExponent_b4643 v0) fun x11 =>
  if 0 ≤ x11 then (
    if x11 < (52 : Int32) then (
      b_Jxfc994_floorOrCeil_f4a47_69 v0 v6 x11 σ)
    else (
      some (v0, σ)))
  else (
    if (Op.cmpValue (FP.dcmp v0 (FP.dconst0)) .l) = 0 then (
      some (v0, σ))
    else (
      if 0 ≤ (Op.cmpValue (FP.dcmp v0 (FP.dconst0)) .g) then (
        some (v4, σ))
      else (
        some (v2, σ))))
set_option maxRecDepth 20000 in
theorem t_Jxfc994_floorOrCeil_f4a47 {G : Gl} {xr : UInt64} {σr : Sg} {v0 : UInt64} {v2 : UInt64} {v4 : UInt64} {v6 : UInt64} {σ : Sg} (h : f_Jxfc994_floorOrCeil_f4a47 v0 v2 v4 v6 σ = some (xr, σr)) : MT G M_Jxfc994_floorOrCeil_f4a47 [.double v0, .double v2, .double v4, .double v6] σ (some (.double xr)) σr := by
  refine MT_ofF (by decide +kernel) rfl (Nat.le_of_ble_eq_true rfl) ?_
  show RN G M_Jxfc994_floorOrCeil_f4a47 0 [some (.double v0), none, some (.double v2), none, some (.double v4), none, some (.double v6), none] [] σ (.inl (some (.double xr))) σr
  unfold f_Jxfc994_floorOrCeil_f4a47 at h
  refine RN_dload_n (pc := 0) (k := 0) (by decide +kernel) rfl rfl ?_
  obtain ⟨x11, f10, h⟩ := bp_el h
  refine RN_callS (M := M_Jxfc994_floorOrCeil_f4a47) (pc := 1) (idx := 66) (as := [.double v0]) (st := []) (t_J9_getExponent_b4643 f10) (by decide +kernel) lk_RJxfc994_66 rfl (Nat.le_of_ble_eq_true rfl) ⟨Nat.le_of_ble_eq_true rfl, Nat.le_of_ble_eq_true rfl⟩ rfl ?_
  show RN G M_Jxfc994_floorOrCeil_f4a47 4 [some (.double v0), none, some (.double v2), none, some (.double v4), none, some (.double v6), none] [.int x11] σ _ _
  refine RN_istore (pc := 4) (i := 8) (ls2 := [some (.double v0), none, some (.double v2), none, some (.double v4), none, some (.double v6), none, some (.int x11)]) (by decide +kernel) (by decide) rfl ?_
  refine RN_iload (pc := 6) (i := 8) (by decide +kernel) rfl ?_
  refine RN_if_ge (pc := 8) (off := 26) (tgt := 34) (by decide +kernel) (by decide) (fun c12 => ?_) (fun c12 => ?_)
  · replace h := it_t c12 h
    refine RN_iload (pc := 34) (i := 8) (by decide +kernel) rfl ?_
    refine RN_bipush (pc := 36) (n := 52) (v := 52) (by decide +kernel) (by decide) ?_
    refine RN_icmp_lt (pc := 38) (off := 5) (tgt := 43) (by decide +kernel) (by decide) (fun c13 => ?_) (fun c13 => ?_)
    · replace h := it_t c13 h
      refine RN_getsA (pc := 43) (idx := 70) (by decide +kernel) ks_RJxfc994_70 ?_
      refine RN_if_ne (pc := 46) (off := 23) (tgt := 69) (by decide +kernel) (by decide) (fun _ => ?_) (fun c => absurd c (by decide))
      exact RN_weak (l := [some (.double v0), none, none, none, none, none, some (.double v6), none, some (.int x11)]) (And.intro rfl (And.intro rfl (And.intro rfl trivial))) (tb_Jxfc994_floorOrCeil_f4a47_69 v0 v6 x11 σ h)
    · replace h := it_f c13 h
      refine RN_dload_n (pc := 41) (k := 0) (by decide +kernel) rfl rfl ?_
      obtain ⟨rfl, rfl⟩ := some_el2 h
      exact RN_dreturn (by decide +kernel) rfl
  · replace h := it_f c12 h
    refine RN_dload_n (pc := 11) (k := 0) (by decide +kernel) rfl rfl ?_
    refine RN_dconst0 (pc := 12) (by decide +kernel) ?_
    refine RN_dcmp (pc := 13) (op := .l) (by decide +kernel) ?_
    refine RN_if_ne (pc := 14) (off := 7) (tgt := 21) (by decide +kernel) (by decide) (fun c23 => ?_) (fun c23 => ?_)
    · replace h := it_f c23 h
      refine RN_dload_n (pc := 21) (k := 0) (by decide +kernel) rfl rfl ?_
      refine RN_dconst0 (pc := 22) (by decide +kernel) ?_
      refine RN_dcmp (pc := 23) (op := .g) (by decide +kernel) ?_
      refine RN_if_ge (pc := 24) (off := 7) (tgt := 31) (by decide +kernel) (by decide) (fun c24 => ?_) (fun c24 => ?_)
      · replace h := it_t c24 h
        refine RN_dload (pc := 31) (i := 4) (by decide +kernel) rfl ?_
        obtain ⟨rfl, rfl⟩ := some_el2 h
        exact RN_dreturn (by decide +kernel) rfl
      · replace h := it_f c24 h
        refine RN_dload_n (pc := 27) (k := 2) (by decide +kernel) rfl rfl ?_
        refine RN_goto (pc := 28) (off := 5) (tgt := 33) (by decide +kernel) (by decide) ?_
        obtain ⟨rfl, rfl⟩ := some_el2 h
        exact RN_dreturn (by decide +kernel) rfl
    · replace h := it_t c23 h
      refine RN_dload_n (pc := 17) (k := 0) (by decide +kernel) rfl rfl ?_
      refine RN_goto (pc := 18) (off := 15) (tgt := 33) (by decide +kernel) (by decide) ?_
      obtain ⟨rfl, rfl⟩ := some_el2 h
      exact RN_dreturn (by decide +kernel) rfl
def f_Jxfc994_floor_294c1 (v0 : UInt64) (σ : Sg) : Option (UInt64 × Sg) :=
  bd (f_Jxfc994_floorOrCeil_f4a47 v0 (13830554455654793216 : UInt64) (FP.dconst0) (13830554455654793216 : UInt64) σ) fun x6 σ5 =>
  some (x6, σ5)
set_option maxRecDepth 20000 in
theorem t_Jxfc994_floor_294c1 {G : Gl} {xr : UInt64} {σr : Sg} {v0 : UInt64} {σ : Sg} (h : f_Jxfc994_floor_294c1 v0 σ = some (xr, σr)) : MT G M_Jxfc994_floor_294c1 [.double v0] σ (some (.double xr)) σr := by
  refine MT_ofF (by decide +kernel) rfl (Nat.le_of_ble_eq_true rfl) ?_
  show RN G M_Jxfc994_floor_294c1 0 [some (.double v0), none] [] σ (.inl (some (.double xr))) σr
  unfold f_Jxfc994_floor_294c1 at h
  refine RN_dload_n (pc := 0) (k := 0) (by decide +kernel) rfl rfl ?_
  refine RN_ldc2d (pc := 1) (idx := 64) (v := 13830554455654793216) (by decide +kernel) kc_RJxfc994_64 ?_
  refine RN_dconst0 (pc := 4) (by decide +kernel) ?_
  refine RN_ldc2d (pc := 5) (idx := 64) (v := 13830554455654793216) (by decide +kernel) kc_RJxfc994_64 ?_
  obtain ⟨x6, σ5, f4, h⟩ := bd_el h
  refine RN_callS (M := M_Jxfc994_floor_294c1) (pc := 8) (idx := 60) (as := [.double v0, .double (13830554455654793216 : UInt64), .double (FP.dconst0), .double (13830554455654793216 : UInt64)]) (st := []) (t_Jxfc994_floorOrCeil_f4a47 f4) (by decide +kernel) lk_RJxfc994_60 rfl (Nat.le_of_ble_eq_true rfl) ⟨Nat.le_of_ble_eq_true rfl, Nat.le_of_ble_eq_true rfl⟩ rfl ?_
  show RN G M_Jxfc994_floor_294c1 11 [some (.double v0), none] [.double x6] σ5 _ _
  obtain ⟨rfl, rfl⟩ := some_el2 h
  exact RN_dreturn (by decide +kernel) rfl
def f_J9_floor_294c1 (v0 : UInt64) (σ : Sg) : Option (UInt64 × Sg) :=
  bd (f_Jxfc994_floor_294c1 v0 σ) fun x6 σ5 =>
  some (x6, σ5)
set_option maxRecDepth 20000 in
theorem t_J9_floor_294c1 {G : Gl} {xr : UInt64} {σr : Sg} {v0 : UInt64} {σ : Sg} (h : f_J9_floor_294c1 v0 σ = some (xr, σr)) : MT G M_J9_floor_294c1 [.double v0] σ (some (.double xr)) σr := by
  refine MT_ofF (by decide +kernel) rfl (Nat.le_of_ble_eq_true rfl) ?_
  show RN G M_J9_floor_294c1 0 [some (.double v0), none] [] σ (.inl (some (.double xr))) σr
  unfold f_J9_floor_294c1 at h
  refine RN_dload_n (pc := 0) (k := 0) (by decide +kernel) rfl rfl ?_
  obtain ⟨x6, σ5, f4, h⟩ := bd_el h
  refine RN_callS (M := M_J9_floor_294c1) (pc := 1) (idx := 56) (as := [.double v0]) (st := []) (t_Jxfc994_floor_294c1 f4) (by decide +kernel) lk_RJ9_56 rfl (Nat.le_of_ble_eq_true rfl) ⟨Nat.le_of_ble_eq_true rfl, Nat.le_of_ble_eq_true rfl⟩ rfl ?_
  show RN G M_J9_floor_294c1 4 [some (.double v0), none] [.double x6] σ5 _ _
  obtain ⟨rfl, rfl⟩ := some_el2 h
  exact RN_dreturn (by decide +kernel) rfl
def f_Jxfc994_ceil_294c1 (v0 : UInt64) (σ : Sg) : Option (UInt64 × Sg) :=
  bd (f_Jxfc994_floorOrCeil_f4a47 v0 (9223372036854775808 : UInt64) (FP.dconst1) (FP.dconst1) σ) fun x6 σ5 =>
  some (x6, σ5)
set_option maxRecDepth 20000 in
theorem t_Jxfc994_ceil_294c1 {G : Gl} {xr : UInt64} {σr : Sg} {v0 : UInt64} {σ : Sg} (h : f_Jxfc994_ceil_294c1 v0 σ = some (xr, σr)) : MT G M_Jxfc994_ceil_294c1 [.double v0] σ (some (.double xr)) σr := by
  refine MT_ofF (by decide +kernel) rfl (Nat.le_of_ble_eq_true rfl) ?_
  show RN G M_Jxfc994_ceil_294c1 0 [some (.double v0), none] [] σ (.inl (some (.double xr))) σr
  unfold f_Jxfc994_ceil_294c1 at h
  refine RN_dload_n (pc := 0) (k := 0) (by decide +kernel) rfl rfl ?_
  refine RN_ldc2d (pc := 1) (idx := 58) (v := 9223372036854775808) (by decide +kernel) kc_RJxfc994_58 ?_
  refine RN_dconst1 (pc := 4) (by decide +kernel) ?_
  refine RN_dconst1 (pc := 5) (by decide +kernel) ?_
  obtain ⟨x6, σ5, f4, h⟩ := bd_el h
  refine RN_callS (M := M_Jxfc994_ceil_294c1) (pc := 6) (idx := 60) (as := [.double v0, .double (9223372036854775808 : UInt64), .double (FP.dconst1), .double (FP.dconst1)]) (st := []) (t_Jxfc994_floorOrCeil_f4a47 f4) (by decide +kernel) lk_RJxfc994_60 rfl (Nat.le_of_ble_eq_true rfl) ⟨Nat.le_of_ble_eq_true rfl, Nat.le_of_ble_eq_true rfl⟩ rfl ?_
  show RN G M_Jxfc994_ceil_294c1 9 [some (.double v0), none] [.double x6] σ5 _ _
  obtain ⟨rfl, rfl⟩ := some_el2 h
  exact RN_dreturn (by decide +kernel) rfl
def f_J9_ceil_294c1 (v0 : UInt64) (σ : Sg) : Option (UInt64 × Sg) :=
  bd (f_Jxfc994_ceil_294c1 v0 σ) fun x6 σ5 =>
  some (x6, σ5)
set_option maxRecDepth 20000 in
theorem t_J9_ceil_294c1 {G : Gl} {xr : UInt64} {σr : Sg} {v0 : UInt64} {σ : Sg} (h : f_J9_ceil_294c1 v0 σ = some (xr, σr)) : MT G M_J9_ceil_294c1 [.double v0] σ (some (.double xr)) σr := by
  refine MT_ofF (by decide +kernel) rfl (Nat.le_of_ble_eq_true rfl) ?_
  show RN G M_J9_ceil_294c1 0 [some (.double v0), none] [] σ (.inl (some (.double xr))) σr
  unfold f_J9_ceil_294c1 at h
  refine RN_dload_n (pc := 0) (k := 0) (by decide +kernel) rfl rfl ?_
  obtain ⟨x6, σ5, f4, h⟩ := bd_el h
  refine RN_callS (M := M_J9_ceil_294c1) (pc := 1) (idx := 53) (as := [.double v0]) (st := []) (t_Jxfc994_ceil_294c1 f4) (by decide +kernel) lk_RJ9_53 rfl (Nat.le_of_ble_eq_true rfl) ⟨Nat.le_of_ble_eq_true rfl, Nat.le_of_ble_eq_true rfl⟩ rfl ?_
  show RN G M_J9_ceil_294c1 4 [some (.double v0), none] [.double x6] σ5 _ _
  obtain ⟨rfl, rfl⟩ := some_el2 h
  exact RN_dreturn (by decide +kernel) rfl
def f_J9_copySign_eb370 (v0 : UInt64) (v2 : UInt64) : Option UInt64 :=
  ck (vn_snl2d (((v2.toInt64) &&& (-9223372036854775808 : Int64)) ||| ((v0.toInt64) &&& (9223372036854775807 : Int64))) = false) <|
  some ((((v2.toInt64) &&& (-9223372036854775808 : Int64)) ||| ((v0.toInt64) &&& (9223372036854775807 : Int64))).toUInt64)
set_option maxRecDepth 20000 in
theorem t_J9_copySign_eb370 {G : Gl} {xr : UInt64} {v0 : UInt64} {v2 : UInt64} {σ : Sg} (h : f_J9_copySign_eb370 v0 v2 = some xr) : MT G M_J9_copySign_eb370 [.double v0, .double v2] σ (some (.double xr)) σ := by
  refine MT_ofF (by decide +kernel) rfl (Nat.le_of_ble_eq_true rfl) ?_
  show RN G M_J9_copySign_eb370 0 [some (.double v0), none, some (.double v2), none] [] σ (.inl (some (.double xr))) σ
  unfold f_J9_copySign_eb370 at h
  refine RN_dload_n (pc := 0) (k := 2) (by decide +kernel) rfl rfl ?_
  refine RN_d2raw (pc := 1) (idx := 79) (by decide +kernel) na_RJ9_79 na_doubleToRawLongBits_n na_doubleToRawLongBits_s na_dbl (by decide) (by decide) (Nat.le_of_ble_eq_true rfl) ?_
  refine RN_ldc2 (pc := 4) (idx := 128) (v := -9223372036854775808) (by decide +kernel) kc_RJ9_128 ?_
  refine RN_land (pc := 7) (by decide +kernel) ?_
  refine RN_dload_n (pc := 8) (k := 0) (by decide +kernel) rfl rfl ?_
  refine RN_d2raw (pc := 9) (idx := 79) (by decide +kernel) na_RJ9_79 na_doubleToRawLongBits_n na_doubleToRawLongBits_s na_dbl (by decide) (by decide) (Nat.le_of_ble_eq_true rfl) ?_
  refine RN_ldc2 (pc := 12) (idx := 135) (v := 9223372036854775807) (by decide +kernel) kc_RJ9_135 ?_
  refine RN_land (pc := 15) (by decide +kernel) ?_
  refine RN_lor (pc := 16) (by decide +kernel) ?_
  obtain ⟨c2, h⟩ := ck_el h
  refine RN_raw2d (pc := 17) (idx := 166) (by decide +kernel) na_RJ9_166 na_longBitsToDouble_n na_longBitsToDouble_s na_dbl c2 (by decide) (by decide) (Nat.le_of_ble_eq_true rfl) ?_
  obtain rfl := some_el h
  exact RN_dreturn (by decide +kernel) rfl
def f_J9_abs_294c1 (v0 : UInt64) : Option UInt64 :=
  ck (vn_snl2d ((v0.toInt64) &&& (9223372036854775807 : Int64)) = false) <|
  some (((v0.toInt64) &&& (9223372036854775807 : Int64)).toUInt64)
set_option maxRecDepth 20000 in
theorem t_J9_abs_294c1 {G : Gl} {xr : UInt64} {v0 : UInt64} {σ : Sg} (h : f_J9_abs_294c1 v0 = some xr) : MT G M_J9_abs_294c1 [.double v0] σ (some (.double xr)) σ := by
  refine MT_ofF (by decide +kernel) rfl (Nat.le_of_ble_eq_true rfl) ?_
  show RN G M_J9_abs_294c1 0 [some (.double v0), none] [] σ (.inl (some (.double xr))) σ
  unfold f_J9_abs_294c1 at h
  refine RN_dload_n (pc := 0) (k := 0) (by decide +kernel) rfl rfl ?_
  refine RN_d2raw (pc := 1) (idx := 79) (by decide +kernel) na_RJ9_79 na_doubleToRawLongBits_n na_doubleToRawLongBits_s na_dbl (by decide) (by decide) (Nat.le_of_ble_eq_true rfl) ?_
  refine RN_ldc2 (pc := 4) (idx := 135) (v := 9223372036854775807) (by decide +kernel) kc_RJ9_135 ?_
  refine RN_land (pc := 7) (by decide +kernel) ?_
  obtain ⟨c2, h⟩ := ck_el h
  refine RN_raw2d (pc := 8) (idx := 166) (by decide +kernel) na_RJ9_166 na_longBitsToDouble_n na_longBitsToDouble_s na_dbl c2 (by decide) (by decide) (Nat.le_of_ble_eq_true rfl) ?_
  obtain rfl := some_el h
  exact RN_dreturn (by decide +kernel) rfl
def f_Jxfc994_rint_294c1 (v0 : UInt64) : Option UInt64 :=
  bp (f_J9_copySign_eb370 (FP.dconst1) v0) fun x10 =>
  bp (f_J9_abs_294c1 v0) fun x12 =>
  if 0 ≤ (Op.cmpValue (FP.dcmp x12 (4841369599423283200 : UInt64)) .g) then (
    ck (n64 (FP.dmul x10 x12)) <|
    some (FP.dmul x10 x12))
  else (
    ck (n64 (FP.dadd (4841369599423283200 : UInt64) x12)) <|
    ck (n64 (FP.dsub (FP.dadd (4841369599423283200 : UInt64) x12) (4841369599423283200 : UInt64))) <|
    nm (FP.dsub (FP.dadd (4841369599423283200 : UInt64) x12) (4841369599423283200 : UInt64)) fun x17 =>
    ck (n64 (FP.dmul x10 x17)) <|
    some (FP.dmul x10 x17))
set_option maxRecDepth 20000 in
theorem t_Jxfc994_rint_294c1 {G : Gl} {xr : UInt64} {v0 : UInt64} {σ : Sg} (h : f_Jxfc994_rint_294c1 v0 = some xr) : MT G M_Jxfc994_rint_294c1 [.double v0] σ (some (.double xr)) σ := by
  refine MT_ofF (by decide +kernel) rfl (Nat.le_of_ble_eq_true rfl) ?_
  show RN G M_Jxfc994_rint_294c1 0 [some (.double v0), none] [] σ (.inl (some (.double xr))) σ
  unfold f_Jxfc994_rint_294c1 at h
  refine RN_ldc2d (pc := 0) (idx := 93) (v := 4841369599423283200) (by decide +kernel) kc_RJxfc994_93 ?_
  refine RN_dstore_n (pc := 3) (k := 2) (ls2 := [some (.double v0), none, some (.double (4841369599423283200 : UInt64)), none]) (by decide +kernel) rfl (by decide) rfl ?_
  refine RN_dconst1 (pc := 4) (by decide +kernel) ?_
  refine RN_dload_n (pc := 5) (k := 0) (by decide +kernel) rfl rfl ?_
  obtain ⟨x10, f9, h⟩ := bp_el h
  refine RN_callS (M := M_Jxfc994_rint_294c1) (pc := 6) (idx := 95) (as := [.double (FP.dconst1), .double v0]) (st := []) (t_J9_copySign_eb370 f9) (by decide +kernel) lk_RJxfc994_95 rfl (Nat.le_of_ble_eq_true rfl) ⟨Nat.le_of_ble_eq_true rfl, Nat.le_of_ble_eq_true rfl⟩ rfl ?_
  show RN G M_Jxfc994_rint_294c1 9 [some (.double v0), none, some (.double (4841369599423283200 : UInt64)), none] [.double x10] σ _ _
  refine RN_dstore (pc := 9) (i := 4) (ls2 := [some (.double v0), none, some (.double (4841369599423283200 : UInt64)), none, some (.double x10), none]) (by decide +kernel) (by decide) rfl ?_
  refine RN_dload_n (pc := 11) (k := 0) (by decide +kernel) rfl rfl ?_
  obtain ⟨x12, f11, h⟩ := bp_el h
  refine RN_callS (M := M_Jxfc994_rint_294c1) (pc := 12) (idx := 98) (as := [.double v0]) (st := []) (t_J9_abs_294c1 f11) (by decide +kernel) lk_RJxfc994_98 rfl (Nat.le_of_ble_eq_true rfl) ⟨Nat.le_of_ble_eq_true rfl, Nat.le_of_ble_eq_true rfl⟩ rfl ?_
  show RN G M_Jxfc994_rint_294c1 15 [some (.double v0), none, some (.double (4841369599423283200 : UInt64)), none, some (.double x10), none] [.double x12] σ _ _
  refine RN_dstore_n (pc := 15) (k := 0) (ls2 := [some (.double x12), none, some (.double (4841369599423283200 : UInt64)), none, some (.double x10), none]) (by decide +kernel) rfl (by decide) rfl ?_
  refine RN_dload_n (pc := 16) (k := 0) (by decide +kernel) rfl rfl ?_
  refine RN_dload_n (pc := 17) (k := 2) (by decide +kernel) rfl rfl ?_
  refine RN_dcmp (pc := 18) (op := .g) (by decide +kernel) ?_
  refine RN_if_ge (pc := 19) (off := 9) (tgt := 28) (by decide +kernel) (by decide) (fun c13 => ?_) (fun c13 => ?_)
  · replace h := it_t c13 h
    refine RN_dload (pc := 28) (i := 4) (by decide +kernel) rfl ?_
    refine RN_dload_n (pc := 30) (k := 0) (by decide +kernel) rfl rfl ?_
    obtain ⟨c14, h⟩ := ck_el h
    refine RN_dmul (pc := 31) (by decide +kernel) c14 ?_
    obtain rfl := some_el h
    exact RN_dreturn (by decide +kernel) rfl
  · replace h := it_f c13 h
    refine RN_dload_n (pc := 22) (k := 2) (by decide +kernel) rfl rfl ?_
    refine RN_dload_n (pc := 23) (k := 0) (by decide +kernel) rfl rfl ?_
    obtain ⟨c15, h⟩ := ck_el h
    refine RN_dadd (pc := 24) (by decide +kernel) c15 ?_
    refine RN_dload_n (pc := 25) (k := 2) (by decide +kernel) rfl rfl ?_
    obtain ⟨c16, h⟩ := ck_el h
    refine RN_dsub (pc := 26) (by decide +kernel) c16 ?_
    obtain ⟨x17, ex17, h⟩ := nm_el h
    refine RN_nmD ex17 ?_
    refine RN_dstore_n (pc := 27) (k := 0) (ls2 := [some (.double x17), none, some (.double (4841369599423283200 : UInt64)), none, some (.double x10), none]) (by decide +kernel) rfl (by decide) rfl ?_
    refine RN_dload (pc := 28) (i := 4) (by decide +kernel) rfl ?_
    refine RN_dload_n (pc := 30) (k := 0) (by decide +kernel) rfl rfl ?_
    obtain ⟨c18, h⟩ := ck_el h
    refine RN_dmul (pc := 31) (by decide +kernel) c18 ?_
    obtain rfl := some_el h
    exact RN_dreturn (by decide +kernel) rfl
def f_J9_rint_294c1 (v0 : UInt64) : Option UInt64 :=
  bp (f_Jxfc994_rint_294c1 v0) fun x4 =>
  some x4
set_option maxRecDepth 20000 in
theorem t_J9_rint_294c1 {G : Gl} {xr : UInt64} {v0 : UInt64} {σ : Sg} (h : f_J9_rint_294c1 v0 = some xr) : MT G M_J9_rint_294c1 [.double v0] σ (some (.double xr)) σ := by
  refine MT_ofF (by decide +kernel) rfl (Nat.le_of_ble_eq_true rfl) ?_
  show RN G M_J9_rint_294c1 0 [some (.double v0), none] [] σ (.inl (some (.double xr))) σ
  unfold f_J9_rint_294c1 at h
  refine RN_dload_n (pc := 0) (k := 0) (by decide +kernel) rfl rfl ?_
  obtain ⟨x4, f3, h⟩ := bp_el h
  refine RN_callS (M := M_J9_rint_294c1) (pc := 1) (idx := 59) (as := [.double v0]) (st := []) (t_Jxfc994_rint_294c1 f3) (by decide +kernel) lk_RJ9_59 rfl (Nat.le_of_ble_eq_true rfl) ⟨Nat.le_of_ble_eq_true rfl, Nat.le_of_ble_eq_true rfl⟩ rfl ?_
  show RN G M_J9_rint_294c1 4 [some (.double v0), none] [.double x4] σ _ _
  obtain rfl := some_el h
  exact RN_dreturn (by decide +kernel) rfl
def b_X12_roundedF_68 (v2 : UInt64) (s0 : UInt64) (σ : Sg) : Option (UInt64 × Sg) :=
  ck (n64 (FP.dmul s0 v2)) <|
  some (FP.dmul s0 v2, σ)
set_option maxRecDepth 20000 in
theorem tb_X12_roundedF_68 {G : Gl} {xr : UInt64} {σr : Sg} (v2 : UInt64) (s0 : UInt64) (σ : Sg) (h : b_X12_roundedF_68 v2 s0 σ = some (xr, σr)) : RN G M_X12_roundedF 68 [none, none, some (.double v2)] [.double s0] σ (.inl (some (.double xr))) σr := by
  unfold b_X12_roundedF_68 at h
  refine RN_dstore (pc := 68) (i := 7) (ls2 := [none, none, some (.double v2), none, none, none, none, some (.double s0), none]) (by decide +kernel) (by decide) rfl ?_
  refine RN_goto (pc := 70) (off := 80) (tgt := 150) (by decide +kernel) (by decide) ?_
  refine RN_dload (pc := 150) (i := 7) (by decide +kernel) rfl ?_
  refine RN_dload_n (pc := 152) (k := 2) (by decide +kernel) rfl rfl ?_
  obtain ⟨c40, h⟩ := ck_el h
  refine RN_dmul (pc := 153) (by decide +kernel) c40 ?_
  obtain ⟨rfl, rfl⟩ := some_el2 h
  exact RN_dreturn (by decide +kernel) rfl
def b_X12_roundedF_103 (v2 : UInt64) (s0 : UInt64) (σ : Sg) : Option (UInt64 × Sg) :=
  ck (n64 (FP.dmul s0 v2)) <|
  some (FP.dmul s0 v2, σ)
set_option maxRecDepth 20000 in
theorem tb_X12_roundedF_103 {G : Gl} {xr : UInt64} {σr : Sg} (v2 : UInt64) (s0 : UInt64) (σ : Sg) (h : b_X12_roundedF_103 v2 s0 σ = some (xr, σr)) : RN G M_X12_roundedF 103 [none, none, some (.double v2)] [.double s0] σ (.inl (some (.double xr))) σr := by
  unfold b_X12_roundedF_103 at h
  refine RN_dstore (pc := 103) (i := 7) (ls2 := [none, none, some (.double v2), none, none, none, none, some (.double s0), none]) (by decide +kernel) (by decide) rfl ?_
  refine RN_goto (pc := 105) (off := 45) (tgt := 150) (by decide +kernel) (by decide) ?_
  refine RN_dload (pc := 150) (i := 7) (by decide +kernel) rfl ?_
  refine RN_dload_n (pc := 152) (k := 2) (by decide +kernel) rfl rfl ?_
  obtain ⟨c54, h⟩ := ck_el h
  refine RN_dmul (pc := 153) (by decide +kernel) c54 ?_
  obtain ⟨rfl, rfl⟩ := some_el2 h
  exact RN_dreturn (by decide +kernel) rfl
def b_X12_roundedF_128 (v2 : UInt64) (s0 : UInt64) (σ : Sg) : Option (UInt64 × Sg) :=
  ck (n64 (FP.dmul s0 v2)) <|
  some (FP.dmul s0 v2, σ)
set_option maxRecDepth 20000 in
theorem tb_X12_roundedF_128 {G : Gl} {xr : UInt64} {σr : Sg} (v2 : UInt64) (s0 : UInt64) (σ : Sg) (h : b_X12_roundedF_128 v2 s0 σ = some (xr, σr)) : RN G M_X12_roundedF 128 [none, none, some (.double v2)] [.double s0] σ (.inl (some (.double xr))) σr := by
  unfold b_X12_roundedF_128 at h
  refine RN_dstore (pc := 128) (i := 7) (ls2 := [none, none, some (.double v2), none, none, none, none, some (.double s0), none]) (by decide +kernel) (by decide) rfl ?_
  refine RN_goto (pc := 130) (off := 20) (tgt := 150) (by decide +kernel) (by decide) ?_
  refine RN_dload (pc := 150) (i := 7) (by decide +kernel) rfl ?_
  refine RN_dload_n (pc := 152) (k := 2) (by decide +kernel) rfl rfl ?_
  obtain ⟨c63, h⟩ := ck_el h
  refine RN_dmul (pc := 153) (by decide +kernel) c63 ?_
  obtain ⟨rfl, rfl⟩ := some_el2 h
  exact RN_dreturn (by decide +kernel) rfl
def f_X12_roundedF (v0 : UInt64) (v2 : UInt64) (v4 : Int32) (σ : Sg) : Option (UInt64 × Sg) :=
  ck (n64 (FP.ddiv v0 v2)) <|
  nm (FP.ddiv v0 v2) fun x33 =>
  if v4 = 0 then (
    if (Op.cmpValue (FP.dcmp x33 (FP.dconst0)) .g) < 0 then (
      ck (n64 (FP.dsub x33 (4602678819172646912 : UInt64))) <|
      bd (f_J9_ceil_294c1 (FP.dsub x33 (4602678819172646912 : UInt64)) σ) fun x39 σ38 =>
      b_X12_roundedF_68 v2 x39 σ38)
    else (
      ck (n64 (FP.dadd x33 (4602678819172646912 : UInt64))) <|
      bd (f_J9_floor_294c1 (FP.dadd x33 (4602678819172646912 : UInt64)) σ) fun x44 σ43 =>
      b_X12_roundedF_68 v2 x44 σ43))
  else (
  if v4 = 1 then (
    bp (f_J9_rint_294c1 x33) fun x47 =>
    ck (n64 (FP.dmul x47 v2)) <|
    some (FP.dmul x47 v2, σ))
  else (
  if v4 = 2 then (
    if (Op.cmpValue (FP.dcmp x33 (FP.dconst0)) .l) ≤ 0 then (
      bd (f_J9_ceil_294c1 x33 σ) fun x53 σ52 =>
      b_X12_roundedF_103 v2 x53 σ52)
    else (
      bd (f_J9_floor_294c1 x33 σ) fun x57 σ56 =>
      b_X12_roundedF_103 v2 x57 σ56))
  else (
  if v4 = 3 then (
    if (Op.cmpValue (FP.dcmp x33 (FP.dconst0)) .l) ≤ 0 then (
      bd (f_J9_floor_294c1 x33 σ) fun x62 σ61 =>
      b_X12_roundedF_128 v2 x62 σ61)
    else (
      bd (f_J9_ceil_294c1 x33 σ) fun x66 σ65 =>
      b_X12_roundedF_128 v2 x66 σ65))
  else (
  if v4 = 4 then (
    bd (f_J9_floor_294c1 x33 σ) fun x70 σ69 =>
    ck (n64 (FP.dmul x70 v2)) <|
    some (FP.dmul x70 v2, σ69))
  else (
    bd (f_J9_ceil_294c1 x33 σ) fun x74 σ73 =>
    ck (n64 (FP.dmul x74 v2)) <|
    some (FP.dmul x74 v2, σ73))))))
set_option maxRecDepth 20000 in
theorem t_X12_roundedF {G : Gl} {xr : UInt64} {σr : Sg} {v0 : UInt64} {v2 : UInt64} {v4 : Int32} {σ : Sg} (h : f_X12_roundedF v0 v2 v4 σ = some (xr, σr)) : MT G M_X12_roundedF [.double v0, .double v2, .int v4] σ (some (.double xr)) σr := by
  refine MT_of rfl rfl (Nat.le_of_ble_eq_true rfl) ?_
  show RN G M_X12_roundedF 0 [some (.double v0), none, some (.double v2), none, some (.int v4)] [] σ (.inl (some (.double xr))) σr
  unfold f_X12_roundedF at h
  refine RN_dload_n (pc := 0) (k := 0) (by decide +kernel) rfl rfl ?_
  refine RN_dload_n (pc := 1) (k := 2) (by decide +kernel) rfl rfl ?_
  obtain ⟨c32, h⟩ := ck_el h
  refine RN_ddiv (pc := 2) (by decide +kernel) c32 ?_
  obtain ⟨x33, ex33, h⟩ := nm_el h
  refine RN_nmD ex33 ?_
  refine RN_dstore (pc := 3) (i := 5) (ls2 := [some (.double v0), none, some (.double v2), none, some (.int v4), some (.double x33), none]) (by decide +kernel) (by decide) rfl ?_
  refine RN_iload (pc := 5) (i := 4) (by decide +kernel) rfl ?_
  by_cases c34 : v4 = 0
  · replace h := it_t c34 h
    refine RN_tsw (pc := 7) (dflt := 136) (lo := 0) (hi := 4) (offs := #[33, 66, 76, 101, 126]) (len := 33) (v := 0) (off := 33) (tgt := 40) c34 (by decide +kernel) (by decide) (by decide) (by decide +kernel) (by decide) ?_
    refine RN_dload (pc := 40) (i := 5) (by decide +kernel) rfl ?_
    refine RN_dconst0 (pc := 42) (by decide +kernel) ?_
    refine RN_dcmp (pc := 43) (op := .g) (by decide +kernel) ?_
    refine RN_if_lt (pc := 44) (off := 15) (tgt := 59) (by decide +kernel) (by decide) (fun c35 => ?_) (fun c35 => ?_)
    · replace h := it_t c35 h
      refine RN_dload (pc := 59) (i := 5) (by decide +kernel) rfl ?_
      refine RN_ldc2d (pc := 61) (idx := 308) (v := 4602678819172646912) (by decide +kernel) kc_RX12_308 ?_
      obtain ⟨c36, h⟩ := ck_el h
      refine RN_dsub (pc := 64) (by decide +kernel) c36 ?_
      obtain ⟨x39, σ38, f37, h⟩ := bd_el h
      refine RN_callS (M := M_X12_roundedF) (pc := 65) (idx := 315) (as := [.double (FP.dsub x33 (4602678819172646912 : UInt64))]) (st := []) (t_J9_ceil_294c1 f37) (by decide +kernel) lk_RX12_315 rfl (Nat.le_of_ble_eq_true rfl) ⟨Nat.le_of_ble_eq_true rfl, Nat.le_of_ble_eq_true rfl⟩ rfl ?_
      show RN G M_X12_roundedF 68 [some (.double v0), none, some (.double v2), none, some (.int v4), some (.double x33), none] [.double x39] σ38 _ _
      exact RN_weak (l := [none, none, some (.double v2)]) (And.intro rfl trivial) (tb_X12_roundedF_68 v2 x39 σ38 h)
    · replace h := it_f c35 h
      refine RN_dload (pc := 47) (i := 5) (by decide +kernel) rfl ?_
      refine RN_ldc2d (pc := 49) (idx := 308) (v := 4602678819172646912) (by decide +kernel) kc_RX12_308 ?_
      obtain ⟨c41, h⟩ := ck_el h
      refine RN_dadd (pc := 52) (by decide +kernel) c41 ?_
      obtain ⟨x44, σ43, f42, h⟩ := bd_el h
      refine RN_callS (M := M_X12_roundedF) (pc := 53) (idx := 310) (as := [.double (FP.dadd x33 (4602678819172646912 : UInt64))]) (st := []) (t_J9_floor_294c1 f42) (by decide +kernel) lk_RX12_310 rfl (Nat.le_of_ble_eq_true rfl) ⟨Nat.le_of_ble_eq_true rfl, Nat.le_of_ble_eq_true rfl⟩ rfl ?_
      show RN G M_X12_roundedF 56 [some (.double v0), none, some (.double v2), none, some (.int v4), some (.double x33), none] [.double x44] σ43 _ _
      refine RN_goto (pc := 56) (off := 12) (tgt := 68) (by decide +kernel) (by decide) ?_
      exact RN_weak (l := [none, none, some (.double v2)]) (And.intro rfl trivial) (tb_X12_roundedF_68 v2 x44 σ43 h)
  · replace h := it_f c34 h
    by_cases c45 : v4 = 1
    · replace h := it_t c45 h
      refine RN_tsw (pc := 7) (dflt := 136) (lo := 0) (hi := 4) (offs := #[33, 66, 76, 101, 126]) (len := 33) (v := 1) (off := 66) (tgt := 73) c45 (by decide +kernel) (by decide) (by decide) (by decide +kernel) (by decide) ?_
      refine RN_dload (pc := 73) (i := 5) (by decide +kernel) rfl ?_
      obtain ⟨x47, f46, h⟩ := bp_el h
      refine RN_callS (M := M_X12_roundedF) (pc := 75) (idx := 318) (as := [.double x33]) (st := []) (t_J9_rint_294c1 f46) (by decide +kernel) lk_RX12_318 rfl (Nat.le_of_ble_eq_true rfl) ⟨Nat.le_of_ble_eq_true rfl, Nat.le_of_ble_eq_true rfl⟩ rfl ?_
      show RN G M_X12_roundedF 78 [some (.double v0), none, some (.double v2), none, some (.int v4), some (.double x33), none] [.double x47] σ _ _
      refine RN_dstore (pc := 78) (i := 7) (ls2 := [some (.double v0), none, some (.double v2), none, some (.int v4), some (.double x33), none, some (.double x47), none]) (by decide +kernel) (by decide) rfl ?_
      refine RN_goto (pc := 80) (off := 70) (tgt := 150) (by decide +kernel) (by decide) ?_
      refine RN_dload (pc := 150) (i := 7) (by decide +kernel) rfl ?_
      refine RN_dload_n (pc := 152) (k := 2) (by decide +kernel) rfl rfl ?_
      obtain ⟨c48, h⟩ := ck_el h
      refine RN_dmul (pc := 153) (by decide +kernel) c48 ?_
      obtain ⟨rfl, rfl⟩ := some_el2 h
      exact RN_dreturn (by decide +kernel) rfl
    · replace h := it_f c45 h
      by_cases c49 : v4 = 2
      · replace h := it_t c49 h
        refine RN_tsw (pc := 7) (dflt := 136) (lo := 0) (hi := 4) (offs := #[33, 66, 76, 101, 126]) (len := 33) (v := 2) (off := 76) (tgt := 83) c49 (by decide +kernel) (by decide) (by decide) (by decide +kernel) (by decide) ?_
        refine RN_dload (pc := 83) (i := 5) (by decide +kernel) rfl ?_
        refine RN_dconst0 (pc := 85) (by decide +kernel) ?_
        refine RN_dcmp (pc := 86) (op := .l) (by decide +kernel) ?_
        refine RN_if_le (pc := 87) (off := 11) (tgt := 98) (by decide +kernel) (by decide) (fun c50 => ?_) (fun c50 => ?_)
        · replace h := it_t c50 h
          refine RN_dload (pc := 98) (i := 5) (by decide +kernel) rfl ?_
          obtain ⟨x53, σ52, f51, h⟩ := bd_el h
          refine RN_callS (M := M_X12_roundedF) (pc := 100) (idx := 315) (as := [.double x33]) (st := []) (t_J9_ceil_294c1 f51) (by decide +kernel) lk_RX12_315 rfl (Nat.le_of_ble_eq_true rfl) ⟨Nat.le_of_ble_eq_true rfl, Nat.le_of_ble_eq_true rfl⟩ rfl ?_
          show RN G M_X12_roundedF 103 [some (.double v0), none, some (.double v2), none, some (.int v4), some (.double x33), none] [.double x53] σ52 _ _
          exact RN_weak (l := [none, none, some (.double v2)]) (And.intro rfl trivial) (tb_X12_roundedF_103 v2 x53 σ52 h)
        · replace h := it_f c50 h
          refine RN_dload (pc := 90) (i := 5) (by decide +kernel) rfl ?_
          obtain ⟨x57, σ56, f55, h⟩ := bd_el h
          refine RN_callS (M := M_X12_roundedF) (pc := 92) (idx := 310) (as := [.double x33]) (st := []) (t_J9_floor_294c1 f55) (by decide +kernel) lk_RX12_310 rfl (Nat.le_of_ble_eq_true rfl) ⟨Nat.le_of_ble_eq_true rfl, Nat.le_of_ble_eq_true rfl⟩ rfl ?_
          show RN G M_X12_roundedF 95 [some (.double v0), none, some (.double v2), none, some (.int v4), some (.double x33), none] [.double x57] σ56 _ _
          refine RN_goto (pc := 95) (off := 8) (tgt := 103) (by decide +kernel) (by decide) ?_
          exact RN_weak (l := [none, none, some (.double v2)]) (And.intro rfl trivial) (tb_X12_roundedF_103 v2 x57 σ56 h)
      · replace h := it_f c49 h
        by_cases c58 : v4 = 3
        · replace h := it_t c58 h
          refine RN_tsw (pc := 7) (dflt := 136) (lo := 0) (hi := 4) (offs := #[33, 66, 76, 101, 126]) (len := 33) (v := 3) (off := 101) (tgt := 108) c58 (by decide +kernel) (by decide) (by decide) (by decide +kernel) (by decide) ?_
          refine RN_dload (pc := 108) (i := 5) (by decide +kernel) rfl ?_
          refine RN_dconst0 (pc := 110) (by decide +kernel) ?_
          refine RN_dcmp (pc := 111) (op := .l) (by decide +kernel) ?_
          refine RN_if_le (pc := 112) (off := 11) (tgt := 123) (by decide +kernel) (by decide) (fun c59 => ?_) (fun c59 => ?_)
          · replace h := it_t c59 h
            refine RN_dload (pc := 123) (i := 5) (by decide +kernel) rfl ?_
            obtain ⟨x62, σ61, f60, h⟩ := bd_el h
            refine RN_callS (M := M_X12_roundedF) (pc := 125) (idx := 310) (as := [.double x33]) (st := []) (t_J9_floor_294c1 f60) (by decide +kernel) lk_RX12_310 rfl (Nat.le_of_ble_eq_true rfl) ⟨Nat.le_of_ble_eq_true rfl, Nat.le_of_ble_eq_true rfl⟩ rfl ?_
            show RN G M_X12_roundedF 128 [some (.double v0), none, some (.double v2), none, some (.int v4), some (.double x33), none] [.double x62] σ61 _ _
            exact RN_weak (l := [none, none, some (.double v2)]) (And.intro rfl trivial) (tb_X12_roundedF_128 v2 x62 σ61 h)
          · replace h := it_f c59 h
            refine RN_dload (pc := 115) (i := 5) (by decide +kernel) rfl ?_
            obtain ⟨x66, σ65, f64, h⟩ := bd_el h
            refine RN_callS (M := M_X12_roundedF) (pc := 117) (idx := 315) (as := [.double x33]) (st := []) (t_J9_ceil_294c1 f64) (by decide +kernel) lk_RX12_315 rfl (Nat.le_of_ble_eq_true rfl) ⟨Nat.le_of_ble_eq_true rfl, Nat.le_of_ble_eq_true rfl⟩ rfl ?_
            show RN G M_X12_roundedF 120 [some (.double v0), none, some (.double v2), none, some (.int v4), some (.double x33), none] [.double x66] σ65 _ _
            refine RN_goto (pc := 120) (off := 8) (tgt := 128) (by decide +kernel) (by decide) ?_
            exact RN_weak (l := [none, none, some (.double v2)]) (And.intro rfl trivial) (tb_X12_roundedF_128 v2 x66 σ65 h)
        · replace h := it_f c58 h
          by_cases c67 : v4 = 4
          · replace h := it_t c67 h
            refine RN_tsw (pc := 7) (dflt := 136) (lo := 0) (hi := 4) (offs := #[33, 66, 76, 101, 126]) (len := 33) (v := 4) (off := 126) (tgt := 133) c67 (by decide +kernel) (by decide) (by decide) (by decide +kernel) (by decide) ?_
            refine RN_dload (pc := 133) (i := 5) (by decide +kernel) rfl ?_
            obtain ⟨x70, σ69, f68, h⟩ := bd_el h
            refine RN_callS (M := M_X12_roundedF) (pc := 135) (idx := 310) (as := [.double x33]) (st := []) (t_J9_floor_294c1 f68) (by decide +kernel) lk_RX12_310 rfl (Nat.le_of_ble_eq_true rfl) ⟨Nat.le_of_ble_eq_true rfl, Nat.le_of_ble_eq_true rfl⟩ rfl ?_
            show RN G M_X12_roundedF 138 [some (.double v0), none, some (.double v2), none, some (.int v4), some (.double x33), none] [.double x70] σ69 _ _
            refine RN_dstore (pc := 138) (i := 7) (ls2 := [some (.double v0), none, some (.double v2), none, some (.int v4), some (.double x33), none, some (.double x70), none]) (by decide +kernel) (by decide) rfl ?_
            refine RN_goto (pc := 140) (off := 10) (tgt := 150) (by decide +kernel) (by decide) ?_
            refine RN_dload (pc := 150) (i := 7) (by decide +kernel) rfl ?_
            refine RN_dload_n (pc := 152) (k := 2) (by decide +kernel) rfl rfl ?_
            obtain ⟨c71, h⟩ := ck_el h
            refine RN_dmul (pc := 153) (by decide +kernel) c71 ?_
            obtain ⟨rfl, rfl⟩ := some_el2 h
            exact RN_dreturn (by decide +kernel) rfl
          · replace h := it_f c67 h
            refine RN_tableOut (pc := 7) (dflt := 136) (lo := 0) (hi := 4) (offs := #[33, 66, 76, 101, 126]) (len := 33) (tgt := 143) (by decide +kernel) (tsw_s (hi := 3) (hi' := 4) (tsw_s (hi := 2) (hi' := 3) (tsw_s (hi := 1) (hi' := 2) (tsw_s (hi := 0) (hi' := 1) (tsw_s (hi := -1) (hi' := 0) (tsw_0 (0)) (by decide) (by decide) c34) (by decide) (by decide) c45) (by decide) (by decide) c49) (by decide) (by decide) c58) (by decide) (by decide) c67) (by decide) ?_
            refine RN_dload (pc := 143) (i := 5) (by decide +kernel) rfl ?_
            obtain ⟨x74, σ73, f72, h⟩ := bd_el h
            refine RN_callS (M := M_X12_roundedF) (pc := 145) (idx := 315) (as := [.double x33]) (st := []) (t_J9_ceil_294c1 f72) (by decide +kernel) lk_RX12_315 rfl (Nat.le_of_ble_eq_true rfl) ⟨Nat.le_of_ble_eq_true rfl, Nat.le_of_ble_eq_true rfl⟩ rfl ?_
            show RN G M_X12_roundedF 148 [some (.double v0), none, some (.double v2), none, some (.int v4), some (.double x33), none] [.double x74] σ73 _ _
            refine RN_dstore (pc := 148) (i := 7) (ls2 := [some (.double v0), none, some (.double v2), none, some (.int v4), some (.double x33), none, some (.double x74), none]) (by decide +kernel) (by decide) rfl ?_
            refine RN_dload (pc := 150) (i := 7) (by decide +kernel) rfl ?_
            refine RN_dload_n (pc := 152) (k := 2) (by decide +kernel) rfl rfl ?_
            obtain ⟨c75, h⟩ := ck_el h
            refine RN_dmul (pc := 153) (by decide +kernel) c75 ?_
            obtain ⟨rfl, rfl⟩ := some_el2 h
            exact RN_dreturn (by decide +kernel) rfl
def b_X12_splitsF_52 : Nat → Nat → Int32 → Sg → Option Sg
  | 0, _, _, _ => none
  | n + 1, v0, v6, σ =>
  if (8 : Int32) ≤ v6 then (
    some σ)
  else (
    ck (okO σ v0 11) <|
    ck (¬ gR σ v0 44 = 0) <|
    nm (gR σ v0 44) fun r36 =>
    ck (¬ gR σ v0 21 = 0) <|
    nm (gR σ v0 21) fun r38 =>
    ck (okA σ r38 14 ((8 : Int32) + v6)) <|
    ck (okW σ r36 12 v6) <|
    nm (pD σ r36 v6.toNatClampNeg (FP.l2d (gJ σ r38 ((8 : Int32) + v6).toNatClampNeg))) fun σ41 =>
    nm (v6 + (1 : Int32)) fun x42 =>
    b_X12_splitsF_52 n v0 x42 σ41)
set_option maxRecDepth 20000 in
theorem tb_X12_splitsF_52 {G : Gl} {σr : Sg} (v0 : Nat) : ∀ (n : Nat) (v6 : Int32) (σ : Sg), b_X12_splitsF_52 n v0 v6 σ = some σr → RN G M_X12_splitsF 52 [some (.ref v0), none, none, none, none, none, some (.int v6)] [] σ (.inl none) σr := by
  intro n
  induction n with
  | zero =>
    intro v6 σ h
    exact none_el h
  | succ n ih =>
    intro v6 σ h
    rw [b_X12_splitsF_52] at h
    refine RN_iload (pc := 52) (i := 6) (by decide +kernel) rfl ?_
    refine RN_bipush (pc := 54) (n := 8) (v := 8) (by decide +kernel) (by decide) ?_
    refine RN_icmp_ge (pc := 56) (off := 27) (tgt := 83) (by decide +kernel) (by decide) (fun c33 => ?_) (fun c33 => ?_)
    · replace h := it_t c33 h
      obtain rfl := some_el h
      exact RN_return (by decide +kernel) rfl
    · replace h := it_f c33 h
      refine RN_aload_n (pc := 59) (k := 0) (by decide +kernel) rfl rfl ?_
      obtain ⟨c34, h⟩ := ck_el h
      obtain ⟨c35, h⟩ := ck_el h
      refine RN_getR (pc := 60) (idx := 107) (ci := 11) (k := 44) (by decide +kernel) lf_RX12_107 rfl c34 c35 ?_
      obtain ⟨r36, er36, h⟩ := nm_el h
      refine RN_nmR er36 ?_
      refine RN_iload (pc := 63) (i := 6) (by decide +kernel) rfl ?_
      refine RN_aload_n (pc := 65) (k := 0) (by decide +kernel) rfl rfl ?_
      obtain ⟨c37, h⟩ := ck_el h
      refine RN_getR (pc := 66) (idx := 54) (ci := 11) (k := 21) (by decide +kernel) lf_RX12_54 rfl c34 c37 ?_
      obtain ⟨r38, er38, h⟩ := nm_el h
      refine RN_nmR er38 ?_
      refine RN_bipush (pc := 69) (n := 8) (v := 8) (by decide +kernel) (by decide) ?_
      refine RN_iload (pc := 71) (i := 6) (by decide +kernel) rfl ?_
      refine RN_iadd (pc := 73) (by decide +kernel) ?_
      obtain ⟨c39, h⟩ := ck_el h
      refine RN_lald (pc := 74) (by decide +kernel) c39 ?_
      refine RN_l2d (pc := 75) (by decide +kernel) ?_
      obtain ⟨c40, h⟩ := ck_el h
      refine RN_dast (pc := 76) (by decide +kernel) c40 ?_
      obtain ⟨σ41, eσ41, h⟩ := nm_el h
      refine RN_nmS eσ41 ?_
      obtain ⟨x42, ex42, h⟩ := nm_el h
      refine RN_iinc (pc := 77) (i := 6) (n := 1) (v := x42) (ls2 := [some (.ref v0), none, none, none, none, none, some (.int x42)]) (by decide +kernel) rfl (by rw [ex42]; rfl) (by decide) rfl ?_
      refine RN_goto (pc := 80) (off := -28) (tgt := 52) (by decide +kernel) (by decide) ?_
      exact RN_weak (l := [some (.ref v0), none, none, none, none, none, some (.int x42)]) (And.intro rfl (And.intro rfl trivial)) (ih x42 σ41 h)
def b_X12_splitsF_39 (n : Nat) (v0 : Nat) (v2 : Int32) (v3 : Int32) (s0 : Int64) (s1 : Nat) (σ : Sg) : Option Sg :=
  ck (okO σ s1 11) <|
  bp (f_X12_splits n s1 s0 v2 v3 σ) fun σ30 =>
  ck (okO σ30 v0 11) <|
  nm (pI σ30 v0 16 (0 : Int32)) fun σ32 =>
  b_X12_splitsF_52 n v0 (0 : Int32) σ32
set_option maxRecDepth 20000 in
theorem tb_X12_splitsF_39 {G : Gl} {σr : Sg} (n : Nat) (v0 : Nat) (v2 : Int32) (v3 : Int32) (s0 : Int64) (s1 : Nat) (σ : Sg) (h : b_X12_splitsF_39 n v0 v2 v3 s0 s1 σ = some σr) : RN G M_X12_splitsF 39 [some (.ref v0), none, some (.int v2), some (.int v3)] [.long s0, .ref s1] σ (.inl none) σr := by
  unfold b_X12_splitsF_39 at h
  refine RN_iload_n (pc := 39) (k := 2) (by decide +kernel) rfl rfl ?_
  refine RN_iload_n (pc := 40) (k := 3) (by decide +kernel) rfl rfl ?_
  obtain ⟨c28, h⟩ := ck_el h
  obtain ⟨σ30, f29, h⟩ := bp_el h
  refine RN_callV (M := M_X12_splitsF) (pc := 41) (idx := 249) (as := [.long s0, .int v2, .int v3]) (st := []) (t_X12_splits f29) (by decide +kernel) lk_RX12_249 rfl ⟨by decide, fun q hq => by cases hq; rfl⟩ c28 (Nat.le_of_ble_eq_true rfl) ⟨Nat.le_of_ble_eq_true rfl, Nat.le_of_ble_eq_true rfl⟩ rfl ?_
  show RN G M_X12_splitsF 44 [some (.ref v0), none, some (.int v2), some (.int v3)] [] σ30 _ _
  refine RN_aload_n (pc := 44) (k := 0) (by decide +kernel) rfl rfl ?_
  refine RN_iconst (pc := 45) (n := 0) (v := 0) (by decide +kernel) (by decide) ?_
  obtain ⟨c31, h⟩ := ck_el h
  refine RN_putI (pc := 46) (idx := 146) (ci := 11) (k := 16) (by decide +kernel) lf_RX12_146 rfl (fun q hq => by cases hq; exact Or.inl rfl) c31 ?_
  obtain ⟨σ32, eσ32, h⟩ := nm_el h
  refine RN_nmS eσ32 ?_
  refine RN_iconst (pc := 49) (n := 0) (v := 0) (by decide +kernel) (by decide) ?_
  refine RN_istore (pc := 50) (i := 6) (ls2 := [some (.ref v0), none, some (.int v2), some (.int v3), none, none, some (.int (0 : Int32))]) (by decide +kernel) (by decide) rfl ?_
  exact RN_weak (l := [some (.ref v0), none, none, none, none, none, some (.int (0 : Int32))]) (And.intro rfl (And.intro rfl trivial)) (tb_X12_splitsF_52 v0 n (0 : Int32) σ32 h)
def b_X12_splitsF_33 (n : Nat) (v0 : Nat) (v2 : Int32) (v3 : Int32) (s0 : Nat) (σ : Sg) : Option Sg :=
  b_X12_splitsF_39 n v0 v2 v3 (0 : Int64) s0 σ
set_option maxRecDepth 20000 in
theorem tb_X12_splitsF_33 {G : Gl} {σr : Sg} (n : Nat) (v0 : Nat) (v2 : Int32) (v3 : Int32) (s0 : Nat) (σ : Sg) (h : b_X12_splitsF_33 n v0 v2 v3 s0 σ = some σr) : RN G M_X12_splitsF 33 [some (.ref v0), none, some (.int v2), some (.int v3)] [.ref s0] σ (.inl none) σr := by
  unfold b_X12_splitsF_33 at h
  refine RN_lconst (pc := 33) (n := 0) (v := 0) (by decide +kernel) (by decide) ?_
  refine RN_goto (pc := 34) (off := 5) (tgt := 39) (by decide +kernel) (by decide) ?_
  exact RN_weak (l := [some (.ref v0), none, some (.int v2), some (.int v3)]) (And.intro rfl (And.intro rfl (And.intro rfl trivial))) (tb_X12_splitsF_39 n v0 v2 v3 (0 : Int64) s0 σ h)
def f_X12_splitsF (n : Nat) (v0 : Nat) (v1 : Int32) (v2 : Int32) (v3 : Int32) (σ : Sg) : Option Sg :=
  ck (okO σ v0 11) <|
  ck (¬ gR σ v0 43 = 0) <|
  nm (gR σ v0 43) fun r23 =>
  ck (okA σ r23 12 v1) <|
  nm (FP.d2l (gD σ r23 v1.toNatClampNeg)) fun x25 =>
  nm (pI σ v0 16 (1 : Int32)) fun σ26 =>
  if (1099511627776 : Int64) < x25 then (
    b_X12_splitsF_33 n v0 v2 v3 v0 σ26)
  else (
    if (-1099511627776 : Int64) ≤ x25 then (
      b_X12_splitsF_39 n v0 v2 v3 x25 v0 σ26)
    else (
      b_X12_splitsF_33 n v0 v2 v3 v0 σ26))
set_option maxRecDepth 20000 in
theorem t_X12_splitsF {G : Gl} {σr : Sg} {n : Nat} {v0 : Nat} {v1 : Int32} {v2 : Int32} {v3 : Int32} {σ : Sg} (h : f_X12_splitsF n v0 v1 v2 v3 σ = some σr) : MT G M_X12_splitsF [.ref v0, .int v1, .int v2, .int v3] σ none σr := by
  refine MT_of rfl rfl (Nat.le_of_ble_eq_true rfl) ?_
  show RN G M_X12_splitsF 0 [some (.ref v0), some (.int v1), some (.int v2), some (.int v3)] [] σ (.inl none) σr
  unfold f_X12_splitsF at h
  refine RN_aload_n (pc := 0) (k := 0) (by decide +kernel) rfl rfl ?_
  obtain ⟨c21, h⟩ := ck_el h
  obtain ⟨c22, h⟩ := ck_el h
  refine RN_getR (pc := 1) (idx := 103) (ci := 11) (k := 43) (by decide +kernel) lf_RX12_103 rfl c21 c22 ?_
  obtain ⟨r23, er23, h⟩ := nm_el h
  refine RN_nmR er23 ?_
  refine RN_iload_n (pc := 4) (k := 1) (by decide +kernel) rfl rfl ?_
  obtain ⟨c24, h⟩ := ck_el h
  refine RN_dald (pc := 5) (by decide +kernel) c24 ?_
  refine RN_d2l (pc := 6) (by decide +kernel) ?_
  obtain ⟨x25, ex25, h⟩ := nm_el h
  refine RN_nmJ ex25 ?_
  refine RN_lstore (pc := 7) (i := 4) (ls2 := [some (.ref v0), some (.int v1), some (.int v2), some (.int v3), some (.long x25), none]) (by decide +kernel) (by decide) rfl ?_
  refine RN_aload_n (pc := 9) (k := 0) (by decide +kernel) rfl rfl ?_
  refine RN_iconst (pc := 10) (n := 1) (v := 1) (by decide +kernel) (by decide) ?_
  refine RN_putI (pc := 11) (idx := 146) (ci := 11) (k := 16) (by decide +kernel) lf_RX12_146 rfl (fun q hq => by cases hq; exact Or.inl rfl) c21 ?_
  obtain ⟨σ26, eσ26, h⟩ := nm_el h
  refine RN_nmS eσ26 ?_
  refine RN_aload_n (pc := 14) (k := 0) (by decide +kernel) rfl rfl ?_
  refine RN_lload (pc := 15) (i := 4) (by decide +kernel) rfl ?_
  refine RN_ldc2 (pc := 17) (idx := 192) (v := 1099511627776) (by decide +kernel) kc_RX12_192 ?_
  refine RN_lc_gt (pc := 20) (off := 12) (tgt := 33) (by decide +kernel) (by decide +kernel) (by decide) (fun c27 => ?_) (fun c27 => ?_)
  · replace h := it_t c27 h
    exact RN_weak (l := [some (.ref v0), none, some (.int v2), some (.int v3)]) (And.intro rfl (And.intro rfl (And.intro rfl trivial))) (tb_X12_splitsF_33 n v0 v2 v3 v0 σ26 h)
  · replace h := it_f c27 h
    refine RN_lload (pc := 24) (i := 4) (by decide +kernel) rfl ?_
    refine RN_ldc2 (pc := 26) (idx := 194) (v := -1099511627776) (by decide +kernel) kc_RX12_194 ?_
    refine RN_lc_ge (pc := 29) (off := 7) (tgt := 37) (by decide +kernel) (by decide +kernel) (by decide) (fun c43 => ?_) (fun c43 => ?_)
    · replace h := it_t c43 h
      refine RN_lload (pc := 37) (i := 4) (by decide +kernel) rfl ?_
      exact RN_weak (l := [some (.ref v0), none, some (.int v2), some (.int v3)]) (And.intro rfl (And.intro rfl (And.intro rfl trivial))) (tb_X12_splitsF_39 n v0 v2 v3 x25 v0 σ26 h)
    · replace h := it_f c43 h
      exact RN_weak (l := [some (.ref v0), none, some (.int v2), some (.int v3)]) (And.intro rfl (And.intro rfl (And.intro rfl trivial))) (tb_X12_splitsF_33 n v0 v2 v3 v0 σ26 h)
def b_X12_keepsF_49 (s0 : UInt64) (s1 : Int32) (s2 : Nat) (σ : Sg) : Option Sg :=
  ck (okW σ s2 12 s1) <|
  nm (pD σ s2 s1.toNatClampNeg s0) fun σ28 =>
  some σ28
set_option maxRecDepth 20000 in
theorem tb_X12_keepsF_49 {G : Gl} {σr : Sg} (s0 : UInt64) (s1 : Int32) (s2 : Nat) (σ : Sg) (h : b_X12_keepsF_49 s0 s1 s2 σ = some σr) : RN G M_X12_keepsF 49 [] [.double s0, .int s1, .ref s2] σ (.inl none) σr := by
  unfold b_X12_keepsF_49 at h
  obtain ⟨c27, h⟩ := ck_el h
  refine RN_dast (pc := 49) (by decide +kernel) c27 ?_
  obtain ⟨σ28, eσ28, h⟩ := nm_el h
  refine RN_nmS eσ28 ?_
  obtain rfl := some_el h
  exact RN_return (by decide +kernel) rfl
def f_X12_keepsF (v0 : Nat) (v1 : Int32) (σ : Sg) : Option Sg :=
  ck (okO σ v0 11) <|
  ck (¬ gR σ v0 43 = 0) <|
  nm (gR σ v0 43) fun r18 =>
  nm (gR σ v0 43) fun r19 =>
  ck (okA σ r19 12 v1) <|
  if (Op.cmpValue (FP.dcmp (gD σ r19 v1.toNatClampNeg) (4832362400168542208 : UInt64)) .l) ≤ 0 then (
    nm (gR σ v0 43) fun r22 =>
    ck (okA σ r22 12 v1) <|
    if 0 ≤ (Op.cmpValue (FP.dcmp (gD σ r22 v1.toNatClampNeg) (14055734437023318016 : UInt64)) .g) then (
      nm (gR σ v0 43) fun r25 =>
      ck (okA σ r25 12 v1) <|
      b_X12_keepsF_49 (gD σ r25 v1.toNatClampNeg) v1 r18 σ)
    else (
      b_X12_keepsF_49 (14055734437023318016 : UInt64) v1 r18 σ))
  else (
    b_X12_keepsF_49 (4832362400168542208 : UInt64) v1 r18 σ)
set_option maxRecDepth 20000 in
theorem t_X12_keepsF {G : Gl} {σr : Sg} {v0 : Nat} {v1 : Int32} {σ : Sg} (h : f_X12_keepsF v0 v1 σ = some σr) : MT G M_X12_keepsF [.ref v0, .int v1] σ none σr := by
  refine MT_of rfl rfl (Nat.le_of_ble_eq_true rfl) ?_
  show RN G M_X12_keepsF 0 [some (.ref v0), some (.int v1)] [] σ (.inl none) σr
  unfold f_X12_keepsF at h
  refine RN_aload_n (pc := 0) (k := 0) (by decide +kernel) rfl rfl ?_
  obtain ⟨c16, h⟩ := ck_el h
  obtain ⟨c17, h⟩ := ck_el h
  refine RN_getR (pc := 1) (idx := 103) (ci := 11) (k := 43) (by decide +kernel) lf_RX12_103 rfl c16 c17 ?_
  obtain ⟨r18, er18, h⟩ := nm_el h
  refine RN_nmR er18 ?_
  refine RN_iload_n (pc := 4) (k := 1) (by decide +kernel) rfl rfl ?_
  refine RN_aload_n (pc := 5) (k := 0) (by decide +kernel) rfl rfl ?_
  refine RN_getR (pc := 6) (idx := 103) (ci := 11) (k := 43) (by decide +kernel) lf_RX12_103 rfl c16 c17 ?_
  obtain ⟨r19, er19, h⟩ := nm_el h
  refine RN_nmR er19 ?_
  refine RN_iload_n (pc := 9) (k := 1) (by decide +kernel) rfl rfl ?_
  obtain ⟨c20, h⟩ := ck_el h
  refine RN_dald (pc := 10) (by decide +kernel) c20 ?_
  refine RN_ldc2d (pc := 11) (idx := 340) (v := 4832362400168542208) (by decide +kernel) kc_RX12_340 ?_
  refine RN_dcmp (pc := 14) (op := .l) (by decide +kernel) ?_
  refine RN_if_le (pc := 15) (off := 9) (tgt := 24) (by decide +kernel) (by decide) (fun c21 => ?_) (fun c21 => ?_)
  · replace h := it_t c21 h
    refine RN_aload_n (pc := 24) (k := 0) (by decide +kernel) rfl rfl ?_
    refine RN_getR (pc := 25) (idx := 103) (ci := 11) (k := 43) (by decide +kernel) lf_RX12_103 rfl c16 c17 ?_
    obtain ⟨r22, er22, h⟩ := nm_el h
    refine RN_nmR er22 ?_
    refine RN_iload_n (pc := 28) (k := 1) (by decide +kernel) rfl rfl ?_
    obtain ⟨c23, h⟩ := ck_el h
    refine RN_dald (pc := 29) (by decide +kernel) c23 ?_
    refine RN_ldc2d (pc := 30) (idx := 342) (v := 14055734437023318016) (by decide +kernel) kc_RX12_342 ?_
    refine RN_dcmp (pc := 33) (op := .g) (by decide +kernel) ?_
    refine RN_if_ge (pc := 34) (off := 9) (tgt := 43) (by decide +kernel) (by decide) (fun c24 => ?_) (fun c24 => ?_)
    · replace h := it_t c24 h
      refine RN_aload_n (pc := 43) (k := 0) (by decide +kernel) rfl rfl ?_
      refine RN_getR (pc := 44) (idx := 103) (ci := 11) (k := 43) (by decide +kernel) lf_RX12_103 rfl c16 c17 ?_
      obtain ⟨r25, er25, h⟩ := nm_el h
      refine RN_nmR er25 ?_
      refine RN_iload_n (pc := 47) (k := 1) (by decide +kernel) rfl rfl ?_
      obtain ⟨c26, h⟩ := ck_el h
      refine RN_dald (pc := 48) (by decide +kernel) c26 ?_
      exact RN_weak (l := []) trivial (tb_X12_keepsF_49 (gD σ r25 v1.toNatClampNeg) v1 r18 σ h)
    · replace h := it_f c24 h
      refine RN_ldc2d (pc := 37) (idx := 342) (v := 14055734437023318016) (by decide +kernel) kc_RX12_342 ?_
      refine RN_goto (pc := 40) (off := 9) (tgt := 49) (by decide +kernel) (by decide) ?_
      exact RN_weak (l := []) trivial (tb_X12_keepsF_49 (14055734437023318016 : UInt64) v1 r18 σ h)
  · replace h := it_f c21 h
    refine RN_ldc2d (pc := 18) (idx := 340) (v := 4832362400168542208) (by decide +kernel) kc_RX12_340 ?_
    refine RN_goto (pc := 21) (off := 28) (tgt := 49) (by decide +kernel) (by decide) ?_
    exact RN_weak (l := []) trivial (tb_X12_keepsF_49 (4832362400168542208 : UInt64) v1 r18 σ h)
