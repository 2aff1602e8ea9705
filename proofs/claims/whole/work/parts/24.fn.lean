def b_X5_book_44 (v0 : Nat) (v1 : Int32) (s0 : Int64) (s1 : Int64) (s2 : Int32) (s3 : Nat) (σ : Sg) : Option (Int32 × Sg) :=
  ck (okW σ s3 14 s2) <|
  nm (pJ σ s3 s2.toNatClampNeg (s1 + s0)) fun σ47 =>
  ck (okO σ47 v0 4) <|
  ck (¬ gR σ47 v0 5 = 0) <|
  nm (gR σ47 v0 5) fun r50 =>
  ck (okA σ47 r50 15 v1) <|
  if (gI σ47 r50 v1.toNatClampNeg) = 0 then (
    some ((0 : Int32), σ47))
  else (
    ck (¬ gR σ47 v0 1 = 0) <|
    nm (gR σ47 v0 1) fun r54 =>
    ck (okO σ47 r54 3) <|
    nm (pI σ47 r54 1 ((gI σ47 r54 1) + (1 : Int32))) fun σ56 =>
    some ((0 : Int32), σ56))
set_option maxRecDepth 20000 in
theorem tb_X5_book_44 {G : Gl} {xr : Int32} {σr : Sg} (v0 : Nat) (v1 : Int32) (s0 : Int64) (s1 : Int64) (s2 : Int32) (s3 : Nat) (σ : Sg) (h : b_X5_book_44 v0 v1 s0 s1 s2 s3 σ = some (xr, σr)) : RN G M_X5_book 44 [some (.ref v0), some (.int v1)] [.long s0, .long s1, .int s2, .ref s3] σ (.inl (some (.int xr))) σr := by
  unfold b_X5_book_44 at h
  refine RN_ladd (pc := 44) (by decide +kernel) ?_
  obtain ⟨c46, h⟩ := ck_el h
  refine RN_last (pc := 45) (by decide +kernel) c46 ?_
  obtain ⟨σ47, eσ47, h⟩ := nm_el h
  refine RN_nmS eσ47 ?_
  refine RN_aload_n (pc := 46) (k := 0) (by decide +kernel) rfl rfl ?_
  obtain ⟨c48, h⟩ := ck_el h
  obtain ⟨c49, h⟩ := ck_el h
  refine RN_getR (pc := 47) (idx := 39) (ci := 4) (k := 5) (by decide +kernel) lf_RX5_39 rfl c48 c49 ?_
  obtain ⟨r50, er50, h⟩ := nm_el h
  refine RN_nmR er50 ?_
  refine RN_iload_n (pc := 50) (k := 1) (by decide +kernel) rfl rfl ?_
  obtain ⟨c51, h⟩ := ck_el h
  refine RN_zald (pc := 51) (by decide +kernel) c51 ?_
  refine RN_if_eq (pc := 52) (off := 16) (tgt := 68) (by decide +kernel) (by decide) (fun c52 => ?_) (fun c52 => ?_)
  · replace h := it_t c52 h
    refine RN_iconst (pc := 68) (n := 0) (v := 0) (by decide +kernel) (by decide) ?_
    obtain ⟨rfl, rfl⟩ := some_el2 h
    exact RN_ireturn (by decide +kernel) rfl
  · replace h := it_f c52 h
    refine RN_aload_n (pc := 55) (k := 0) (by decide +kernel) rfl rfl ?_
    obtain ⟨c53, h⟩ := ck_el h
    refine RN_getR (pc := 56) (idx := 21) (ci := 4) (k := 1) (by decide +kernel) lf_RX5_21 rfl c48 c53 ?_
    obtain ⟨r54, er54, h⟩ := nm_el h
    refine RN_nmR er54 ?_
    refine RN_dup (pc := 59) (by decide +kernel) rfl ?_
    obtain ⟨c55, h⟩ := ck_el h
    refine RN_getI (pc := 60) (idx := 168) (ci := 3) (k := 1) (by decide +kernel) lf_RX5_168 (Or.inl rfl) c55 ?_
    refine RN_iconst (pc := 63) (n := 1) (v := 1) (by decide +kernel) (by decide) ?_
    refine RN_iadd (pc := 64) (by decide +kernel) ?_
    refine RN_putI (pc := 65) (idx := 168) (ci := 3) (k := 1) (by decide +kernel) lf_RX5_168 rfl (fun q hq => by cases hq; exact Or.inl rfl) c55 ?_
    obtain ⟨σ56, eσ56, h⟩ := nm_el h
    refine RN_nmS eσ56 ?_
    refine RN_iconst (pc := 68) (n := 0) (v := 0) (by decide +kernel) (by decide) ?_
    obtain ⟨rfl, rfl⟩ := some_el2 h
    exact RN_ireturn (by decide +kernel) rfl
def f_X5_book (v0 : Nat) (v1 : Int32) (v2 : Int32) (v3 : Int32) (σ : Sg) : Option (Int32 × Sg) :=
  ck (okO σ v0 4) <|
  ck (¬ gR σ v0 4 = 0) <|
  nm (gR σ v0 4) fun r33 =>
  ck (okA σ r33 14 v1) <|
  if (gJ σ r33 v1.toNatClampNeg) = (1 : Int64) then (
    ck (¬ gR σ v0 1 = 0) <|
    nm (gR σ v0 1) fun r37 =>
    ck (okO σ r37 3) <|
    ck (¬ gR σ r37 0 = 0) <|
    nm (gR σ r37 0) fun r40 =>
    ck (okA σ r40 14 v2) <|
    if v3 = 0 then (
      ck (¬ gR σ v0 3 = 0) <|
      nm (gR σ v0 3) fun r58 =>
      ck (okA σ r58 14 v1) <|
      b_X5_book_44 v0 v1 (gJ σ r58 v1.toNatClampNeg) (gJ σ r40 v2.toNatClampNeg) v2 r40 σ)
    else (
      ck (¬ gR σ v0 3 = 0) <|
      nm (gR σ v0 3) fun r44 =>
      ck (okA σ r44 14 v1) <|
      b_X5_book_44 v0 v1 (-(gJ σ r44 v1.toNatClampNeg)) (gJ σ r40 v2.toNatClampNeg) v2 r40 σ))
  else (
    some ((-5 : Int32), σ))
set_option maxRecDepth 20000 in
theorem t_X5_book {G : Gl} {xr : Int32} {σr : Sg} {v0 : Nat} {v1 : Int32} {v2 : Int32} {v3 : Int32} {σ : Sg} (h : f_X5_book v0 v1 v2 v3 σ = some (xr, σr)) : MT G M_X5_book [.ref v0, .int v1, .int v2, .int v3] σ (some (.int xr)) σr := by
  refine MT_of rfl rfl (Nat.le_of_ble_eq_true rfl) ?_
  show RN G M_X5_book 0 [some (.ref v0), some (.int v1), some (.int v2), some (.int v3)] [] σ (.inl (some (.int xr))) σr
  unfold f_X5_book at h
  refine RN_aload_n (pc := 0) (k := 0) (by decide +kernel) rfl rfl ?_
  obtain ⟨c31, h⟩ := ck_el h
  obtain ⟨c32, h⟩ := ck_el h
  refine RN_getR (pc := 1) (idx := 36) (ci := 4) (k := 4) (by decide +kernel) lf_RX5_36 rfl c31 c32 ?_
  obtain ⟨r33, er33, h⟩ := nm_el h
  refine RN_nmR er33 ?_
  refine RN_iload_n (pc := 4) (k := 1) (by decide +kernel) rfl rfl ?_
  obtain ⟨c34, h⟩ := ck_el h
  refine RN_lald (pc := 5) (by decide +kernel) c34 ?_
  refine RN_lconst (pc := 6) (n := 1) (v := 1) (by decide +kernel) (by decide) ?_
  refine RN_lc_eq (pc := 7) (off := 6) (tgt := 14) (by decide +kernel) (by decide +kernel) (by decide) (fun c35 => ?_) (fun c35 => ?_)
  · replace h := it_t c35 h
    refine RN_aload_n (pc := 14) (k := 0) (by decide +kernel) rfl rfl ?_
    obtain ⟨c36, h⟩ := ck_el h
    refine RN_getR (pc := 15) (idx := 21) (ci := 4) (k := 1) (by decide +kernel) lf_RX5_21 rfl c31 c36 ?_
    obtain ⟨r37, er37, h⟩ := nm_el h
    refine RN_nmR er37 ?_
    obtain ⟨c38, h⟩ := ck_el h
    obtain ⟨c39, h⟩ := ck_el h
    refine RN_getR (pc := 18) (idx := 165) (ci := 3) (k := 0) (by decide +kernel) lf_RX5_165 rfl c38 c39 ?_
    obtain ⟨r40, er40, h⟩ := nm_el h
    refine RN_nmR er40 ?_
    refine RN_iload_n (pc := 21) (k := 2) (by decide +kernel) rfl rfl ?_
    refine RN_dup2_11 (pc := 22) (by decide +kernel) rfl rfl ?_
    obtain ⟨c41, h⟩ := ck_el h
    refine RN_lald (pc := 23) (by decide +kernel) c41 ?_
    refine RN_iload_n (pc := 24) (k := 3) (by decide +kernel) rfl rfl ?_
    refine RN_if_ne (pc := 25) (off := 12) (tgt := 37) (by decide +kernel) (by decide) (fun c42 => ?_) (fun c42 => ?_)
    · replace h := it_f c42 h
      refine RN_aload_n (pc := 37) (k := 0) (by decide +kernel) rfl rfl ?_
      obtain ⟨c43, h⟩ := ck_el h
      refine RN_getR (pc := 38) (idx := 32) (ci := 4) (k := 3) (by decide +kernel) lf_RX5_32 rfl c31 c43 ?_
      obtain ⟨r44, er44, h⟩ := nm_el h
      refine RN_nmR er44 ?_
      refine RN_iload_n (pc := 41) (k := 1) (by decide +kernel) rfl rfl ?_
      obtain ⟨c45, h⟩ := ck_el h
      refine RN_lald (pc := 42) (by decide +kernel) c45 ?_
      refine RN_lneg (pc := 43) (by decide +kernel) ?_
      exact RN_weak (l := [some (.ref v0), some (.int v1)]) (And.intro rfl (And.intro rfl trivial)) (tb_X5_book_44 v0 v1 (-(gJ σ r44 v1.toNatClampNeg)) (gJ σ r40 v2.toNatClampNeg) v2 r40 σ h)
    · replace h := it_t c42 h
      refine RN_aload_n (pc := 28) (k := 0) (by decide +kernel) rfl rfl ?_
      obtain ⟨c57, h⟩ := ck_el h
      refine RN_getR (pc := 29) (idx := 32) (ci := 4) (k := 3) (by decide +kernel) lf_RX5_32 rfl c31 c57 ?_
      obtain ⟨r58, er58, h⟩ := nm_el h
      refine RN_nmR er58 ?_
      refine RN_iload_n (pc := 32) (k := 1) (by decide +kernel) rfl rfl ?_
      obtain ⟨c59, h⟩ := ck_el h
      refine RN_lald (pc := 33) (by decide +kernel) c59 ?_
      refine RN_goto (pc := 34) (off := 10) (tgt := 44) (by decide +kernel) (by decide) ?_
      exact RN_weak (l := [some (.ref v0), some (.int v1)]) (And.intro rfl (And.intro rfl trivial)) (tb_X5_book_44 v0 v1 (gJ σ r58 v1.toNatClampNeg) (gJ σ r40 v2.toNatClampNeg) v2 r40 σ h)
  · replace h := it_f c35 h
    refine RN_bipush (pc := 11) (n := -5) (v := -5) (by decide +kernel) (by decide) ?_
    obtain ⟨rfl, rfl⟩ := some_el2 h
    exact RN_ireturn (by decide +kernel) rfl
def b_X5_passDays_3 : Nat → Nat → Int32 → Int64 → Int64 → Int32 → Int32 → Sg → Option (Int32 × Sg)
  | 0, _, _, _, _, _, _, _ => none
  | n + 1, v0, v1, v2, v4, v6, v7, σ =>
  if v6 ≤ v7 then (
    some ((0 : Int32), σ))
  else (
    ck (okO σ v0 4) <|
    ck (¬ gR σ v0 3 = 0) <|
    nm (gR σ v0 3) fun r31 =>
    ck (okA σ r31 14 v1) <|
    ck (¬ gR σ v0 4 = 0) <|
    nm (gR σ v0 4) fun r34 =>
    ck (okA σ r34 14 v1) <|
    bp (f_X3_rounding ((gJ σ r31 v1.toNatClampNeg) * v2) ((gJ σ r34 v1.toNatClampNeg) * v4) (1 : Int64) (1 : Int32)) fun x37 =>
    if x37 = (0 : Int64) then (
      some ((0 : Int32), σ))
    else (
      nm (gR σ v0 3) fun r39 =>
      ck (okA σ r39 14 v1) <|
      nm (gR σ v0 4) fun r41 =>
      ck (okA σ r41 14 v1) <|
      nm ((gJ σ r39 v1.toNatClampNeg) + (x37 * (gJ σ r41 v1.toNatClampNeg))) fun x43 =>
      nm (gR σ v0 4) fun r44 =>
      ck (okA σ r44 14 v1) <|
      bp (f_X3_isSpent x43 (gJ σ r44 v1.toNatClampNeg)) fun x47 =>
      if x47 = 0 then (
        nm (gR σ v0 3) fun r49 =>
        ck (okW σ r49 14 v1) <|
        nm (pJ σ r49 v1.toNatClampNeg x43) fun σ51 =>
        nm (v7 + (1 : Int32)) fun x52 =>
        b_X5_passDays_3 n v0 v1 v2 v4 v6 x52 σ51)
      else (
        some ((-6 : Int32), σ))))
set_option maxRecDepth 20000 in
theorem tb_X5_passDays_3 {G : Gl} {xr : Int32} {σr : Sg} (v0 : Nat) (v1 : Int32) (v2 : Int64) (v4 : Int64) (v6 : Int32) : ∀ (n : Nat) (v7 : Int32) (σ : Sg), b_X5_passDays_3 n v0 v1 v2 v4 v6 v7 σ = some (xr, σr) → RN G M_X5_passDays 3 [some (.ref v0), some (.int v1), some (.long v2), none, some (.long v4), none, some (.int v6), some (.int v7)] [] σ (.inl (some (.int xr))) σr := by
  intro n
  induction n with
  | zero =>
    intro v7 σ h
    exact none_el h
  | succ n ih =>
    intro v7 σ h
    rw [b_X5_passDays_3] at h
    refine RN_iload (pc := 3) (i := 7) (by decide +kernel) rfl ?_
    refine RN_iload (pc := 5) (i := 6) (by decide +kernel) rfl ?_
    refine RN_icmp_ge (pc := 7) (off := 85) (tgt := 92) (by decide +kernel) (by decide) (fun c28 => ?_) (fun c28 => ?_)
    · replace h := it_t c28 h
      refine RN_iconst (pc := 92) (n := 0) (v := 0) (by decide +kernel) (by decide) ?_
      obtain ⟨rfl, rfl⟩ := some_el2 h
      exact RN_ireturn (by decide +kernel) rfl
    · replace h := it_f c28 h
      refine RN_aload_n (pc := 10) (k := 0) (by decide +kernel) rfl rfl ?_
      obtain ⟨c29, h⟩ := ck_el h
      obtain ⟨c30, h⟩ := ck_el h
      refine RN_getR (pc := 11) (idx := 32) (ci := 4) (k := 3) (by decide +kernel) lf_RX5_32 rfl c29 c30 ?_
      obtain ⟨r31, er31, h⟩ := nm_el h
      refine RN_nmR er31 ?_
      refine RN_iload_n (pc := 14) (k := 1) (by decide +kernel) rfl rfl ?_
      obtain ⟨c32, h⟩ := ck_el h
      refine RN_lald (pc := 15) (by decide +kernel) c32 ?_
      refine RN_lload_n (pc := 16) (k := 2) (by decide +kernel) rfl rfl ?_
      refine RN_lmul (pc := 17) (by decide +kernel) ?_
      refine RN_aload_n (pc := 18) (k := 0) (by decide +kernel) rfl rfl ?_
      obtain ⟨c33, h⟩ := ck_el h
      refine RN_getR (pc := 19) (idx := 36) (ci := 4) (k := 4) (by decide +kernel) lf_RX5_36 rfl c29 c33 ?_
      obtain ⟨r34, er34, h⟩ := nm_el h
      refine RN_nmR er34 ?_
      refine RN_iload_n (pc := 22) (k := 1) (by decide +kernel) rfl rfl ?_
      obtain ⟨c35, h⟩ := ck_el h
      refine RN_lald (pc := 23) (by decide +kernel) c35 ?_
      refine RN_lload (pc := 24) (i := 4) (by decide +kernel) rfl ?_
      refine RN_lmul (pc := 26) (by decide +kernel) ?_
      refine RN_lconst (pc := 27) (n := 1) (v := 1) (by decide +kernel) (by decide) ?_
      refine RN_iconst (pc := 28) (n := 1) (v := 1) (by decide +kernel) (by decide) ?_
      obtain ⟨x37, f36, h⟩ := bp_el h
      refine RN_callS (M := M_X5_passDays) (pc := 29) (idx := 117) (as := [.long ((gJ σ r31 v1.toNatClampNeg) * v2), .long ((gJ σ r34 v1.toNatClampNeg) * v4), .long (1 : Int64), .int (1 : Int32)]) (st := []) (t_X3_rounding f36) (by decide +kernel) lk_RX5_117 rfl (Nat.le_of_ble_eq_true rfl) ⟨Nat.le_of_ble_eq_true rfl, Nat.le_of_ble_eq_true rfl⟩ rfl ?_
      show RN G M_X5_passDays 32 [some (.ref v0), some (.int v1), some (.long v2), none, some (.long v4), none, some (.int v6), some (.int v7)] [.long x37] σ _ _
      refine RN_lstore (pc := 32) (i := 8) (ls2 := [some (.ref v0), some (.int v1), some (.long v2), none, some (.long v4), none, some (.int v6), some (.int v7), some (.long x37), none]) (by decide +kernel) (by decide) rfl ?_
      refine RN_lload (pc := 34) (i := 8) (by decide +kernel) rfl ?_
      refine RN_lconst (pc := 36) (n := 0) (v := 0) (by decide +kernel) (by decide) ?_
      refine RN_lc_ne (pc := 37) (off := 5) (tgt := 43) (by decide +kernel) (by decide +kernel) (by decide) (fun c38 => ?_) (fun c38 => ?_)
      · replace h := it_f c38 h
        refine RN_aload_n (pc := 43) (k := 0) (by decide +kernel) rfl rfl ?_
        refine RN_getR (pc := 44) (idx := 32) (ci := 4) (k := 3) (by decide +kernel) lf_RX5_32 rfl c29 c30 ?_
        obtain ⟨r39, er39, h⟩ := nm_el h
        refine RN_nmR er39 ?_
        refine RN_iload_n (pc := 47) (k := 1) (by decide +kernel) rfl rfl ?_
        obtain ⟨c40, h⟩ := ck_el h
        refine RN_lald (pc := 48) (by decide +kernel) c40 ?_
        refine RN_lload (pc := 49) (i := 8) (by decide +kernel) rfl ?_
        refine RN_aload_n (pc := 51) (k := 0) (by decide +kernel) rfl rfl ?_
        refine RN_getR (pc := 52) (idx := 36) (ci := 4) (k := 4) (by decide +kernel) lf_RX5_36 rfl c29 c33 ?_
        obtain ⟨r41, er41, h⟩ := nm_el h
        refine RN_nmR er41 ?_
        refine RN_iload_n (pc := 55) (k := 1) (by decide +kernel) rfl rfl ?_
        obtain ⟨c42, h⟩ := ck_el h
        refine RN_lald (pc := 56) (by decide +kernel) c42 ?_
        refine RN_lmul (pc := 57) (by decide +kernel) ?_
        refine RN_ladd (pc := 58) (by decide +kernel) ?_
        obtain ⟨x43, ex43, h⟩ := nm_el h
        refine RN_nmJ ex43 ?_
        refine RN_lstore (pc := 59) (i := 10) (ls2 := [some (.ref v0), some (.int v1), some (.long v2), none, some (.long v4), none, some (.int v6), some (.int v7), some (.long x37), none, some (.long x43), none]) (by decide +kernel) (by decide) rfl ?_
        refine RN_lload (pc := 61) (i := 10) (by decide +kernel) rfl ?_
        refine RN_aload_n (pc := 63) (k := 0) (by decide +kernel) rfl rfl ?_
        refine RN_getR (pc := 64) (idx := 36) (ci := 4) (k := 4) (by decide +kernel) lf_RX5_36 rfl c29 c33 ?_
        obtain ⟨r44, er44, h⟩ := nm_el h
        refine RN_nmR er44 ?_
        refine RN_iload_n (pc := 67) (k := 1) (by decide +kernel) rfl rfl ?_
        obtain ⟨c45, h⟩ := ck_el h
        refine RN_lald (pc := 68) (by decide +kernel) c45 ?_
        obtain ⟨x47, f46, h⟩ := bp_el h
        refine RN_callS (M := M_X5_passDays) (pc := 69) (idx := 157) (as := [.long x43, .long (gJ σ r44 v1.toNatClampNeg)]) (st := []) (t_X3_isSpent f46) (by decide +kernel) lk_RX5_157 rfl (Nat.le_of_ble_eq_true rfl) ⟨Nat.le_of_ble_eq_true rfl, Nat.le_of_ble_eq_true rfl⟩ rfl ?_
        show RN G M_X5_passDays 72 [some (.ref v0), some (.int v1), some (.long v2), none, some (.long v4), none, some (.int v6), some (.int v7), some (.long x37), none, some (.long x43), none] [.int x47] σ _ _
        refine RN_if_eq (pc := 72) (off := 6) (tgt := 78) (by decide +kernel) (by decide) (fun c48 => ?_) (fun c48 => ?_)
        · replace h := it_t c48 h
          refine RN_aload_n (pc := 78) (k := 0) (by decide +kernel) rfl rfl ?_
          refine RN_getR (pc := 79) (idx := 32) (ci := 4) (k := 3) (by decide +kernel) lf_RX5_32 rfl c29 c30 ?_
          obtain ⟨r49, er49, h⟩ := nm_el h
          refine RN_nmR er49 ?_
          refine RN_iload_n (pc := 82) (k := 1) (by decide +kernel) rfl rfl ?_
          refine RN_lload (pc := 83) (i := 10) (by decide +kernel) rfl ?_
          obtain ⟨c50, h⟩ := ck_el h
          refine RN_last (pc := 85) (by decide +kernel) c50 ?_
          obtain ⟨σ51, eσ51, h⟩ := nm_el h
          refine RN_nmS eσ51 ?_
          obtain ⟨x52, ex52, h⟩ := nm_el h
          refine RN_iinc (pc := 86) (i := 7) (n := 1) (v := x52) (ls2 := [some (.ref v0), some (.int v1), some (.long v2), none, some (.long v4), none, some (.int v6), some (.int x52), some (.long x37), none, some (.long x43), none]) (by decide +kernel) rfl (by rw [ex52]; rfl) (by decide) rfl ?_
          refine RN_goto (pc := 89) (off := -86) (tgt := 3) (by decide +kernel) (by decide) ?_
          exact RN_weak (l := [some (.ref v0), some (.int v1), some (.long v2), none, some (.long v4), none, some (.int v6), some (.int x52)]) (And.intro rfl (And.intro rfl (And.intro rfl (And.intro rfl (And.intro rfl (And.intro rfl trivial)))))) (ih x52 σ51 h)
        · replace h := it_f c48 h
          refine RN_bipush (pc := 75) (n := -6) (v := -6) (by decide +kernel) (by decide) ?_
          obtain ⟨rfl, rfl⟩ := some_el2 h
          exact RN_ireturn (by decide +kernel) rfl
      · replace h := it_t c38 h
        refine RN_iconst (pc := 41) (n := 0) (v := 0) (by decide +kernel) (by decide) ?_
        obtain ⟨rfl, rfl⟩ := some_el2 h
        exact RN_ireturn (by decide +kernel) rfl
def f_X5_passDays (n : Nat) (v0 : Nat) (v1 : Int32) (v2 : Int64) (v4 : Int64) (v6 : Int32) (σ : Sg) : Option (Int32 × Sg) :=
  b_X5_passDays_3 n v0 v1 v2 v4 v6 (0 : Int32) σ
set_option maxRecDepth 20000 in
theorem t_X5_passDays {G : Gl} {xr : Int32} {σr : Sg} {n : Nat} {v0 : Nat} {v1 : Int32} {v2 : Int64} {v4 : Int64} {v6 : Int32} {σ : Sg} (h : f_X5_passDays n v0 v1 v2 v4 v6 σ = some (xr, σr)) : MT G M_X5_passDays [.ref v0, .int v1, .long v2, .long v4, .int v6] σ (some (.int xr)) σr := by
  refine MT_of rfl rfl (Nat.le_of_ble_eq_true rfl) ?_
  show RN G M_X5_passDays 0 [some (.ref v0), some (.int v1), some (.long v2), none, some (.long v4), none, some (.int v6)] [] σ (.inl (some (.int xr))) σr
  unfold f_X5_passDays at h
  refine RN_iconst (pc := 0) (n := 0) (v := 0) (by decide +kernel) (by decide) ?_
  refine RN_istore (pc := 1) (i := 7) (ls2 := [some (.ref v0), some (.int v1), some (.long v2), none, some (.long v4), none, some (.int v6), some (.int (0 : Int32))]) (by decide +kernel) (by decide) rfl ?_
  exact RN_weak (l := [some (.ref v0), some (.int v1), some (.long v2), none, some (.long v4), none, some (.int v6), some (.int (0 : Int32))]) (And.intro rfl (And.intro rfl (And.intro rfl (And.intro rfl (And.intro rfl (And.intro rfl trivial)))))) (tb_X5_passDays_3 v0 v1 v2 v4 v6 n (0 : Int32) σ h)
def b_X5_step_344 (n : Nat) (s0 : Int32) (s1 : Int64) (s2 : Int64) (s3 : Int32) (s4 : Nat) (σ : Sg) : Option (Int32 × Sg) :=
  ck (okO σ s4 4) <|
  bd (f_X5_become n s4 s3 s2 s1 s0 σ) fun x314 σ313 =>
  some (x314, σ313)
set_option maxRecDepth 20000 in
theorem tb_X5_step_344 {G : Gl} {xr : Int32} {σr : Sg} (n : Nat) (s0 : Int32) (s1 : Int64) (s2 : Int64) (s3 : Int32) (s4 : Nat) (σ : Sg) (h : b_X5_step_344 n s0 s1 s2 s3 s4 σ = some (xr, σr)) : RN G M_X5_step 344 [] [.int s0, .long s1, .long s2, .int s3, .ref s4] σ (.inl (some (.int xr))) σr := by
  unfold b_X5_step_344 at h
  obtain ⟨c311, h⟩ := ck_el h
  obtain ⟨x314, σ313, f312, h⟩ := bd_el h
  refine RN_callV (M := M_X5_step) (pc := 344) (idx := 113) (as := [.int s3, .long s2, .long s1, .int s0]) (st := []) (t_X5_become f312) (by decide +kernel) lk_RX5_113 rfl ⟨by decide, fun q hq => by cases hq; rfl⟩ c311 (Nat.le_of_ble_eq_true rfl) ⟨Nat.le_of_ble_eq_true rfl, Nat.le_of_ble_eq_true rfl⟩ rfl ?_
  show RN G M_X5_step 347 [] [.int x314] σ313 _ _
  obtain ⟨rfl, rfl⟩ := some_el2 h
  exact RN_ireturn (by decide +kernel) rfl
def b_X5_step_339 (n : Nat) (s0 : Int64) (s1 : Int64) (s2 : Int32) (s3 : Nat) (σ : Sg) : Option (Int32 × Sg) :=
  b_X5_step_344 n (1 : Int32) s0 s1 s2 s3 σ
set_option maxRecDepth 20000 in
theorem tb_X5_step_339 {G : Gl} {xr : Int32} {σr : Sg} (n : Nat) (s0 : Int64) (s1 : Int64) (s2 : Int32) (s3 : Nat) (σ : Sg) (h : b_X5_step_339 n s0 s1 s2 s3 σ = some (xr, σr)) : RN G M_X5_step 339 [] [.long s0, .long s1, .int s2, .ref s3] σ (.inl (some (.int xr))) σr := by
  unfold b_X5_step_339 at h
  refine RN_iconst (pc := 339) (n := 1) (v := 1) (by decide +kernel) (by decide) ?_
  refine RN_goto (pc := 340) (off := 4) (tgt := 344) (by decide +kernel) (by decide) ?_
  exact RN_weak (l := []) trivial (tb_X5_step_344 n (1 : Int32) s0 s1 s2 s3 σ h)
def b_X5_step_269 (n : Nat) (v0 : Nat) (v4 : Int32) (v5 : Int32) (s0 : Int64) (σ : Sg) : Option (Int32 × Sg) :=
  ck (okO σ v0 4) <|
  ck (¬ gR σ v0 3 = 0) <|
  nm (gR σ v0 3) fun r295 =>
  ck (okA σ r295 14 v4) <|
  ck (¬ gR σ v0 4 = 0) <|
  nm (gR σ v0 4) fun r298 =>
  ck (okA σ r298 14 v5) <|
  nm (gR σ v0 4) fun r300 =>
  ck (okA σ r300 14 v4) <|
  nm (((gJ σ r295 v4.toNatClampNeg) * (gJ σ r298 v5.toNatClampNeg)) + (s0 * (gJ σ r300 v4.toNatClampNeg))) fun x302 =>
  nm (gR σ v0 4) fun r303 =>
  ck (okA σ r303 14 v4) <|
  nm (gR σ v0 4) fun r305 =>
  ck (okA σ r305 14 v5) <|
  ck (¬ gR σ v0 5 = 0) <|
  nm (gR σ v0 5) fun r308 =>
  ck (okA σ r308 15 v4) <|
  if (gI σ r308 v4.toNatClampNeg) = 0 then (
    nm (gR σ v0 5) fun r315 =>
    ck (okA σ r315 15 v5) <|
    if (gI σ r315 v5.toNatClampNeg) = 0 then (
      b_X5_step_344 n (0 : Int32) ((gJ σ r303 v4.toNatClampNeg) * (gJ σ r305 v5.toNatClampNeg)) x302 v4 v0 σ)
    else (
      b_X5_step_339 n ((gJ σ r303 v4.toNatClampNeg) * (gJ σ r305 v5.toNatClampNeg)) x302 v4 v0 σ))
  else (
    b_X5_step_339 n ((gJ σ r303 v4.toNatClampNeg) * (gJ σ r305 v5.toNatClampNeg)) x302 v4 v0 σ)
set_option maxRecDepth 20000 in
theorem tb_X5_step_269 {G : Gl} {xr : Int32} {σr : Sg} (n : Nat) (v0 : Nat) (v4 : Int32) (v5 : Int32) (s0 : Int64) (σ : Sg) (h : b_X5_step_269 n v0 v4 v5 s0 σ = some (xr, σr)) : RN G M_X5_step 269 [some (.ref v0), none, none, none, some (.int v4), some (.int v5)] [.long s0] σ (.inl (some (.int xr))) σr := by
  unfold b_X5_step_269 at h
  refine RN_lstore (pc := 269) (i := 7) (ls2 := [some (.ref v0), none, none, none, some (.int v4), some (.int v5), none, some (.long s0), none]) (by decide +kernel) (by decide) rfl ?_
  refine RN_aload_n (pc := 271) (k := 0) (by decide +kernel) rfl rfl ?_
  obtain ⟨c293, h⟩ := ck_el h
  obtain ⟨c294, h⟩ := ck_el h
  refine RN_getR (pc := 272) (idx := 32) (ci := 4) (k := 3) (by decide +kernel) lf_RX5_32 rfl c293 c294 ?_
  obtain ⟨r295, er295, h⟩ := nm_el h
  refine RN_nmR er295 ?_
  refine RN_iload (pc := 275) (i := 4) (by decide +kernel) rfl ?_
  obtain ⟨c296, h⟩ := ck_el h
  refine RN_lald (pc := 277) (by decide +kernel) c296 ?_
  refine RN_aload_n (pc := 278) (k := 0) (by decide +kernel) rfl rfl ?_
  obtain ⟨c297, h⟩ := ck_el h
  refine RN_getR (pc := 279) (idx := 36) (ci := 4) (k := 4) (by decide +kernel) lf_RX5_36 rfl c293 c297 ?_
  obtain ⟨r298, er298, h⟩ := nm_el h
  refine RN_nmR er298 ?_
  refine RN_iload (pc := 282) (i := 5) (by decide +kernel) rfl ?_
  obtain ⟨c299, h⟩ := ck_el h
  refine RN_lald (pc := 284) (by decide +kernel) c299 ?_
  refine RN_lmul (pc := 285) (by decide +kernel) ?_
  refine RN_lload (pc := 286) (i := 7) (by decide +kernel) rfl ?_
  refine RN_aload_n (pc := 288) (k := 0) (by decide +kernel) rfl rfl ?_
  refine RN_getR (pc := 289) (idx := 36) (ci := 4) (k := 4) (by decide +kernel) lf_RX5_36 rfl c293 c297 ?_
  obtain ⟨r300, er300, h⟩ := nm_el h
  refine RN_nmR er300 ?_
  refine RN_iload (pc := 292) (i := 4) (by decide +kernel) rfl ?_
  obtain ⟨c301, h⟩ := ck_el h
  refine RN_lald (pc := 294) (by decide +kernel) c301 ?_
  refine RN_lmul (pc := 295) (by decide +kernel) ?_
  refine RN_ladd (pc := 296) (by decide +kernel) ?_
  obtain ⟨x302, ex302, h⟩ := nm_el h
  refine RN_nmJ ex302 ?_
  refine RN_lstore (pc := 297) (i := 9) (ls2 := [some (.ref v0), none, none, none, some (.int v4), some (.int v5), none, some (.long s0), none, some (.long x302), none]) (by decide +kernel) (by decide) rfl ?_
  refine RN_aload_n (pc := 299) (k := 0) (by decide +kernel) rfl rfl ?_
  refine RN_iload (pc := 300) (i := 4) (by decide +kernel) rfl ?_
  refine RN_lload (pc := 302) (i := 9) (by decide +kernel) rfl ?_
  refine RN_aload_n (pc := 304) (k := 0) (by decide +kernel) rfl rfl ?_
  refine RN_getR (pc := 305) (idx := 36) (ci := 4) (k := 4) (by decide +kernel) lf_RX5_36 rfl c293 c297 ?_
  obtain ⟨r303, er303, h⟩ := nm_el h
  refine RN_nmR er303 ?_
  refine RN_iload (pc := 308) (i := 4) (by decide +kernel) rfl ?_
  obtain ⟨c304, h⟩ := ck_el h
  refine RN_lald (pc := 310) (by decide +kernel) c304 ?_
  refine RN_aload_n (pc := 311) (k := 0) (by decide +kernel) rfl rfl ?_
  refine RN_getR (pc := 312) (idx := 36) (ci := 4) (k := 4) (by decide +kernel) lf_RX5_36 rfl c293 c297 ?_
  obtain ⟨r305, er305, h⟩ := nm_el h
  refine RN_nmR er305 ?_
  refine RN_iload (pc := 315) (i := 5) (by decide +kernel) rfl ?_
  obtain ⟨c306, h⟩ := ck_el h
  refine RN_lald (pc := 317) (by decide +kernel) c306 ?_
  refine RN_lmul (pc := 318) (by decide +kernel) ?_
  refine RN_aload_n (pc := 319) (k := 0) (by decide +kernel) rfl rfl ?_
  obtain ⟨c307, h⟩ := ck_el h
  refine RN_getR (pc := 320) (idx := 39) (ci := 4) (k := 5) (by decide +kernel) lf_RX5_39 rfl c293 c307 ?_
  obtain ⟨r308, er308, h⟩ := nm_el h
  refine RN_nmR er308 ?_
  refine RN_iload (pc := 323) (i := 4) (by decide +kernel) rfl ?_
  obtain ⟨c309, h⟩ := ck_el h
  refine RN_zald (pc := 325) (by decide +kernel) c309 ?_
  refine RN_if_ne (pc := 326) (off := 13) (tgt := 339) (by decide +kernel) (by decide) (fun c310 => ?_) (fun c310 => ?_)
  · replace h := it_f c310 h
    exact RN_weak (l := []) trivial (tb_X5_step_339 n ((gJ σ r303 v4.toNatClampNeg) * (gJ σ r305 v5.toNatClampNeg)) x302 v4 v0 σ h)
  · replace h := it_t c310 h
    refine RN_aload_n (pc := 329) (k := 0) (by decide +kernel) rfl rfl ?_
    refine RN_getR (pc := 330) (idx := 39) (ci := 4) (k := 5) (by decide +kernel) lf_RX5_39 rfl c293 c307 ?_
    obtain ⟨r315, er315, h⟩ := nm_el h
    refine RN_nmR er315 ?_
    refine RN_iload (pc := 333) (i := 5) (by decide +kernel) rfl ?_
    obtain ⟨c316, h⟩ := ck_el h
    refine RN_zald (pc := 335) (by decide +kernel) c316 ?_
    refine RN_if_eq (pc := 336) (off := 7) (tgt := 343) (by decide +kernel) (by decide) (fun c317 => ?_) (fun c317 => ?_)
    · replace h := it_t c317 h
      refine RN_iconst (pc := 343) (n := 0) (v := 0) (by decide +kernel) (by decide) ?_
      exact RN_weak (l := []) trivial (tb_X5_step_344 n (0 : Int32) ((gJ σ r303 v4.toNatClampNeg) * (gJ σ r305 v5.toNatClampNeg)) x302 v4 v0 σ h)
    · replace h := it_f c317 h
      exact RN_weak (l := []) trivial (tb_X5_step_339 n ((gJ σ r303 v4.toNatClampNeg) * (gJ σ r305 v5.toNatClampNeg)) x302 v4 v0 σ h)
def f_X5_step (n : Nat) (v0 : Nat) (v1 : Nat) (v2 : Int32) (v3 : Nat) (σ : Sg) : Option (Int32 × Sg) :=
  ck (okO σ v1 5) <|
  ck (¬ gR σ v1 1 = 0) <|
  nm (gR σ v1 1) fun r197 =>
  ck (okA σ r197 13 v2) <|
  nm (gI σ r197 v2.toNatClampNeg) fun x199 =>
  ck (¬ gR σ v1 2 = 0) <|
  nm (gR σ v1 2) fun r201 =>
  ck (okA σ r201 13 v2) <|
  nm (gI σ r201 v2.toNatClampNeg) fun x203 =>
  ck (¬ gR σ v1 3 = 0) <|
  nm (gR σ v1 3) fun r205 =>
  ck (okA σ r205 13 v2) <|
  nm (gI σ r205 v2.toNatClampNeg) fun x207 =>
  ck (¬ gR σ v1 0 = 0) <|
  nm (gR σ v1 0) fun r209 =>
  ck (okA σ r209 13 v2) <|
  if (gI σ r209 v2.toNatClampNeg) = 0 then (
    ck (okO σ v0 4) <|
    bp (f_X5_sumOfLines n v0 σ) fun x214 =>
    bd (f_X5_becomeWhole v0 x199 x214 (0 : Int32) σ) fun x217 σ216 =>
    some (x217, σ216))
  else (
  if (gI σ r209 v2.toNatClampNeg) = 1 then (
    ck (okO σ v3 7) <|
    ck (¬ gR σ v3 0 = 0) <|
    nm (gR σ v3 0) fun r221 =>
    ck (okA σ r221 13 x203) <|
    ck (¬ gR σ v3 1 = 0) <|
    nm (gR σ v3 1) fun r224 =>
    ck (okA σ r224 13 x203) <|
    ck (okO σ v0 4) <|
    bd (f_X5_taxLines n v0 ((gI σ r221 x203.toNatClampNeg).toInt64) ((gI σ r224 x203.toNatClampNeg).toInt64) x207 σ) fun x229 σ228 =>
    ck (okO σ228 v0 4) <|
    bd (f_X5_becomeWhole v0 x199 x229 (0 : Int32) σ228) fun x233 σ232 =>
    some (x233, σ232))
  else (
  if (gI σ r209 v2.toNatClampNeg) = 2 then (
    ck (okO σ v3 7) <|
    ck (¬ gR σ v3 0 = 0) <|
    nm (gR σ v3 0) fun r237 =>
    ck (okA σ r237 13 x203) <|
    ck (¬ gR σ v3 1 = 0) <|
    nm (gR σ v3 1) fun r240 =>
    ck (okA σ r240 13 x203) <|
    ck (okO σ v0 4) <|
    bd (f_X5_flowLines n v0 ((gI σ r237 x203.toNatClampNeg).toInt64) ((gI σ r240 x203.toNatClampNeg).toInt64) x207 σ) fun x245 σ244 =>
    ck (okO σ244 v0 4) <|
    bd (f_X5_becomeWhole v0 x199 x245 (0 : Int32) σ244) fun x249 σ248 =>
    some (x249, σ248))
  else (
  if (gI σ r209 v2.toNatClampNeg) = 3 then (
    ck (okO σ v0 4) <|
    ck (¬ gR σ v0 3 = 0) <|
    nm (gR σ v0 3) fun r253 =>
    ck (okA σ r253 14 x203) <|
    ck (okO σ v3 7) <|
    ck (¬ gR σ v3 0 = 0) <|
    nm (gR σ v3 0) fun r257 =>
    ck (okA σ r257 13 x207) <|
    ck (¬ gR σ v0 4 = 0) <|
    nm (gR σ v0 4) fun r260 =>
    ck (okA σ r260 14 x203) <|
    ck (¬ gR σ v3 1 = 0) <|
    nm (gR σ v3 1) fun r263 =>
    ck (okA σ r263 13 x207) <|
    ck (¬ gR σ v0 5 = 0) <|
    nm (gR σ v0 5) fun r266 =>
    ck (okA σ r266 15 x203) <|
    bd (f_X5_become n v0 x199 ((gJ σ r253 x203.toNatClampNeg) * ((gI σ r257 x207.toNatClampNeg).toInt64)) ((gJ σ r260 x203.toNatClampNeg) * ((gI σ r263 x207.toNatClampNeg).toInt64)) (gI σ r266 x203.toNatClampNeg) σ) fun x270 σ269 =>
    some (x270, σ269))
  else (
  if (gI σ r209 v2.toNatClampNeg) = 4 then (
    ck (okO σ v0 4) <|
    ck (¬ gR σ v0 3 = 0) <|
    nm (gR σ v0 3) fun r274 =>
    ck (okA σ r274 14 x199) <|
    ck (¬ gR σ v0 4 = 0) <|
    nm (gR σ v0 4) fun r277 =>
    ck (okA σ r277 14 x199) <|
    bp (f_X3_rounding (gJ σ r274 x199.toNatClampNeg) (gJ σ r277 x199.toNatClampNeg) (x207.toInt64) x203) fun x280 =>
    ck (¬ gR σ v0 5 = 0) <|
    nm (gR σ v0 5) fun r282 =>
    ck (okA σ r282 15 x199) <|
    bd (f_X5_becomeWhole v0 x199 x280 (gI σ r282 x199.toNatClampNeg) σ) fun x286 σ285 =>
    some (x286, σ285))
  else (
  if (gI σ r209 v2.toNatClampNeg) = 5 then (
    if x207 = 0 then (
      ck (okO σ v0 4) <|
      ck (¬ gR σ v0 3 = 0) <|
      nm (gR σ v0 3) fun r320 =>
      ck (okA σ r320 14 x203) <|
      b_X5_step_269 n v0 x199 x203 (gJ σ r320 x203.toNatClampNeg) σ)
    else (
      ck (okO σ v0 4) <|
      ck (¬ gR σ v0 3 = 0) <|
      nm (gR σ v0 3) fun r291 =>
      ck (okA σ r291 14 x203) <|
      b_X5_step_269 n v0 x199 x203 (-(gJ σ r291 x203.toNatClampNeg)) σ))
  else (
  if (gI σ r209 v2.toNatClampNeg) = 6 then (
    ck (okO σ v0 4) <|
    ck (¬ gR σ v0 4 = 0) <|
    nm (gR σ v0 4) fun r325 =>
    ck (okA σ r325 14 x199) <|
    if (gJ σ r325 x199.toNatClampNeg) = (1 : Int64) then (
      ck (¬ gR σ v0 5 = 0) <|
      nm (gR σ v0 5) fun r329 =>
      ck (okA σ r329 15 x199) <|
      ck ((gI σ r329 x199.toNatClampNeg) = 0 ∨ (gI σ r329 x199.toNatClampNeg) = 1) <|
      nm (pI σ v0 10 (gI σ r329 x199.toNatClampNeg)) fun σ332 =>
      ck (okO σ332 v0 4) <|
      ck (¬ gR σ332 v0 2 = 0) <|
      nm (gR σ332 v0 2) fun r335 =>
      ck (¬ gR σ332 v0 3 = 0) <|
      nm (gR σ332 v0 3) fun r337 =>
      ck (okA σ332 r337 14 x199) <|
      ck (okO σ332 v3 7) <|
      ck (¬ gR σ332 v3 2 = 0) <|
      nm (gR σ332 v3 2) fun r341 =>
      ck (okA σ332 r341 18 x207) <|
      ck (¬ gR σ332 r341 x207.toNatClampNeg = 0) <|
      nm (gR σ332 r341 x207.toNatClampNeg) fun r344 =>
      ck (¬ gR σ332 v3 3 = 0) <|
      nm (gR σ332 v3 3) fun r346 =>
      ck (okA σ332 r346 13 x207) <|
      ck (okO σ332 r335 6) <|
      bp (f_X7_divide n r335 (gJ σ332 r337 x199.toNatClampNeg) x203 r344 (gI σ332 r346 x207.toNatClampNeg) σ332) fun σ350 =>
      some ((0 : Int32), σ350))
    else (
      some ((-5 : Int32), σ)))
  else (
  if (gI σ r209 v2.toNatClampNeg) = 7 then (
    ck (okO σ v0 4) <|
    ck (¬ gR σ v0 2 = 0) <|
    nm (gR σ v0 2) fun r354 =>
    ck (okO σ r354 6) <|
    ck (¬ gR σ r354 0 = 0) <|
    nm (gR σ r354 0) fun r357 =>
    ck (okA σ r357 14 x203) <|
    bd (f_X5_becomeWhole v0 x199 (gJ σ r357 x203.toNatClampNeg) (gI σ v0 10) σ) fun x361 σ360 =>
    some (x361, σ360))
  else (
  if (gI σ r209 v2.toNatClampNeg) = 8 then (
    ck (okO σ v0 4) <|
    bd (f_X5_carry n v0 x199 σ) fun x366 σ365 =>
    some (x366, σ365))
  else (
  if (gI σ r209 v2.toNatClampNeg) = 9 then (
    ck (okO σ v0 4) <|
    bd (f_X5_cap v0 x199 x203 (x207.toInt64) σ) fun x371 σ370 =>
    some (x371, σ370))
  else (
  if (gI σ r209 v2.toNatClampNeg) = 10 then (
    ck (okO σ v0 4) <|
    bd (f_X5_book v0 x199 x203 x207 σ) fun x376 σ375 =>
    some (x376, σ375))
  else (
  if (gI σ r209 v2.toNatClampNeg) = 11 then (
    ck (okO σ v0 4) <|
    ck (¬ gR σ v0 3 = 0) <|
    nm (gR σ v0 3) fun r380 =>
    ck (okA σ r380 14 x203) <|
    ck (¬ gR σ v0 4 = 0) <|
    nm (gR σ v0 4) fun r383 =>
    ck (okA σ r383 14 x203) <|
    bp (f_X3_rounding (gJ σ r380 x203.toNatClampNeg) (gJ σ r383 x203.toNatClampNeg) (1 : Int64) x207) fun x386 =>
    bd (f_X5_becomeWhole v0 x199 x386 (1 : Int32) σ) fun x389 σ388 =>
    some (x389, σ388))
  else (
    ck (okO σ v3 7) <|
    ck (¬ gR σ v3 0 = 0) <|
    nm (gR σ v3 0) fun r392 =>
    ck (okA σ r392 13 x203) <|
    ck (¬ gR σ v3 1 = 0) <|
    nm (gR σ v3 1) fun r395 =>
    ck (okA σ r395 13 x203) <|
    ck (okO σ v0 4) <|
    bd (f_X5_passDays n v0 x199 ((gI σ r392 x203.toNatClampNeg).toInt64) ((gI σ r395 x203.toNatClampNeg).toInt64) x207 σ) fun x400 σ399 =>
    some (x400, σ399)))))))))))))
set_option maxRecDepth 20000 in
theorem t_X5_step {G : Gl} {xr : Int32} {σr : Sg} {n : Nat} {v0 : Nat} {v1 : Nat} {v2 : Int32} {v3 : Nat} {σ : Sg} (h : f_X5_step n v0 v1 v2 v3 σ = some (xr, σr)) : MT G M_X5_step [.ref v0, .ref v1, .int v2, .ref v3] σ (some (.int xr)) σr := by
  refine MT_of rfl rfl (Nat.le_of_ble_eq_true rfl) ?_
  show RN G M_X5_step 0 [some (.ref v0), some (.ref v1), some (.int v2), some (.ref v3)] [] σ (.inl (some (.int xr))) σr
  unfold f_X5_step at h
  refine RN_aload_n (pc := 0) (k := 1) (by decide +kernel) rfl rfl ?_
  obtain ⟨c195, h⟩ := ck_el h
  obtain ⟨c196, h⟩ := ck_el h
  refine RN_getR (pc := 1) (idx := 77) (ci := 5) (k := 1) (by decide +kernel) lf_RX5_77 rfl c195 c196 ?_
  obtain ⟨r197, er197, h⟩ := nm_el h
  refine RN_nmR er197 ?_
  refine RN_iload_n (pc := 4) (k := 2) (by decide +kernel) rfl rfl ?_
  obtain ⟨c198, h⟩ := ck_el h
  refine RN_iald (pc := 5) (by decide +kernel) c198 ?_
  obtain ⟨x199, ex199, h⟩ := nm_el h
  refine RN_nmI ex199 ?_
  refine RN_istore (pc := 6) (i := 4) (ls2 := [some (.ref v0), some (.ref v1), some (.int v2), some (.ref v3), some (.int x199)]) (by decide +kernel) (by decide) rfl ?_
  refine RN_aload_n (pc := 8) (k := 1) (by decide +kernel) rfl rfl ?_
  obtain ⟨c200, h⟩ := ck_el h
  refine RN_getR (pc := 9) (idx := 81) (ci := 5) (k := 2) (by decide +kernel) lf_RX5_81 rfl c195 c200 ?_
  obtain ⟨r201, er201, h⟩ := nm_el h
  refine RN_nmR er201 ?_
  refine RN_iload_n (pc := 12) (k := 2) (by decide +kernel) rfl rfl ?_
  obtain ⟨c202, h⟩ := ck_el h
  refine RN_iald (pc := 13) (by decide +kernel) c202 ?_
  obtain ⟨x203, ex203, h⟩ := nm_el h
  refine RN_nmI ex203 ?_
  refine RN_istore (pc := 14) (i := 5) (ls2 := [some (.ref v0), some (.ref v1), some (.int v2), some (.ref v3), some (.int x199), some (.int x203)]) (by decide +kernel) (by decide) rfl ?_
  refine RN_aload_n (pc := 16) (k := 1) (by decide +kernel) rfl rfl ?_
  obtain ⟨c204, h⟩ := ck_el h
  refine RN_getR (pc := 17) (idx := 84) (ci := 5) (k := 3) (by decide +kernel) lf_RX5_84 rfl c195 c204 ?_
  obtain ⟨r205, er205, h⟩ := nm_el h
  refine RN_nmR er205 ?_
  refine RN_iload_n (pc := 20) (k := 2) (by decide +kernel) rfl rfl ?_
  obtain ⟨c206, h⟩ := ck_el h
  refine RN_iald (pc := 21) (by decide +kernel) c206 ?_
  obtain ⟨x207, ex207, h⟩ := nm_el h
  refine RN_nmI ex207 ?_
  refine RN_istore (pc := 22) (i := 6) (ls2 := [some (.ref v0), some (.ref v1), some (.int v2), some (.ref v3), some (.int x199), some (.int x203), some (.int x207)]) (by decide +kernel) (by decide) rfl ?_
  refine RN_aload_n (pc := 24) (k := 1) (by decide +kernel) rfl rfl ?_
  obtain ⟨c208, h⟩ := ck_el h
  refine RN_getR (pc := 25) (idx := 87) (ci := 5) (k := 0) (by decide +kernel) lf_RX5_87 rfl c195 c208 ?_
  obtain ⟨r209, er209, h⟩ := nm_el h
  refine RN_nmR er209 ?_
  refine RN_iload_n (pc := 28) (k := 2) (by decide +kernel) rfl rfl ?_
  obtain ⟨c210, h⟩ := ck_el h
  refine RN_iald (pc := 29) (by decide +kernel) c210 ?_
  by_cases c211 : (gI σ r209 v2.toNatClampNeg) = 0
  · replace h := it_t c211 h
    refine RN_tsw (pc := 30) (dflt := 455) (lo := 0) (hi := 11) (offs := #[62, 74, 104, 134, 180, 216, 318, 376, 397, 404, 416, 427]) (len := 62) (v := 0) (off := 62) (tgt := 92) c211 (by decide +kernel) (by decide) (by decide) (by decide +kernel) (by decide) ?_
    refine RN_aload_n (pc := 92) (k := 0) (by decide +kernel) rfl rfl ?_
    refine RN_iload (pc := 93) (i := 4) (by decide +kernel) rfl ?_
    refine RN_aload_n (pc := 95) (k := 0) (by decide +kernel) rfl rfl ?_
    obtain ⟨c212, h⟩ := ck_el h
    obtain ⟨x214, f213, h⟩ := bp_el h
    refine RN_callV (M := M_X5_step) (pc := 96) (idx := 90) (as := []) (st := [.int x199, .ref v0]) (t_X5_sumOfLines f213) (by decide +kernel) lk_RX5_90 rfl ⟨by decide, fun q hq => by cases hq; rfl⟩ c212 (Nat.le_of_ble_eq_true rfl) ⟨Nat.le_of_ble_eq_true rfl, Nat.le_of_ble_eq_true rfl⟩ rfl ?_
    show RN G M_X5_step 99 [some (.ref v0), some (.ref v1), some (.int v2), some (.ref v3), some (.int x199), some (.int x203), some (.int x207)] [.long x214, .int x199, .ref v0] σ _ _
    refine RN_iconst (pc := 99) (n := 0) (v := 0) (by decide +kernel) (by decide) ?_
    obtain ⟨x217, σ216, f215, h⟩ := bd_el h
    refine RN_callV (M := M_X5_step) (pc := 100) (idx := 94) (as := [.int x199, .long x214, .int (0 : Int32)]) (st := []) (t_X5_becomeWhole f215) (by decide +kernel) lk_RX5_94 rfl ⟨by decide, fun q hq => by cases hq; rfl⟩ c212 (Nat.le_of_ble_eq_true rfl) ⟨Nat.le_of_ble_eq_true rfl, Nat.le_of_ble_eq_true rfl⟩ rfl ?_
    show RN G M_X5_step 103 [some (.ref v0), some (.ref v1), some (.int v2), some (.ref v3), some (.int x199), some (.int x203), some (.int x207)] [.int x217] σ216 _ _
    obtain ⟨rfl, rfl⟩ := some_el2 h
    exact RN_ireturn (by decide +kernel) rfl
  · replace h := it_f c211 h
    by_cases c218 : (gI σ r209 v2.toNatClampNeg) = 1
    · replace h := it_t c218 h
      refine RN_tsw (pc := 30) (dflt := 455) (lo := 0) (hi := 11) (offs := #[62, 74, 104, 134, 180, 216, 318, 376, 397, 404, 416, 427]) (len := 62) (v := 1) (off := 74) (tgt := 104) c218 (by decide +kernel) (by decide) (by decide) (by decide +kernel) (by decide) ?_
      refine RN_aload_n (pc := 104) (k := 0) (by decide +kernel) rfl rfl ?_
      refine RN_iload (pc := 105) (i := 4) (by decide +kernel) rfl ?_
      refine RN_aload_n (pc := 107) (k := 0) (by decide +kernel) rfl rfl ?_
      refine RN_aload_n (pc := 108) (k := 3) (by decide +kernel) rfl rfl ?_
      obtain ⟨c219, h⟩ := ck_el h
      obtain ⟨c220, h⟩ := ck_el h
      refine RN_getR (pc := 109) (idx := 98) (ci := 7) (k := 0) (by decide +kernel) lf_RX5_98 rfl c219 c220 ?_
      obtain ⟨r221, er221, h⟩ := nm_el h
      refine RN_nmR er221 ?_
      refine RN_iload (pc := 112) (i := 5) (by decide +kernel) rfl ?_
      obtain ⟨c222, h⟩ := ck_el h
      refine RN_iald (pc := 114) (by decide +kernel) c222 ?_
      refine RN_i2l (pc := 115) (by decide +kernel) ?_
      refine RN_aload_n (pc := 116) (k := 3) (by decide +kernel) rfl rfl ?_
      obtain ⟨c223, h⟩ := ck_el h
      refine RN_getR (pc := 117) (idx := 103) (ci := 7) (k := 1) (by decide +kernel) lf_RX5_103 rfl c219 c223 ?_
      obtain ⟨r224, er224, h⟩ := nm_el h
      refine RN_nmR er224 ?_
      refine RN_iload (pc := 120) (i := 5) (by decide +kernel) rfl ?_
      obtain ⟨c225, h⟩ := ck_el h
      refine RN_iald (pc := 122) (by decide +kernel) c225 ?_
      refine RN_i2l (pc := 123) (by decide +kernel) ?_
      refine RN_iload (pc := 124) (i := 6) (by decide +kernel) rfl ?_
      obtain ⟨c226, h⟩ := ck_el h
      obtain ⟨x229, σ228, f227, h⟩ := bd_el h
      refine RN_callV (M := M_X5_step) (pc := 126) (idx := 106) (as := [.long ((gI σ r221 x203.toNatClampNeg).toInt64), .long ((gI σ r224 x203.toNatClampNeg).toInt64), .int x207]) (st := [.int x199, .ref v0]) (t_X5_taxLines f227) (by decide +kernel) lk_RX5_106 rfl ⟨by decide, fun q hq => by cases hq; rfl⟩ c226 (Nat.le_of_ble_eq_true rfl) ⟨Nat.le_of_ble_eq_true rfl, Nat.le_of_ble_eq_true rfl⟩ rfl ?_
      show RN G M_X5_step 129 [some (.ref v0), some (.ref v1), some (.int v2), some (.ref v3), some (.int x199), some (.int x203), some (.int x207)] [.long x229, .int x199, .ref v0] σ228 _ _
      refine RN_iconst (pc := 129) (n := 0) (v := 0) (by decide +kernel) (by decide) ?_
      obtain ⟨c230, h⟩ := ck_el h
      obtain ⟨x233, σ232, f231, h⟩ := bd_el h
      refine RN_callV (M := M_X5_step) (pc := 130) (idx := 94) (as := [.int x199, .long x229, .int (0 : Int32)]) (st := []) (t_X5_becomeWhole f231) (by decide +kernel) lk_RX5_94 rfl ⟨by decide, fun q hq => by cases hq; rfl⟩ c230 (Nat.le_of_ble_eq_true rfl) ⟨Nat.le_of_ble_eq_true rfl, Nat.le_of_ble_eq_true rfl⟩ rfl ?_
      show RN G M_X5_step 133 [some (.ref v0), some (.ref v1), some (.int v2), some (.ref v3), some (.int x199), some (.int x203), some (.int x207)] [.int x233] σ232 _ _
      obtain ⟨rfl, rfl⟩ := some_el2 h
      exact RN_ireturn (by decide +kernel) rfl
    · replace h := it_f c218 h
      by_cases c234 : (gI σ r209 v2.toNatClampNeg) = 2
      · replace h := it_t c234 h
        refine RN_tsw (pc := 30) (dflt := 455) (lo := 0) (hi := 11) (offs := #[62, 74, 104, 134, 180, 216, 318, 376, 397, 404, 416, 427]) (len := 62) (v := 2) (off := 104) (tgt := 134) c234 (by decide +kernel) (by decide) (by decide) (by decide +kernel) (by decide) ?_
        refine RN_aload_n (pc := 134) (k := 0) (by decide +kernel) rfl rfl ?_
        refine RN_iload (pc := 135) (i := 4) (by decide +kernel) rfl ?_
        refine RN_aload_n (pc := 137) (k := 0) (by decide +kernel) rfl rfl ?_
        refine RN_aload_n (pc := 138) (k := 3) (by decide +kernel) rfl rfl ?_
        obtain ⟨c235, h⟩ := ck_el h
        obtain ⟨c236, h⟩ := ck_el h
        refine RN_getR (pc := 139) (idx := 98) (ci := 7) (k := 0) (by decide +kernel) lf_RX5_98 rfl c235 c236 ?_
        obtain ⟨r237, er237, h⟩ := nm_el h
        refine RN_nmR er237 ?_
        refine RN_iload (pc := 142) (i := 5) (by decide +kernel) rfl ?_
        obtain ⟨c238, h⟩ := ck_el h
        refine RN_iald (pc := 144) (by decide +kernel) c238 ?_
        refine RN_i2l (pc := 145) (by decide +kernel) ?_
        refine RN_aload_n (pc := 146) (k := 3) (by decide +kernel) rfl rfl ?_
        obtain ⟨c239, h⟩ := ck_el h
        refine RN_getR (pc := 147) (idx := 103) (ci := 7) (k := 1) (by decide +kernel) lf_RX5_103 rfl c235 c239 ?_
        obtain ⟨r240, er240, h⟩ := nm_el h
        refine RN_nmR er240 ?_
        refine RN_iload (pc := 150) (i := 5) (by decide +kernel) rfl ?_
        obtain ⟨c241, h⟩ := ck_el h
        refine RN_iald (pc := 152) (by decide +kernel) c241 ?_
        refine RN_i2l (pc := 153) (by decide +kernel) ?_
        refine RN_iload (pc := 154) (i := 6) (by decide +kernel) rfl ?_
        obtain ⟨c242, h⟩ := ck_el h
        obtain ⟨x245, σ244, f243, h⟩ := bd_el h
        refine RN_callV (M := M_X5_step) (pc := 156) (idx := 110) (as := [.long ((gI σ r237 x203.toNatClampNeg).toInt64), .long ((gI σ r240 x203.toNatClampNeg).toInt64), .int x207]) (st := [.int x199, .ref v0]) (t_X5_flowLines f243) (by decide +kernel) lk_RX5_110 rfl ⟨by decide, fun q hq => by cases hq; rfl⟩ c242 (Nat.le_of_ble_eq_true rfl) ⟨Nat.le_of_ble_eq_true rfl, Nat.le_of_ble_eq_true rfl⟩ rfl ?_
        show RN G M_X5_step 159 [some (.ref v0), some (.ref v1), some (.int v2), some (.ref v3), some (.int x199), some (.int x203), some (.int x207)] [.long x245, .int x199, .ref v0] σ244 _ _
        refine RN_iconst (pc := 159) (n := 0) (v := 0) (by decide +kernel) (by decide) ?_
        obtain ⟨c246, h⟩ := ck_el h
        obtain ⟨x249, σ248, f247, h⟩ := bd_el h
        refine RN_callV (M := M_X5_step) (pc := 160) (idx := 94) (as := [.int x199, .long x245, .int (0 : Int32)]) (st := []) (t_X5_becomeWhole f247) (by decide +kernel) lk_RX5_94 rfl ⟨by decide, fun q hq => by cases hq; rfl⟩ c246 (Nat.le_of_ble_eq_true rfl) ⟨Nat.le_of_ble_eq_true rfl, Nat.le_of_ble_eq_true rfl⟩ rfl ?_
        show RN G M_X5_step 163 [some (.ref v0), some (.ref v1), some (.int v2), some (.ref v3), some (.int x199), some (.int x203), some (.int x207)] [.int x249] σ248 _ _
        obtain ⟨rfl, rfl⟩ := some_el2 h
        exact RN_ireturn (by decide +kernel) rfl
      · replace h := it_f c234 h
        by_cases c250 : (gI σ r209 v2.toNatClampNeg) = 3
        · replace h := it_t c250 h
          refine RN_tsw (pc := 30) (dflt := 455) (lo := 0) (hi := 11) (offs := #[62, 74, 104, 134, 180, 216, 318, 376, 397, 404, 416, 427]) (len := 62) (v := 3) (off := 134) (tgt := 164) c250 (by decide +kernel) (by decide) (by decide) (by decide +kernel) (by decide) ?_
          refine RN_aload_n (pc := 164) (k := 0) (by decide +kernel) rfl rfl ?_
          refine RN_iload (pc := 165) (i := 4) (by decide +kernel) rfl ?_
          refine RN_aload_n (pc := 167) (k := 0) (by decide +kernel) rfl rfl ?_
          obtain ⟨c251, h⟩ := ck_el h
          obtain ⟨c252, h⟩ := ck_el h
          refine RN_getR (pc := 168) (idx := 32) (ci := 4) (k := 3) (by decide +kernel) lf_RX5_32 rfl c251 c252 ?_
          obtain ⟨r253, er253, h⟩ := nm_el h
          refine RN_nmR er253 ?_
          refine RN_iload (pc := 171) (i := 5) (by decide +kernel) rfl ?_
          obtain ⟨c254, h⟩ := ck_el h
          refine RN_lald (pc := 173) (by decide +kernel) c254 ?_
          refine RN_aload_n (pc := 174) (k := 3) (by decide +kernel) rfl rfl ?_
          obtain ⟨c255, h⟩ := ck_el h
          obtain ⟨c256, h⟩ := ck_el h
          refine RN_getR (pc := 175) (idx := 98) (ci := 7) (k := 0) (by decide +kernel) lf_RX5_98 rfl c255 c256 ?_
          obtain ⟨r257, er257, h⟩ := nm_el h
          refine RN_nmR er257 ?_
          refine RN_iload (pc := 178) (i := 6) (by decide +kernel) rfl ?_
          obtain ⟨c258, h⟩ := ck_el h
          refine RN_iald (pc := 180) (by decide +kernel) c258 ?_
          refine RN_i2l (pc := 181) (by decide +kernel) ?_
          refine RN_lmul (pc := 182) (by decide +kernel) ?_
          refine RN_aload_n (pc := 183) (k := 0) (by decide +kernel) rfl rfl ?_
          obtain ⟨c259, h⟩ := ck_el h
          refine RN_getR (pc := 184) (idx := 36) (ci := 4) (k := 4) (by decide +kernel) lf_RX5_36 rfl c251 c259 ?_
          obtain ⟨r260, er260, h⟩ := nm_el h
          refine RN_nmR er260 ?_
          refine RN_iload (pc := 187) (i := 5) (by decide +kernel) rfl ?_
          obtain ⟨c261, h⟩ := ck_el h
          refine RN_lald (pc := 189) (by decide +kernel) c261 ?_
          refine RN_aload_n (pc := 190) (k := 3) (by decide +kernel) rfl rfl ?_
          obtain ⟨c262, h⟩ := ck_el h
          refine RN_getR (pc := 191) (idx := 103) (ci := 7) (k := 1) (by decide +kernel) lf_RX5_103 rfl c255 c262 ?_
          obtain ⟨r263, er263, h⟩ := nm_el h
          refine RN_nmR er263 ?_
          refine RN_iload (pc := 194) (i := 6) (by decide +kernel) rfl ?_
          obtain ⟨c264, h⟩ := ck_el h
          refine RN_iald (pc := 196) (by decide +kernel) c264 ?_
          refine RN_i2l (pc := 197) (by decide +kernel) ?_
          refine RN_lmul (pc := 198) (by decide +kernel) ?_
          refine RN_aload_n (pc := 199) (k := 0) (by decide +kernel) rfl rfl ?_
          obtain ⟨c265, h⟩ := ck_el h
          refine RN_getR (pc := 200) (idx := 39) (ci := 4) (k := 5) (by decide +kernel) lf_RX5_39 rfl c251 c265 ?_
          obtain ⟨r266, er266, h⟩ := nm_el h
          refine RN_nmR er266 ?_
          refine RN_iload (pc := 203) (i := 5) (by decide +kernel) rfl ?_
          obtain ⟨c267, h⟩ := ck_el h
          refine RN_zald (pc := 205) (by decide +kernel) c267 ?_
          obtain ⟨x270, σ269, f268, h⟩ := bd_el h
          refine RN_callV (M := M_X5_step) (pc := 206) (idx := 113) (as := [.int x199, .long ((gJ σ r253 x203.toNatClampNeg) * ((gI σ r257 x207.toNatClampNeg).toInt64)), .long ((gJ σ r260 x203.toNatClampNeg) * ((gI σ r263 x207.toNatClampNeg).toInt64)), .int (gI σ r266 x203.toNatClampNeg)]) (st := []) (t_X5_become f268) (by decide +kernel) lk_RX5_113 rfl ⟨by decide, fun q hq => by cases hq; rfl⟩ c251 (Nat.le_of_ble_eq_true rfl) ⟨Nat.le_of_ble_eq_true rfl, Nat.le_of_ble_eq_true rfl⟩ rfl ?_
          show RN G M_X5_step 209 [some (.ref v0), some (.ref v1), some (.int v2), some (.ref v3), some (.int x199), some (.int x203), some (.int x207)] [.int x270] σ269 _ _
          obtain ⟨rfl, rfl⟩ := some_el2 h
          exact RN_ireturn (by decide +kernel) rfl
        · replace h := it_f c250 h
          by_cases c271 : (gI σ r209 v2.toNatClampNeg) = 4
          · replace h := it_t c271 h
            refine RN_tsw (pc := 30) (dflt := 455) (lo := 0) (hi := 11) (offs := #[62, 74, 104, 134, 180, 216, 318, 376, 397, 404, 416, 427]) (len := 62) (v := 4) (off := 180) (tgt := 210) c271 (by decide +kernel) (by decide) (by decide) (by decide +kernel) (by decide) ?_
            refine RN_aload_n (pc := 210) (k := 0) (by decide +kernel) rfl rfl ?_
            refine RN_iload (pc := 211) (i := 4) (by decide +kernel) rfl ?_
            refine RN_aload_n (pc := 213) (k := 0) (by decide +kernel) rfl rfl ?_
            obtain ⟨c272, h⟩ := ck_el h
            obtain ⟨c273, h⟩ := ck_el h
            refine RN_getR (pc := 214) (idx := 32) (ci := 4) (k := 3) (by decide +kernel) lf_RX5_32 rfl c272 c273 ?_
            obtain ⟨r274, er274, h⟩ := nm_el h
            refine RN_nmR er274 ?_
            refine RN_iload (pc := 217) (i := 4) (by decide +kernel) rfl ?_
            obtain ⟨c275, h⟩ := ck_el h
            refine RN_lald (pc := 219) (by decide +kernel) c275 ?_
            refine RN_aload_n (pc := 220) (k := 0) (by decide +kernel) rfl rfl ?_
            obtain ⟨c276, h⟩ := ck_el h
            refine RN_getR (pc := 221) (idx := 36) (ci := 4) (k := 4) (by decide +kernel) lf_RX5_36 rfl c272 c276 ?_
            obtain ⟨r277, er277, h⟩ := nm_el h
            refine RN_nmR er277 ?_
            refine RN_iload (pc := 224) (i := 4) (by decide +kernel) rfl ?_
            obtain ⟨c278, h⟩ := ck_el h
            refine RN_lald (pc := 226) (by decide +kernel) c278 ?_
            refine RN_iload (pc := 227) (i := 6) (by decide +kernel) rfl ?_
            refine RN_i2l (pc := 229) (by decide +kernel) ?_
            refine RN_iload (pc := 230) (i := 5) (by decide +kernel) rfl ?_
            obtain ⟨x280, f279, h⟩ := bp_el h
            refine RN_callS (M := M_X5_step) (pc := 232) (idx := 117) (as := [.long (gJ σ r274 x199.toNatClampNeg), .long (gJ σ r277 x199.toNatClampNeg), .long (x207.toInt64), .int x203]) (st := [.int x199, .ref v0]) (t_X3_rounding f279) (by decide +kernel) lk_RX5_117 rfl (Nat.le_of_ble_eq_true rfl) ⟨Nat.le_of_ble_eq_true rfl, Nat.le_of_ble_eq_true rfl⟩ rfl ?_
            show RN G M_X5_step 235 [some (.ref v0), some (.ref v1), some (.int v2), some (.ref v3), some (.int x199), some (.int x203), some (.int x207)] [.long x280, .int x199, .ref v0] σ _ _
            refine RN_aload_n (pc := 235) (k := 0) (by decide +kernel) rfl rfl ?_
            obtain ⟨c281, h⟩ := ck_el h
            refine RN_getR (pc := 236) (idx := 39) (ci := 4) (k := 5) (by decide +kernel) lf_RX5_39 rfl c272 c281 ?_
            obtain ⟨r282, er282, h⟩ := nm_el h
            refine RN_nmR er282 ?_
            refine RN_iload (pc := 239) (i := 4) (by decide +kernel) rfl ?_
            obtain ⟨c283, h⟩ := ck_el h
            refine RN_zald (pc := 241) (by decide +kernel) c283 ?_
            obtain ⟨x286, σ285, f284, h⟩ := bd_el h
            refine RN_callV (M := M_X5_step) (pc := 242) (idx := 94) (as := [.int x199, .long x280, .int (gI σ r282 x199.toNatClampNeg)]) (st := []) (t_X5_becomeWhole f284) (by decide +kernel) lk_RX5_94 rfl ⟨by decide, fun q hq => by cases hq; rfl⟩ c272 (Nat.le_of_ble_eq_true rfl) ⟨Nat.le_of_ble_eq_true rfl, Nat.le_of_ble_eq_true rfl⟩ rfl ?_
            show RN G M_X5_step 245 [some (.ref v0), some (.ref v1), some (.int v2), some (.ref v3), some (.int x199), some (.int x203), some (.int x207)] [.int x286] σ285 _ _
            obtain ⟨rfl, rfl⟩ := some_el2 h
            exact RN_ireturn (by decide +kernel) rfl
          · replace h := it_f c271 h
            by_cases c287 : (gI σ r209 v2.toNatClampNeg) = 5
            · replace h := it_t c287 h
              refine RN_tsw (pc := 30) (dflt := 455) (lo := 0) (hi := 11) (offs := #[62, 74, 104, 134, 180, 216, 318, 376, 397, 404, 416, 427]) (len := 62) (v := 5) (off := 216) (tgt := 246) c287 (by decide +kernel) (by decide) (by decide) (by decide +kernel) (by decide) ?_
              refine RN_iload (pc := 246) (i := 6) (by decide +kernel) rfl ?_
              refine RN_if_ne (pc := 248) (off := 13) (tgt := 261) (by decide +kernel) (by decide) (fun c288 => ?_) (fun c288 => ?_)
              · replace h := it_f c288 h
                refine RN_aload_n (pc := 261) (k := 0) (by decide +kernel) rfl rfl ?_
                obtain ⟨c289, h⟩ := ck_el h
                obtain ⟨c290, h⟩ := ck_el h
                refine RN_getR (pc := 262) (idx := 32) (ci := 4) (k := 3) (by decide +kernel) lf_RX5_32 rfl c289 c290 ?_
                obtain ⟨r291, er291, h⟩ := nm_el h
                refine RN_nmR er291 ?_
                refine RN_iload (pc := 265) (i := 5) (by decide +kernel) rfl ?_
                obtain ⟨c292, h⟩ := ck_el h
                refine RN_lald (pc := 267) (by decide +kernel) c292 ?_
                refine RN_lneg (pc := 268) (by decide +kernel) ?_
                exact RN_weak (l := [some (.ref v0), none, none, none, some (.int x199), some (.int x203)]) (And.intro rfl (And.intro rfl (And.intro rfl trivial))) (tb_X5_step_269 n v0 x199 x203 (-(gJ σ r291 x203.toNatClampNeg)) σ h)
              · replace h := it_t c288 h
                refine RN_aload_n (pc := 251) (k := 0) (by decide +kernel) rfl rfl ?_
                obtain ⟨c318, h⟩ := ck_el h
                obtain ⟨c319, h⟩ := ck_el h
                refine RN_getR (pc := 252) (idx := 32) (ci := 4) (k := 3) (by decide +kernel) lf_RX5_32 rfl c318 c319 ?_
                obtain ⟨r320, er320, h⟩ := nm_el h
                refine RN_nmR er320 ?_
                refine RN_iload (pc := 255) (i := 5) (by decide +kernel) rfl ?_
                obtain ⟨c321, h⟩ := ck_el h
                refine RN_lald (pc := 257) (by decide +kernel) c321 ?_
                refine RN_goto (pc := 258) (off := 11) (tgt := 269) (by decide +kernel) (by decide) ?_
                exact RN_weak (l := [some (.ref v0), none, none, none, some (.int x199), some (.int x203)]) (And.intro rfl (And.intro rfl (And.intro rfl trivial))) (tb_X5_step_269 n v0 x199 x203 (gJ σ r320 x203.toNatClampNeg) σ h)
            · replace h := it_f c287 h
              by_cases c322 : (gI σ r209 v2.toNatClampNeg) = 6
              · replace h := it_t c322 h
                refine RN_tsw (pc := 30) (dflt := 455) (lo := 0) (hi := 11) (offs := #[62, 74, 104, 134, 180, 216, 318, 376, 397, 404, 416, 427]) (len := 62) (v := 6) (off := 318) (tgt := 348) c322 (by decide +kernel) (by decide) (by decide) (by decide +kernel) (by decide) ?_
                refine RN_aload_n (pc := 348) (k := 0) (by decide +kernel) rfl rfl ?_
                obtain ⟨c323, h⟩ := ck_el h
                obtain ⟨c324, h⟩ := ck_el h
                refine RN_getR (pc := 349) (idx := 36) (ci := 4) (k := 4) (by decide +kernel) lf_RX5_36 rfl c323 c324 ?_
                obtain ⟨r325, er325, h⟩ := nm_el h
                refine RN_nmR er325 ?_
                refine RN_iload (pc := 352) (i := 4) (by decide +kernel) rfl ?_
                obtain ⟨c326, h⟩ := ck_el h
                refine RN_lald (pc := 354) (by decide +kernel) c326 ?_
                refine RN_lconst (pc := 355) (n := 1) (v := 1) (by decide +kernel) (by decide) ?_
                refine RN_lc_eq (pc := 356) (off := 6) (tgt := 363) (by decide +kernel) (by decide +kernel) (by decide) (fun c327 => ?_) (fun c327 => ?_)
                · replace h := it_t c327 h
                  refine RN_aload_n (pc := 363) (k := 0) (by decide +kernel) rfl rfl ?_
                  refine RN_aload_n (pc := 364) (k := 0) (by decide +kernel) rfl rfl ?_
                  obtain ⟨c328, h⟩ := ck_el h
                  refine RN_getR (pc := 365) (idx := 39) (ci := 4) (k := 5) (by decide +kernel) lf_RX5_39 rfl c323 c328 ?_
                  obtain ⟨r329, er329, h⟩ := nm_el h
                  refine RN_nmR er329 ?_
                  refine RN_iload (pc := 368) (i := 4) (by decide +kernel) rfl ?_
                  obtain ⟨c330, h⟩ := ck_el h
                  refine RN_zald (pc := 370) (by decide +kernel) c330 ?_
                  obtain ⟨c331, h⟩ := ck_el h
                  refine RN_putZ (pc := 371) (idx := 54) (ci := 4) (k := 10) (by decide +kernel) lf_RX5_54 rfl (fun q hq => by cases hq; exact Or.inl rfl) c331 c323 ?_
                  obtain ⟨σ332, eσ332, h⟩ := nm_el h
                  refine RN_nmS eσ332 ?_
                  refine RN_aload_n (pc := 374) (k := 0) (by decide +kernel) rfl rfl ?_
                  obtain ⟨c333, h⟩ := ck_el h
                  obtain ⟨c334, h⟩ := ck_el h
                  refine RN_getR (pc := 375) (idx := 28) (ci := 4) (k := 2) (by decide +kernel) lf_RX5_28 rfl c333 c334 ?_
                  obtain ⟨r335, er335, h⟩ := nm_el h
                  refine RN_nmR er335 ?_
                  refine RN_aload_n (pc := 378) (k := 0) (by decide +kernel) rfl rfl ?_
                  obtain ⟨c336, h⟩ := ck_el h
                  refine RN_getR (pc := 379) (idx := 32) (ci := 4) (k := 3) (by decide +kernel) lf_RX5_32 rfl c333 c336 ?_
                  obtain ⟨r337, er337, h⟩ := nm_el h
                  refine RN_nmR er337 ?_
                  refine RN_iload (pc := 382) (i := 4) (by decide +kernel) rfl ?_
                  obtain ⟨c338, h⟩ := ck_el h
                  refine RN_lald (pc := 384) (by decide +kernel) c338 ?_
                  refine RN_iload (pc := 385) (i := 5) (by decide +kernel) rfl ?_
                  refine RN_aload_n (pc := 387) (k := 3) (by decide +kernel) rfl rfl ?_
                  obtain ⟨c339, h⟩ := ck_el h
                  obtain ⟨c340, h⟩ := ck_el h
                  refine RN_getR (pc := 388) (idx := 123) (ci := 7) (k := 2) (by decide +kernel) lf_RX5_123 rfl c339 c340 ?_
                  obtain ⟨r341, er341, h⟩ := nm_el h
                  refine RN_nmR er341 ?_
                  refine RN_iload (pc := 391) (i := 6) (by decide +kernel) rfl ?_
                  obtain ⟨c342, h⟩ := ck_el h
                  obtain ⟨c343, h⟩ := ck_el h
                  refine RN_aald18 (pc := 393) (by decide +kernel) c342 c343 ?_
                  obtain ⟨r344, er344, h⟩ := nm_el h
                  refine RN_nmR er344 ?_
                  refine RN_aload_n (pc := 394) (k := 3) (by decide +kernel) rfl rfl ?_
                  obtain ⟨c345, h⟩ := ck_el h
                  refine RN_getR (pc := 395) (idx := 127) (ci := 7) (k := 3) (by decide +kernel) lf_RX5_127 rfl c339 c345 ?_
                  obtain ⟨r346, er346, h⟩ := nm_el h
                  refine RN_nmR er346 ?_
                  refine RN_iload (pc := 398) (i := 6) (by decide +kernel) rfl ?_
                  obtain ⟨c347, h⟩ := ck_el h
                  refine RN_iald (pc := 400) (by decide +kernel) c347 ?_
                  obtain ⟨c348, h⟩ := ck_el h
                  obtain ⟨σ350, f349, h⟩ := bp_el h
                  refine RN_callV (M := M_X5_step) (pc := 401) (idx := 130) (as := [.long (gJ σ332 r337 x199.toNatClampNeg), .int x203, .ref r344, .int (gI σ332 r346 x207.toNatClampNeg)]) (st := []) (t_X7_divide f349) (by decide +kernel) lk_RX5_130 rfl ⟨by decide, fun q hq => by cases hq; rfl⟩ c348 (Nat.le_of_ble_eq_true rfl) ⟨Nat.le_of_ble_eq_true rfl, Nat.le_of_ble_eq_true rfl⟩ rfl ?_
                  show RN G M_X5_step 404 [some (.ref v0), some (.ref v1), some (.int v2), some (.ref v3), some (.int x199), some (.int x203), some (.int x207)] [] σ350 _ _
                  refine RN_iconst (pc := 404) (n := 0) (v := 0) (by decide +kernel) (by decide) ?_
                  obtain ⟨rfl, rfl⟩ := some_el2 h
                  exact RN_ireturn (by decide +kernel) rfl
                · replace h := it_f c327 h
                  refine RN_bipush (pc := 360) (n := -5) (v := -5) (by decide +kernel) (by decide) ?_
                  obtain ⟨rfl, rfl⟩ := some_el2 h
                  exact RN_ireturn (by decide +kernel) rfl
              · replace h := it_f c322 h
                by_cases c351 : (gI σ r209 v2.toNatClampNeg) = 7
                · replace h := it_t c351 h
                  refine RN_tsw (pc := 30) (dflt := 455) (lo := 0) (hi := 11) (offs := #[62, 74, 104, 134, 180, 216, 318, 376, 397, 404, 416, 427]) (len := 62) (v := 7) (off := 376) (tgt := 406) c351 (by decide +kernel) (by decide) (by decide) (by decide +kernel) (by decide) ?_
                  refine RN_aload_n (pc := 406) (k := 0) (by decide +kernel) rfl rfl ?_
                  refine RN_iload (pc := 407) (i := 4) (by decide +kernel) rfl ?_
                  refine RN_aload_n (pc := 409) (k := 0) (by decide +kernel) rfl rfl ?_
                  obtain ⟨c352, h⟩ := ck_el h
                  obtain ⟨c353, h⟩ := ck_el h
                  refine RN_getR (pc := 410) (idx := 28) (ci := 4) (k := 2) (by decide +kernel) lf_RX5_28 rfl c352 c353 ?_
                  obtain ⟨r354, er354, h⟩ := nm_el h
                  refine RN_nmR er354 ?_
                  obtain ⟨c355, h⟩ := ck_el h
                  obtain ⟨c356, h⟩ := ck_el h
                  refine RN_getR (pc := 413) (idx := 134) (ci := 6) (k := 0) (by decide +kernel) lf_RX5_134 rfl c355 c356 ?_
                  obtain ⟨r357, er357, h⟩ := nm_el h
                  refine RN_nmR er357 ?_
                  refine RN_iload (pc := 416) (i := 5) (by decide +kernel) rfl ?_
                  obtain ⟨c358, h⟩ := ck_el h
                  refine RN_lald (pc := 418) (by decide +kernel) c358 ?_
                  refine RN_aload_n (pc := 419) (k := 0) (by decide +kernel) rfl rfl ?_
                  refine RN_getI (pc := 420) (idx := 54) (ci := 4) (k := 10) (by decide +kernel) lf_RX5_54 (Or.inr rfl) c352 ?_
                  obtain ⟨x361, σ360, f359, h⟩ := bd_el h
                  refine RN_callV (M := M_X5_step) (pc := 423) (idx := 94) (as := [.int x199, .long (gJ σ r357 x203.toNatClampNeg), .int (gI σ v0 10)]) (st := []) (t_X5_becomeWhole f359) (by decide +kernel) lk_RX5_94 rfl ⟨by decide, fun q hq => by cases hq; rfl⟩ c352 (Nat.le_of_ble_eq_true rfl) ⟨Nat.le_of_ble_eq_true rfl, Nat.le_of_ble_eq_true rfl⟩ rfl ?_
                  show RN G M_X5_step 426 [some (.ref v0), some (.ref v1), some (.int v2), some (.ref v3), some (.int x199), some (.int x203), some (.int x207)] [.int x361] σ360 _ _
                  obtain ⟨rfl, rfl⟩ := some_el2 h
                  exact RN_ireturn (by decide +kernel) rfl
                · replace h := it_f c351 h
                  by_cases c362 : (gI σ r209 v2.toNatClampNeg) = 8
                  · replace h := it_t c362 h
                    refine RN_tsw (pc := 30) (dflt := 455) (lo := 0) (hi := 11) (offs := #[62, 74, 104, 134, 180, 216, 318, 376, 397, 404, 416, 427]) (len := 62) (v := 8) (off := 397) (tgt := 427) c362 (by decide +kernel) (by decide) (by decide) (by decide +kernel) (by decide) ?_
                    refine RN_aload_n (pc := 427) (k := 0) (by decide +kernel) rfl rfl ?_
                    refine RN_iload (pc := 428) (i := 4) (by decide +kernel) rfl ?_
                    obtain ⟨c363, h⟩ := ck_el h
                    obtain ⟨x366, σ365, f364, h⟩ := bd_el h
                    refine RN_callV (M := M_X5_step) (pc := 430) (idx := 137) (as := [.int x199]) (st := []) (t_X5_carry f364) (by decide +kernel) lk_RX5_137 rfl ⟨by decide, fun q hq => by cases hq; rfl⟩ c363 (Nat.le_of_ble_eq_true rfl) ⟨Nat.le_of_ble_eq_true rfl, Nat.le_of_ble_eq_true rfl⟩ rfl ?_
                    show RN G M_X5_step 433 [some (.ref v0), some (.ref v1), some (.int v2), some (.ref v3), some (.int x199), some (.int x203), some (.int x207)] [.int x366] σ365 _ _
                    obtain ⟨rfl, rfl⟩ := some_el2 h
                    exact RN_ireturn (by decide +kernel) rfl
                  · replace h := it_f c362 h
                    by_cases c367 : (gI σ r209 v2.toNatClampNeg) = 9
                    · replace h := it_t c367 h
                      refine RN_tsw (pc := 30) (dflt := 455) (lo := 0) (hi := 11) (offs := #[62, 74, 104, 134, 180, 216, 318, 376, 397, 404, 416, 427]) (len := 62) (v := 9) (off := 404) (tgt := 434) c367 (by decide +kernel) (by decide) (by decide) (by decide +kernel) (by decide) ?_
                      refine RN_aload_n (pc := 434) (k := 0) (by decide +kernel) rfl rfl ?_
                      refine RN_iload (pc := 435) (i := 4) (by decide +kernel) rfl ?_
                      refine RN_iload (pc := 437) (i := 5) (by decide +kernel) rfl ?_
                      refine RN_iload (pc := 439) (i := 6) (by decide +kernel) rfl ?_
                      refine RN_i2l (pc := 441) (by decide +kernel) ?_
                      obtain ⟨c368, h⟩ := ck_el h
                      obtain ⟨x371, σ370, f369, h⟩ := bd_el h
                      refine RN_callV (M := M_X5_step) (pc := 442) (idx := 141) (as := [.int x199, .int x203, .long (x207.toInt64)]) (st := []) (t_X5_cap f369) (by decide +kernel) lk_RX5_141 rfl ⟨by decide, fun q hq => by cases hq; rfl⟩ c368 (Nat.le_of_ble_eq_true rfl) ⟨Nat.le_of_ble_eq_true rfl, Nat.le_of_ble_eq_true rfl⟩ rfl ?_
                      show RN G M_X5_step 445 [some (.ref v0), some (.ref v1), some (.int v2), some (.ref v3), some (.int x199), some (.int x203), some (.int x207)] [.int x371] σ370 _ _
                      obtain ⟨rfl, rfl⟩ := some_el2 h
                      exact RN_ireturn (by decide +kernel) rfl
                    · replace h := it_f c367 h
                      by_cases c372 : (gI σ r209 v2.toNatClampNeg) = 10
                      · replace h := it_t c372 h
                        refine RN_tsw (pc := 30) (dflt := 455) (lo := 0) (hi := 11) (offs := #[62, 74, 104, 134, 180, 216, 318, 376, 397, 404, 416, 427]) (len := 62) (v := 10) (off := 416) (tgt := 446) c372 (by decide +kernel) (by decide) (by decide) (by decide +kernel) (by decide) ?_
                        refine RN_aload_n (pc := 446) (k := 0) (by decide +kernel) rfl rfl ?_
                        refine RN_iload (pc := 447) (i := 4) (by decide +kernel) rfl ?_
                        refine RN_iload (pc := 449) (i := 5) (by decide +kernel) rfl ?_
                        refine RN_iload (pc := 451) (i := 6) (by decide +kernel) rfl ?_
                        obtain ⟨c373, h⟩ := ck_el h
                        obtain ⟨x376, σ375, f374, h⟩ := bd_el h
                        refine RN_callV (M := M_X5_step) (pc := 453) (idx := 145) (as := [.int x199, .int x203, .int x207]) (st := []) (t_X5_book f374) (by decide +kernel) lk_RX5_145 rfl ⟨by decide, fun q hq => by cases hq; rfl⟩ c373 (Nat.le_of_ble_eq_true rfl) ⟨Nat.le_of_ble_eq_true rfl, Nat.le_of_ble_eq_true rfl⟩ rfl ?_
                        show RN G M_X5_step 456 [some (.ref v0), some (.ref v1), some (.int v2), some (.ref v3), some (.int x199), some (.int x203), some (.int x207)] [.int x376] σ375 _ _
                        obtain ⟨rfl, rfl⟩ := some_el2 h
                        exact RN_ireturn (by decide +kernel) rfl
                      · replace h := it_f c372 h
                        by_cases c377 : (gI σ r209 v2.toNatClampNeg) = 11
                        · replace h := it_t c377 h
                          refine RN_tsw (pc := 30) (dflt := 455) (lo := 0) (hi := 11) (offs := #[62, 74, 104, 134, 180, 216, 318, 376, 397, 404, 416, 427]) (len := 62) (v := 11) (off := 427) (tgt := 457) c377 (by decide +kernel) (by decide) (by decide) (by decide +kernel) (by decide) ?_
                          refine RN_aload_n (pc := 457) (k := 0) (by decide +kernel) rfl rfl ?_
                          refine RN_iload (pc := 458) (i := 4) (by decide +kernel) rfl ?_
                          refine RN_aload_n (pc := 460) (k := 0) (by decide +kernel) rfl rfl ?_
                          obtain ⟨c378, h⟩ := ck_el h
                          obtain ⟨c379, h⟩ := ck_el h
                          refine RN_getR (pc := 461) (idx := 32) (ci := 4) (k := 3) (by decide +kernel) lf_RX5_32 rfl c378 c379 ?_
                          obtain ⟨r380, er380, h⟩ := nm_el h
                          refine RN_nmR er380 ?_
                          refine RN_iload (pc := 464) (i := 5) (by decide +kernel) rfl ?_
                          obtain ⟨c381, h⟩ := ck_el h
                          refine RN_lald (pc := 466) (by decide +kernel) c381 ?_
                          refine RN_aload_n (pc := 467) (k := 0) (by decide +kernel) rfl rfl ?_
                          obtain ⟨c382, h⟩ := ck_el h
                          refine RN_getR (pc := 468) (idx := 36) (ci := 4) (k := 4) (by decide +kernel) lf_RX5_36 rfl c378 c382 ?_
                          obtain ⟨r383, er383, h⟩ := nm_el h
                          refine RN_nmR er383 ?_
                          refine RN_iload (pc := 471) (i := 5) (by decide +kernel) rfl ?_
                          obtain ⟨c384, h⟩ := ck_el h
                          refine RN_lald (pc := 473) (by decide +kernel) c384 ?_
                          refine RN_lconst (pc := 474) (n := 1) (v := 1) (by decide +kernel) (by decide) ?_
                          refine RN_iload (pc := 475) (i := 6) (by decide +kernel) rfl ?_
                          obtain ⟨x386, f385, h⟩ := bp_el h
                          refine RN_callS (M := M_X5_step) (pc := 477) (idx := 117) (as := [.long (gJ σ r380 x203.toNatClampNeg), .long (gJ σ r383 x203.toNatClampNeg), .long (1 : Int64), .int x207]) (st := [.int x199, .ref v0]) (t_X3_rounding f385) (by decide +kernel) lk_RX5_117 rfl (Nat.le_of_ble_eq_true rfl) ⟨Nat.le_of_ble_eq_true rfl, Nat.le_of_ble_eq_true rfl⟩ rfl ?_
                          show RN G M_X5_step 480 [some (.ref v0), some (.ref v1), some (.int v2), some (.ref v3), some (.int x199), some (.int x203), some (.int x207)] [.long x386, .int x199, .ref v0] σ _ _
                          refine RN_iconst (pc := 480) (n := 1) (v := 1) (by decide +kernel) (by decide) ?_
                          obtain ⟨x389, σ388, f387, h⟩ := bd_el h
                          refine RN_callV (M := M_X5_step) (pc := 481) (idx := 94) (as := [.int x199, .long x386, .int (1 : Int32)]) (st := []) (t_X5_becomeWhole f387) (by decide +kernel) lk_RX5_94 rfl ⟨by decide, fun q hq => by cases hq; rfl⟩ c378 (Nat.le_of_ble_eq_true rfl) ⟨Nat.le_of_ble_eq_true rfl, Nat.le_of_ble_eq_true rfl⟩ rfl ?_
                          show RN G M_X5_step 484 [some (.ref v0), some (.ref v1), some (.int v2), some (.ref v3), some (.int x199), some (.int x203), some (.int x207)] [.int x389] σ388 _ _
                          obtain ⟨rfl, rfl⟩ := some_el2 h
                          exact RN_ireturn (by decide +kernel) rfl
                        · replace h := it_f c377 h
                          refine RN_tableOut (pc := 30) (dflt := 455) (lo := 0) (hi := 11) (offs := #[62, 74, 104, 134, 180, 216, 318, 376, 397, 404, 416, 427]) (len := 62) (tgt := 485) (by decide +kernel) (tsw_s (hi := 10) (hi' := 11) (tsw_s (hi := 9) (hi' := 10) (tsw_s (hi := 8) (hi' := 9) (tsw_s (hi := 7) (hi' := 8) (tsw_s (hi := 6) (hi' := 7) (tsw_s (hi := 5) (hi' := 6) (tsw_s (hi := 4) (hi' := 5) (tsw_s (hi := 3) (hi' := 4) (tsw_s (hi := 2) (hi' := 3) (tsw_s (hi := 1) (hi' := 2) (tsw_s (hi := 0) (hi' := 1) (tsw_s (hi := -1) (hi' := 0) (tsw_0 (0)) (by decide) (by decide) c211) (by decide) (by decide) c218) (by decide) (by decide) c234) (by decide) (by decide) c250) (by decide) (by decide) c271) (by decide) (by decide) c287) (by decide) (by decide) c322) (by decide) (by decide) c351) (by decide) (by decide) c362) (by decide) (by decide) c367) (by decide) (by decide) c372) (by decide) (by decide) c377) (by decide) ?_
                          refine RN_aload_n (pc := 485) (k := 0) (by decide +kernel) rfl rfl ?_
                          refine RN_iload (pc := 486) (i := 4) (by decide +kernel) rfl ?_
                          refine RN_aload_n (pc := 488) (k := 3) (by decide +kernel) rfl rfl ?_
                          obtain ⟨c390, h⟩ := ck_el h
                          obtain ⟨c391, h⟩ := ck_el h
                          refine RN_getR (pc := 489) (idx := 98) (ci := 7) (k := 0) (by decide +kernel) lf_RX5_98 rfl c390 c391 ?_
                          obtain ⟨r392, er392, h⟩ := nm_el h
                          refine RN_nmR er392 ?_
                          refine RN_iload (pc := 492) (i := 5) (by decide +kernel) rfl ?_
                          obtain ⟨c393, h⟩ := ck_el h
                          refine RN_iald (pc := 494) (by decide +kernel) c393 ?_
                          refine RN_i2l (pc := 495) (by decide +kernel) ?_
                          refine RN_aload_n (pc := 496) (k := 3) (by decide +kernel) rfl rfl ?_
                          obtain ⟨c394, h⟩ := ck_el h
                          refine RN_getR (pc := 497) (idx := 103) (ci := 7) (k := 1) (by decide +kernel) lf_RX5_103 rfl c390 c394 ?_
                          obtain ⟨r395, er395, h⟩ := nm_el h
                          refine RN_nmR er395 ?_
                          refine RN_iload (pc := 500) (i := 5) (by decide +kernel) rfl ?_
                          obtain ⟨c396, h⟩ := ck_el h
                          refine RN_iald (pc := 502) (by decide +kernel) c396 ?_
                          refine RN_i2l (pc := 503) (by decide +kernel) ?_
                          refine RN_iload (pc := 504) (i := 6) (by decide +kernel) rfl ?_
                          obtain ⟨c397, h⟩ := ck_el h
                          obtain ⟨x400, σ399, f398, h⟩ := bd_el h
                          refine RN_callV (M := M_X5_step) (pc := 506) (idx := 149) (as := [.int x199, .long ((gI σ r392 x203.toNatClampNeg).toInt64), .long ((gI σ r395 x203.toNatClampNeg).toInt64), .int x207]) (st := []) (t_X5_passDays f398) (by decide +kernel) lk_RX5_149 rfl ⟨by decide, fun q hq => by cases hq; rfl⟩ c397 (Nat.le_of_ble_eq_true rfl) ⟨Nat.le_of_ble_eq_true rfl, Nat.le_of_ble_eq_true rfl⟩ rfl ?_
                          show RN G M_X5_step 509 [some (.ref v0), some (.ref v1), some (.int v2), some (.ref v3), some (.int x199), some (.int x203), some (.int x207)] [.int x400] σ399 _ _
                          obtain ⟨rfl, rfl⟩ := some_el2 h
                          exact RN_ireturn (by decide +kernel) rfl
def b_X5_perform_28 (n : Nat) (v0 : Nat) (v3 : Int32) (v4 : Int32) (σ : Sg) : Option (Int32 × Sg) :=
  ck (okO σ v0 4) <|
  nm (pI σ v0 9 v3) fun σ24 =>
  some (v4, σ24)
set_option maxRecDepth 20000 in
theorem tb_X5_perform_28 {G : Gl} {xr : Int32} {σr : Sg} (n : Nat) (v0 : Nat) (v3 : Int32) (v4 : Int32) (σ : Sg) (h : b_X5_perform_28 n v0 v3 v4 σ = some (xr, σr)) : RN G M_X5_perform 28 [some (.ref v0), none, none, some (.int v3), some (.int v4)] [] σ (.inl (some (.int xr))) σr := by
  unfold b_X5_perform_28 at h
  refine RN_aload_n (pc := 28) (k := 0) (by decide +kernel) rfl rfl ?_
  refine RN_iload_n (pc := 29) (k := 3) (by decide +kernel) rfl rfl ?_
  obtain ⟨c23, h⟩ := ck_el h
  refine RN_putI (pc := 30) (idx := 58) (ci := 4) (k := 9) (by decide +kernel) lf_RX5_58 rfl (fun q hq => by cases hq; exact Or.inl rfl) c23 ?_
  obtain ⟨σ24, eσ24, h⟩ := nm_el h
  refine RN_nmS eσ24 ?_
  refine RN_iload (pc := 33) (i := 4) (by decide +kernel) rfl ?_
  obtain ⟨rfl, rfl⟩ := some_el2 h
  exact RN_ireturn (by decide +kernel) rfl
def b_X5_perform_6 : Nat → Nat → Nat → Nat → Int32 → Sg → Option (Int32 × Sg)
  | 0, _, _, _, _, _ => none
  | n + 1, v0, v1, v2, v3, σ =>
  ck (okO σ v1 5) <|
  if (gI σ v1 4) ≤ v3 then (
    some ((0 : Int32), σ))
  else (
    ck (okO σ v0 4) <|
    bd (f_X5_step n v0 v1 v3 v2 σ) fun x20 σ19 =>
    if x20 = 0 then (
      nm (v3 + (1 : Int32)) fun x22 =>
      b_X5_perform_6 n v0 v1 v2 x22 σ19)
    else (
      b_X5_perform_28 n v0 v3 x20 σ19))
set_option maxRecDepth 20000 in
theorem tb_X5_perform_6 {G : Gl} {xr : Int32} {σr : Sg} (v0 : Nat) (v1 : Nat) (v2 : Nat) : ∀ (n : Nat) (v3 : Int32) (σ : Sg), b_X5_perform_6 n v0 v1 v2 v3 σ = some (xr, σr) → RN G M_X5_perform 6 [some (.ref v0), some (.ref v1), some (.ref v2), some (.int v3)] [] σ (.inl (some (.int xr))) σr := by
  intro n
  induction n with
  | zero =>
    intro v3 σ h
    exact none_el h
  | succ n ih =>
    intro v3 σ h
    rw [b_X5_perform_6] at h
    refine RN_iload_n (pc := 6) (k := 3) (by decide +kernel) rfl rfl ?_
    refine RN_aload_n (pc := 7) (k := 1) (by decide +kernel) rfl rfl ?_
    obtain ⟨c15, h⟩ := ck_el h
    refine RN_getI (pc := 8) (idx := 68) (ci := 5) (k := 4) (by decide +kernel) lf_RX5_68 (Or.inl rfl) c15 ?_
    refine RN_icmp_ge (pc := 11) (off := 31) (tgt := 42) (by decide +kernel) (by decide) (fun c16 => ?_) (fun c16 => ?_)
    · replace h := it_t c16 h
      refine RN_iconst (pc := 42) (n := 0) (v := 0) (by decide +kernel) (by decide) ?_
      obtain ⟨rfl, rfl⟩ := some_el2 h
      exact RN_ireturn (by decide +kernel) rfl
    · replace h := it_f c16 h
      refine RN_aload_n (pc := 14) (k := 0) (by decide +kernel) rfl rfl ?_
      refine RN_aload_n (pc := 15) (k := 1) (by decide +kernel) rfl rfl ?_
      refine RN_iload_n (pc := 16) (k := 3) (by decide +kernel) rfl rfl ?_
      refine RN_aload_n (pc := 17) (k := 2) (by decide +kernel) rfl rfl ?_
      obtain ⟨c17, h⟩ := ck_el h
      obtain ⟨x20, σ19, f18, h⟩ := bd_el h
      refine RN_callV (M := M_X5_perform) (pc := 18) (idx := 73) (as := [.ref v1, .int v3, .ref v2]) (st := []) (t_X5_step f18) (by decide +kernel) lk_RX5_73 rfl ⟨by decide, fun q hq => by cases hq; rfl⟩ c17 (Nat.le_of_ble_eq_true rfl) ⟨Nat.le_of_ble_eq_true rfl, Nat.le_of_ble_eq_true rfl⟩ rfl ?_
      show RN G M_X5_perform 21 [some (.ref v0), some (.ref v1), some (.ref v2), some (.int v3)] [.int x20] σ19 _ _
      refine RN_istore (pc := 21) (i := 4) (ls2 := [some (.ref v0), some (.ref v1), some (.ref v2), some (.int v3), some (.int x20)]) (by decide +kernel) (by decide) rfl ?_
      refine RN_iload (pc := 23) (i := 4) (by decide +kernel) rfl ?_
      refine RN_if_eq (pc := 25) (off := 11) (tgt := 36) (by decide +kernel) (by decide) (fun c21 => ?_) (fun c21 => ?_)
      · replace h := it_t c21 h
        obtain ⟨x22, ex22, h⟩ := nm_el h
        refine RN_iinc (pc := 36) (i := 3) (n := 1) (v := x22) (ls2 := [some (.ref v0), some (.ref v1), some (.ref v2), some (.int x22), some (.int x20)]) (by decide +kernel) rfl (by rw [ex22]; rfl) (by decide) rfl ?_
        refine RN_goto (pc := 39) (off := -33) (tgt := 6) (by decide +kernel) (by decide) ?_
        exact RN_weak (l := [some (.ref v0), some (.ref v1), some (.ref v2), some (.int x22)]) (And.intro rfl (And.intro rfl (And.intro rfl (And.intro rfl trivial)))) (ih x22 σ19 h)
      · replace h := it_f c21 h
        exact RN_weak (l := [some (.ref v0), none, none, some (.int v3), some (.int x20)]) (And.intro rfl (And.intro rfl (And.intro rfl trivial))) (tb_X5_perform_28 n v0 v3 x20 σ19 h)
def f_X5_perform (n : Nat) (v0 : Nat) (v1 : Nat) (v2 : Nat) (σ : Sg) : Option (Int32 × Sg) :=
  ck (okO σ v0 4) <|
  bp (f_X5_wipe n v0 σ) fun σ14 =>
  b_X5_perform_6 n v0 v1 v2 (0 : Int32) σ14
set_option maxRecDepth 20000 in
theorem t_X5_perform {G : Gl} {xr : Int32} {σr : Sg} {n : Nat} {v0 : Nat} {v1 : Nat} {v2 : Nat} {σ : Sg} (h : f_X5_perform n v0 v1 v2 σ = some (xr, σr)) : MT G M_X5_perform [.ref v0, .ref v1, .ref v2] σ (some (.int xr)) σr := by
  refine MT_of rfl rfl (Nat.le_of_ble_eq_true rfl) ?_
  show RN G M_X5_perform 0 [some (.ref v0), some (.ref v1), some (.ref v2)] [] σ (.inl (some (.int xr))) σr
  unfold f_X5_perform at h
  refine RN_aload_n (pc := 0) (k := 0) (by decide +kernel) rfl rfl ?_
  obtain ⟨c12, h⟩ := ck_el h
  obtain ⟨σ14, f13, h⟩ := bp_el h
  refine RN_callV (M := M_X5_perform) (pc := 1) (idx := 50) (as := []) (st := []) (t_X5_wipe f13) (by decide +kernel) lk_RX5_50 rfl ⟨by decide, fun q hq => by cases hq; rfl⟩ c12 (Nat.le_of_ble_eq_true rfl) ⟨Nat.le_of_ble_eq_true rfl, Nat.le_of_ble_eq_true rfl⟩ rfl ?_
  show RN G M_X5_perform 4 [some (.ref v0), some (.ref v1), some (.ref v2)] [] σ14 _ _
  refine RN_iconst (pc := 4) (n := 0) (v := 0) (by decide +kernel) (by decide) ?_
  refine RN_istore_n (pc := 5) (k := 3) (ls2 := [some (.ref v0), some (.ref v1), some (.ref v2), some (.int (0 : Int32))]) (by decide +kernel) rfl (by decide) rfl ?_
  exact RN_weak (l := [some (.ref v0), some (.ref v1), some (.ref v2), some (.int (0 : Int32))]) (And.intro rfl (And.intro rfl (And.intro rfl (And.intro rfl trivial)))) (tb_X5_perform_6 v0 v1 v2 n (0 : Int32) σ14 h)
def f_X6_init (v0 : Nat) (σ : Sg) : Option Sg :=
  nm (sN σ) fun r23 =>
  nm (nw σ 13 20) fun σ24 =>
  ck (okO σ24 v0 5) <|
  ck (¬ r23 = 0) <|
  nm (pR σ24 v0 0 r23) fun σ27 =>
  nm (sN σ27) fun r28 =>
  nm (nw σ27 13 20) fun σ29 =>
  ck (okO σ29 v0 5) <|
  ck (¬ r28 = 0) <|
  nm (pR σ29 v0 1 r28) fun σ32 =>
  nm (sN σ32) fun r33 =>
  nm (nw σ32 13 20) fun σ34 =>
  ck (okO σ34 v0 5) <|
  ck (¬ r33 = 0) <|
  nm (pR σ34 v0 2 r33) fun σ37 =>
  nm (sN σ37) fun r38 =>
  nm (nw σ37 13 20) fun σ39 =>
  ck (okO σ39 v0 5) <|
  ck (¬ r38 = 0) <|
  nm (pR σ39 v0 3 r38) fun σ42 =>
  ck (okO σ42 v0 5) <|
  nm (pJ σ42 v0 6 (1 : Int64)) fun σ44 =>
  some σ44
set_option maxRecDepth 20000 in
theorem t_X6_init {G : Gl} {σr : Sg} {v0 : Nat} {σ : Sg} (h : f_X6_init v0 σ = some σr) : MT G M_X6_init [.ref v0] σ none σr := by
  refine MT_of rfl rfl (Nat.le_of_ble_eq_true rfl) ?_
  show RN G M_X6_init 0 [some (.ref v0)] [] σ (.inl none) σr
  unfold f_X6_init at h
  refine RN_aload_n (pc := 0) (k := 0) (by decide +kernel) rfl rfl ?_
  refine RN_objInit (pc := 1) (idx := 3) (by decide +kernel) oi_RX6_3 oi_b oi_c (by decide) (by decide) (Nat.le_of_ble_eq_true rfl) ?_
  refine RN_aload_n (pc := 4) (k := 0) (by decide +kernel) rfl rfl ?_
  refine RN_bipush (pc := 5) (n := 20) (v := 20) (by decide +kernel) (by decide) ?_
  refine RN_newa (pc := 7) (atype := .int) (N := 20) (t := 13) (by decide +kernel) ⟨by decide, by decide, rfl⟩ ac_13 (by decide) (by decide) (by decide) ?_
  obtain ⟨r23, er23, h⟩ := nm_el h
  refine RN_nmR er23 ?_
  obtain ⟨σ24, eσ24, h⟩ := nm_el h
  refine RN_nmS eσ24 ?_
  obtain ⟨c25, h⟩ := ck_el h
  obtain ⟨c26, h⟩ := ck_el h
  refine RN_putR (pc := 9) (idx := 9) (ci := 5) (k := 0) (by decide +kernel) lf_RX6_9 rfl (fun q hq => by cases hq; exact Or.inr ⟨rfl, rfl, rfl⟩) c26 c25 ?_
  obtain ⟨σ27, eσ27, h⟩ := nm_el h
  refine RN_nmS eσ27 ?_
  refine RN_aload_n (pc := 12) (k := 0) (by decide +kernel) rfl rfl ?_
  refine RN_bipush (pc := 13) (n := 20) (v := 20) (by decide +kernel) (by decide) ?_
  refine RN_newa (pc := 15) (atype := .int) (N := 20) (t := 13) (by decide +kernel) ⟨by decide, by decide, rfl⟩ ac_13 (by decide) (by decide) (by decide) ?_
  obtain ⟨r28, er28, h⟩ := nm_el h
  refine RN_nmR er28 ?_
  obtain ⟨σ29, eσ29, h⟩ := nm_el h
  refine RN_nmS eσ29 ?_
  obtain ⟨c30, h⟩ := ck_el h
  obtain ⟨c31, h⟩ := ck_el h
  refine RN_putR (pc := 17) (idx := 15) (ci := 5) (k := 1) (by decide +kernel) lf_RX6_15 rfl (fun q hq => by cases hq; exact Or.inr ⟨rfl, rfl, rfl⟩) c31 c30 ?_
  obtain ⟨σ32, eσ32, h⟩ := nm_el h
  refine RN_nmS eσ32 ?_
  refine RN_aload_n (pc := 20) (k := 0) (by decide +kernel) rfl rfl ?_
  refine RN_bipush (pc := 21) (n := 20) (v := 20) (by decide +kernel) (by decide) ?_
  refine RN_newa (pc := 23) (atype := .int) (N := 20) (t := 13) (by decide +kernel) ⟨by decide, by decide, rfl⟩ ac_13 (by decide) (by decide) (by decide) ?_
  obtain ⟨r33, er33, h⟩ := nm_el h
  refine RN_nmR er33 ?_
  obtain ⟨σ34, eσ34, h⟩ := nm_el h
  refine RN_nmS eσ34 ?_
  obtain ⟨c35, h⟩ := ck_el h
  obtain ⟨c36, h⟩ := ck_el h
  refine RN_putR (pc := 25) (idx := 18) (ci := 5) (k := 2) (by decide +kernel) lf_RX6_18 rfl (fun q hq => by cases hq; exact Or.inr ⟨rfl, rfl, rfl⟩) c36 c35 ?_
  obtain ⟨σ37, eσ37, h⟩ := nm_el h
  refine RN_nmS eσ37 ?_
  refine RN_aload_n (pc := 28) (k := 0) (by decide +kernel) rfl rfl ?_
  refine RN_bipush (pc := 29) (n := 20) (v := 20) (by decide +kernel) (by decide) ?_
  refine RN_newa (pc := 31) (atype := .int) (N := 20) (t := 13) (by decide +kernel) ⟨by decide, by decide, rfl⟩ ac_13 (by decide) (by decide) (by decide) ?_
  obtain ⟨r38, er38, h⟩ := nm_el h
  refine RN_nmR er38 ?_
  obtain ⟨σ39, eσ39, h⟩ := nm_el h
  refine RN_nmS eσ39 ?_
  obtain ⟨c40, h⟩ := ck_el h
  obtain ⟨c41, h⟩ := ck_el h
  refine RN_putR (pc := 33) (idx := 21) (ci := 5) (k := 3) (by decide +kernel) lf_RX6_21 rfl (fun q hq => by cases hq; exact Or.inr ⟨rfl, rfl, rfl⟩) c41 c40 ?_
  obtain ⟨σ42, eσ42, h⟩ := nm_el h
  refine RN_nmS eσ42 ?_
  refine RN_aload_n (pc := 36) (k := 0) (by decide +kernel) rfl rfl ?_
  refine RN_lconst (pc := 37) (n := 1) (v := 1) (by decide +kernel) (by decide) ?_
  obtain ⟨c43, h⟩ := ck_el h
  refine RN_putJ (pc := 38) (idx := 24) (ci := 5) (k := 6) (by decide +kernel) lf_RX6_24 rfl (fun q hq => by cases hq; exact Or.inl rfl) c43 ?_
  obtain ⟨σ44, eσ44, h⟩ := nm_el h
  refine RN_nmS eσ44 ?_
  obtain rfl := some_el h
  exact RN_return (by decide +kernel) rfl
def f_X6_reset (v0 : Nat) (σ : Sg) : Option Sg :=
  ck (okO σ v0 5) <|
  nm (pI σ v0 4 (0 : Int32)) fun σ8 =>
  ck (okO σ8 v0 5) <|
  nm (pJ σ8 v0 5 (0 : Int64)) fun σ10 =>
  ck (okO σ10 v0 5) <|
  nm (pJ σ10 v0 6 (1 : Int64)) fun σ12 =>
  some σ12
set_option maxRecDepth 20000 in
theorem t_X6_reset {G : Gl} {σr : Sg} {v0 : Nat} {σ : Sg} (h : f_X6_reset v0 σ = some σr) : MT G M_X6_reset [.ref v0] σ none σr := by
  refine MT_of rfl rfl (Nat.le_of_ble_eq_true rfl) ?_
  show RN G M_X6_reset 0 [some (.ref v0)] [] σ (.inl none) σr
  unfold f_X6_reset at h
  refine RN_aload_n (pc := 0) (k := 0) (by decide +kernel) rfl rfl ?_
  refine RN_iconst (pc := 1) (n := 0) (v := 0) (by decide +kernel) (by decide) ?_
  obtain ⟨c7, h⟩ := ck_el h
  refine RN_putI (pc := 2) (idx := 28) (ci := 5) (k := 4) (by decide +kernel) lf_RX6_28 rfl (fun q hq => by cases hq; exact Or.inl rfl) c7 ?_
  obtain ⟨σ8, eσ8, h⟩ := nm_el h
  refine RN_nmS eσ8 ?_
  refine RN_aload_n (pc := 5) (k := 0) (by decide +kernel) rfl rfl ?_
  refine RN_lconst (pc := 6) (n := 0) (v := 0) (by decide +kernel) (by decide) ?_
  obtain ⟨c9, h⟩ := ck_el h
  refine RN_putJ (pc := 7) (idx := 32) (ci := 5) (k := 5) (by decide +kernel) lf_RX6_32 rfl (fun q hq => by cases hq; exact Or.inl rfl) c9 ?_
  obtain ⟨σ10, eσ10, h⟩ := nm_el h
  refine RN_nmS eσ10 ?_
  refine RN_aload_n (pc := 10) (k := 0) (by decide +kernel) rfl rfl ?_
  refine RN_lconst (pc := 11) (n := 1) (v := 1) (by decide +kernel) (by decide) ?_
  obtain ⟨c11, h⟩ := ck_el h
  refine RN_putJ (pc := 12) (idx := 24) (ci := 5) (k := 6) (by decide +kernel) lf_RX6_24 rfl (fun q hq => by cases hq; exact Or.inl rfl) c11 ?_
  obtain ⟨σ12, eσ12, h⟩ := nm_el h
  refine RN_nmS eσ12 ?_
  obtain rfl := some_el h
  exact RN_return (by decide +kernel) rfl
def b_X6_hasActsOf_15 : Nat → Nat → Nat → Int32 → Sg → Option Int32
  | 0, _, _, _, _ => none
  | n + 1, v0, v1, v2, σ =>
  ck (okO σ v0 5) <|
  if (gI σ v0 4) ≤ v2 then (
    some (1 : Int32))
  else (
    ck (¬ gR σ v0 0 = 0) <|
    nm (gR σ v0 0) fun r43 =>
    ck (okA σ r43 13 v2) <|
    ck (okO σ v1 5) <|
    ck (¬ gR σ v1 0 = 0) <|
    nm (gR σ v1 0) fun r47 =>
    ck (okA σ r47 13 v2) <|
    if (gI σ r43 v2.toNatClampNeg) = (gI σ r47 v2.toNatClampNeg) then (
      ck (¬ gR σ v0 1 = 0) <|
      nm (gR σ v0 1) fun r51 =>
      ck (okA σ r51 13 v2) <|
      ck (¬ gR σ v1 1 = 0) <|
      nm (gR σ v1 1) fun r54 =>
      ck (okA σ r54 13 v2) <|
      if (gI σ r51 v2.toNatClampNeg) = (gI σ r54 v2.toNatClampNeg) then (
        ck (¬ gR σ v0 2 = 0) <|
        nm (gR σ v0 2) fun r58 =>
        ck (okA σ r58 13 v2) <|
        ck (¬ gR σ v1 2 = 0) <|
        nm (gR σ v1 2) fun r61 =>
        ck (okA σ r61 13 v2) <|
        if (gI σ r58 v2.toNatClampNeg) = (gI σ r61 v2.toNatClampNeg) then (
          ck (¬ gR σ v0 3 = 0) <|
          nm (gR σ v0 3) fun r65 =>
          ck (okA σ r65 13 v2) <|
          ck (¬ gR σ v1 3 = 0) <|
          nm (gR σ v1 3) fun r68 =>
          ck (okA σ r68 13 v2) <|
          if (gI σ r65 v2.toNatClampNeg) = (gI σ r68 v2.toNatClampNeg) then (
            nm (v2 + (1 : Int32)) fun x71 =>
            b_X6_hasActsOf_15 n v0 v1 x71 σ)
          else (
            some (0 : Int32)))
        else (
          some (0 : Int32)))
      else (
        some (0 : Int32)))
    else (
      some (0 : Int32)))
set_option maxRecDepth 20000 in
theorem tb_X6_hasActsOf_15 {G : Gl} {xr : Int32} (v0 : Nat) (v1 : Nat) (σ : Sg) : ∀ (n : Nat) (v2 : Int32), b_X6_hasActsOf_15 n v0 v1 v2 σ = some xr → RN G M_X6_hasActsOf 15 [some (.ref v0), some (.ref v1), some (.int v2)] [] σ (.inl (some (.int xr))) σ := by
  intro n
  induction n with
  | zero =>
    intro v2 h
    exact none_el h
  | succ n ih =>
    intro v2 h
    rw [b_X6_hasActsOf_15] at h
    refine RN_iload_n (pc := 15) (k := 2) (by decide +kernel) rfl rfl ?_
    refine RN_aload_n (pc := 16) (k := 0) (by decide +kernel) rfl rfl ?_
    obtain ⟨c40, h⟩ := ck_el h
    refine RN_getI (pc := 17) (idx := 28) (ci := 5) (k := 4) (by decide +kernel) lf_RX6_28 (Or.inl rfl) c40 ?_
    refine RN_icmp_ge (pc := 20) (off := 71) (tgt := 91) (by decide +kernel) (by decide) (fun c41 => ?_) (fun c41 => ?_)
    · replace h := it_t c41 h
      refine RN_iconst (pc := 91) (n := 1) (v := 1) (by decide +kernel) (by decide) ?_
      obtain rfl := some_el h
      exact RN_zreturn (by decide +kernel) rfl (Or.inr rfl)
    · replace h := it_f c41 h
      refine RN_aload_n (pc := 23) (k := 0) (by decide +kernel) rfl rfl ?_
      obtain ⟨c42, h⟩ := ck_el h
      refine RN_getR (pc := 24) (idx := 9) (ci := 5) (k := 0) (by decide +kernel) lf_RX6_9 rfl c40 c42 ?_
      obtain ⟨r43, er43, h⟩ := nm_el h
      refine RN_nmR er43 ?_
      refine RN_iload_n (pc := 27) (k := 2) (by decide +kernel) rfl rfl ?_
      obtain ⟨c44, h⟩ := ck_el h
      refine RN_iald (pc := 28) (by decide +kernel) c44 ?_
      refine RN_aload_n (pc := 29) (k := 1) (by decide +kernel) rfl rfl ?_
      obtain ⟨c45, h⟩ := ck_el h
      obtain ⟨c46, h⟩ := ck_el h
      refine RN_getR (pc := 30) (idx := 9) (ci := 5) (k := 0) (by decide +kernel) lf_RX6_9 rfl c45 c46 ?_
      obtain ⟨r47, er47, h⟩ := nm_el h
      refine RN_nmR er47 ?_
      refine RN_iload_n (pc := 33) (k := 2) (by decide +kernel) rfl rfl ?_
      obtain ⟨c48, h⟩ := ck_el h
      refine RN_iald (pc := 34) (by decide +kernel) c48 ?_
      refine RN_icmp_ne (pc := 35) (off := 48) (tgt := 83) (by decide +kernel) (by decide) (fun c49 => ?_) (fun c49 => ?_)
      · replace h := it_f c49 h
        refine RN_iconst (pc := 83) (n := 0) (v := 0) (by decide +kernel) (by decide) ?_
        obtain rfl := some_el h
        exact RN_zreturn (by decide +kernel) rfl (Or.inl rfl)
      · replace h := it_t c49 h
        refine RN_aload_n (pc := 38) (k := 0) (by decide +kernel) rfl rfl ?_
        obtain ⟨c50, h⟩ := ck_el h
        refine RN_getR (pc := 39) (idx := 15) (ci := 5) (k := 1) (by decide +kernel) lf_RX6_15 rfl c40 c50 ?_
        obtain ⟨r51, er51, h⟩ := nm_el h
        refine RN_nmR er51 ?_
        refine RN_iload_n (pc := 42) (k := 2) (by decide +kernel) rfl rfl ?_
        obtain ⟨c52, h⟩ := ck_el h
        refine RN_iald (pc := 43) (by decide +kernel) c52 ?_
        refine RN_aload_n (pc := 44) (k := 1) (by decide +kernel) rfl rfl ?_
        obtain ⟨c53, h⟩ := ck_el h
        refine RN_getR (pc := 45) (idx := 15) (ci := 5) (k := 1) (by decide +kernel) lf_RX6_15 rfl c45 c53 ?_
        obtain ⟨r54, er54, h⟩ := nm_el h
        refine RN_nmR er54 ?_
        refine RN_iload_n (pc := 48) (k := 2) (by decide +kernel) rfl rfl ?_
        obtain ⟨c55, h⟩ := ck_el h
        refine RN_iald (pc := 49) (by decide +kernel) c55 ?_
        refine RN_icmp_ne (pc := 50) (off := 33) (tgt := 83) (by decide +kernel) (by decide) (fun c56 => ?_) (fun c56 => ?_)
        · replace h := it_f c56 h
          refine RN_iconst (pc := 83) (n := 0) (v := 0) (by decide +kernel) (by decide) ?_
          obtain rfl := some_el h
          exact RN_zreturn (by decide +kernel) rfl (Or.inl rfl)
        · replace h := it_t c56 h
          refine RN_aload_n (pc := 53) (k := 0) (by decide +kernel) rfl rfl ?_
          obtain ⟨c57, h⟩ := ck_el h
          refine RN_getR (pc := 54) (idx := 18) (ci := 5) (k := 2) (by decide +kernel) lf_RX6_18 rfl c40 c57 ?_
          obtain ⟨r58, er58, h⟩ := nm_el h
          refine RN_nmR er58 ?_
          refine RN_iload_n (pc := 57) (k := 2) (by decide +kernel) rfl rfl ?_
          obtain ⟨c59, h⟩ := ck_el h
          refine RN_iald (pc := 58) (by decide +kernel) c59 ?_
          refine RN_aload_n (pc := 59) (k := 1) (by decide +kernel) rfl rfl ?_
          obtain ⟨c60, h⟩ := ck_el h
          refine RN_getR (pc := 60) (idx := 18) (ci := 5) (k := 2) (by decide +kernel) lf_RX6_18 rfl c45 c60 ?_
          obtain ⟨r61, er61, h⟩ := nm_el h
          refine RN_nmR er61 ?_
          refine RN_iload_n (pc := 63) (k := 2) (by decide +kernel) rfl rfl ?_
          obtain ⟨c62, h⟩ := ck_el h
          refine RN_iald (pc := 64) (by decide +kernel) c62 ?_
          refine RN_icmp_ne (pc := 65) (off := 18) (tgt := 83) (by decide +kernel) (by decide) (fun c63 => ?_) (fun c63 => ?_)
          · replace h := it_f c63 h
            refine RN_iconst (pc := 83) (n := 0) (v := 0) (by decide +kernel) (by decide) ?_
            obtain rfl := some_el h
            exact RN_zreturn (by decide +kernel) rfl (Or.inl rfl)
          · replace h := it_t c63 h
            refine RN_aload_n (pc := 68) (k := 0) (by decide +kernel) rfl rfl ?_
            obtain ⟨c64, h⟩ := ck_el h
            refine RN_getR (pc := 69) (idx := 21) (ci := 5) (k := 3) (by decide +kernel) lf_RX6_21 rfl c40 c64 ?_
            obtain ⟨r65, er65, h⟩ := nm_el h
            refine RN_nmR er65 ?_
            refine RN_iload_n (pc := 72) (k := 2) (by decide +kernel) rfl rfl ?_
            obtain ⟨c66, h⟩ := ck_el h
            refine RN_iald (pc := 73) (by decide +kernel) c66 ?_
            refine RN_aload_n (pc := 74) (k := 1) (by decide +kernel) rfl rfl ?_
            obtain ⟨c67, h⟩ := ck_el h
            refine RN_getR (pc := 75) (idx := 21) (ci := 5) (k := 3) (by decide +kernel) lf_RX6_21 rfl c45 c67 ?_
            obtain ⟨r68, er68, h⟩ := nm_el h
            refine RN_nmR er68 ?_
            refine RN_iload_n (pc := 78) (k := 2) (by decide +kernel) rfl rfl ?_
            obtain ⟨c69, h⟩ := ck_el h
            refine RN_iald (pc := 79) (by decide +kernel) c69 ?_
            refine RN_icmp_eq (pc := 80) (off := 5) (tgt := 85) (by decide +kernel) (by decide) (fun c70 => ?_) (fun c70 => ?_)
            · replace h := it_t c70 h
              obtain ⟨x71, ex71, h⟩ := nm_el h
              refine RN_iinc (pc := 85) (i := 2) (n := 1) (v := x71) (ls2 := [some (.ref v0), some (.ref v1), some (.int x71)]) (by decide +kernel) rfl (by rw [ex71]; rfl) (by decide) rfl ?_
              refine RN_goto (pc := 88) (off := -73) (tgt := 15) (by decide +kernel) (by decide) ?_
              exact RN_weak (l := [some (.ref v0), some (.ref v1), some (.int x71)]) (And.intro rfl (And.intro rfl (And.intro rfl trivial))) (ih x71 h)
            · replace h := it_f c70 h
              refine RN_iconst (pc := 83) (n := 0) (v := 0) (by decide +kernel) (by decide) ?_
              obtain rfl := some_el h
              exact RN_zreturn (by decide +kernel) rfl (Or.inl rfl)
def f_X6_hasActsOf (n : Nat) (v0 : Nat) (v1 : Nat) (σ : Sg) : Option Int32 :=
  ck (okO σ v0 5) <|
  ck (okO σ v1 5) <|
  if (gI σ v0 4) = (gI σ v1 4) then (
    b_X6_hasActsOf_15 n v0 v1 (0 : Int32) σ)
  else (
    some (0 : Int32))
set_option maxRecDepth 20000 in
theorem t_X6_hasActsOf {G : Gl} {xr : Int32} {n : Nat} {v0 : Nat} {v1 : Nat} {σ : Sg} (h : f_X6_hasActsOf n v0 v1 σ = some xr) : MT G M_X6_hasActsOf [.ref v0, .ref v1] σ (some (.int xr)) σ := by
  refine MT_of rfl rfl (Nat.le_of_ble_eq_true rfl) ?_
  show RN G M_X6_hasActsOf 0 [some (.ref v0), some (.ref v1)] [] σ (.inl (some (.int xr))) σ
  unfold f_X6_hasActsOf at h
  refine RN_aload_n (pc := 0) (k := 0) (by decide +kernel) rfl rfl ?_
  obtain ⟨c37, h⟩ := ck_el h
  refine RN_getI (pc := 1) (idx := 28) (ci := 5) (k := 4) (by decide +kernel) lf_RX6_28 (Or.inl rfl) c37 ?_
  refine RN_aload_n (pc := 4) (k := 1) (by decide +kernel) rfl rfl ?_
  obtain ⟨c38, h⟩ := ck_el h
  refine RN_getI (pc := 5) (idx := 28) (ci := 5) (k := 4) (by decide +kernel) lf_RX6_28 (Or.inl rfl) c38 ?_
  refine RN_icmp_eq (pc := 8) (off := 5) (tgt := 13) (by decide +kernel) (by decide) (fun c39 => ?_) (fun c39 => ?_)
  · replace h := it_t c39 h
    refine RN_iconst (pc := 13) (n := 0) (v := 0) (by decide +kernel) (by decide) ?_
    refine RN_istore_n (pc := 14) (k := 2) (ls2 := [some (.ref v0), some (.ref v1), some (.int (0 : Int32))]) (by decide +kernel) rfl (by decide) rfl ?_
    exact RN_weak (l := [some (.ref v0), some (.ref v1), some (.int (0 : Int32))]) (And.intro rfl (And.intro rfl (And.intro rfl trivial))) (tb_X6_hasActsOf_15 v0 v1 σ n (0 : Int32) h)
  · replace h := it_f c39 h
    refine RN_iconst (pc := 11) (n := 0) (v := 0) (by decide +kernel) (by decide) ?_
    obtain rfl := some_el h
    exact RN_zreturn (by decide +kernel) rfl (Or.inl rfl)
