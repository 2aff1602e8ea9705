def b_X4_become_26 (n : Nat) (v0 : Nat) (v1 : Nat) (σ : Sg) : Option Sg :=
  ck (okO σ v1 3) <|
  ck (okO σ v0 3) <|
  nm (pI σ v0 1 (gI σ v1 1)) fun σ17 =>
  some σ17
set_option maxRecDepth 20000 in
theorem tb_X4_become_26 {G : Gl} {σr : Sg} (n : Nat) (v0 : Nat) (v1 : Nat) (σ : Sg) (h : b_X4_become_26 n v0 v1 σ = some σr) : RN G M_X4_become 26 [some (.ref v0), some (.ref v1)] [] σ (.inl none) σr := by
  unfold b_X4_become_26 at h
  refine RN_aload_n (pc := 26) (k := 0) (by decide +kernel) rfl rfl ?_
  refine RN_aload_n (pc := 27) (k := 1) (by decide +kernel) rfl rfl ?_
  obtain ⟨c15, h⟩ := ck_el h
  refine RN_getI (pc := 28) (idx := 15) (ci := 3) (k := 1) (by decide +kernel) lf_RX4_15 (Or.inl rfl) c15 ?_
  obtain ⟨c16, h⟩ := ck_el h
  refine RN_putI (pc := 31) (idx := 15) (ci := 3) (k := 1) (by decide +kernel) lf_RX4_15 rfl (fun q hq => by cases hq; exact Or.inl rfl) c16 ?_
  obtain ⟨σ17, eσ17, h⟩ := nm_el h
  refine RN_nmS eσ17 ?_
  obtain rfl := some_el h
  exact RN_return (by decide +kernel) rfl
def b_X4_become_2 : Nat → Nat → Nat → Int32 → Sg → Option Sg
  | 0, _, _, _, _ => none
  | n + 1, v0, v1, v2, σ =>
  if (8 : Int32) ≤ v2 then (
    b_X4_become_26 n v0 v1 σ)
  else (
    ck (okO σ v0 3) <|
    ck (¬ gR σ v0 0 = 0) <|
    nm (gR σ v0 0) fun r20 =>
    ck (okO σ v1 3) <|
    ck (¬ gR σ v1 0 = 0) <|
    nm (gR σ v1 0) fun r23 =>
    ck (okA σ r23 14 v2) <|
    ck (okW σ r20 14 v2) <|
    nm (pJ σ r20 v2.toNatClampNeg (gJ σ r23 v2.toNatClampNeg)) fun σ26 =>
    nm (v2 + (1 : Int32)) fun x27 =>
    b_X4_become_2 n v0 v1 x27 σ26)
set_option maxRecDepth 20000 in
theorem tb_X4_become_2 {G : Gl} {σr : Sg} (v0 : Nat) (v1 : Nat) : ∀ (n : Nat) (v2 : Int32) (σ : Sg), b_X4_become_2 n v0 v1 v2 σ = some σr → RN G M_X4_become 2 [some (.ref v0), some (.ref v1), some (.int v2)] [] σ (.inl none) σr := by
  intro n
  induction n with
  | zero =>
    intro v2 σ h
    exact none_el h
  | succ n ih =>
    intro v2 σ h
    rw [b_X4_become_2] at h
    refine RN_iload_n (pc := 2) (k := 2) (by decide +kernel) rfl rfl ?_
    refine RN_bipush (pc := 3) (n := 8) (v := 8) (by decide +kernel) (by decide) ?_
    refine RN_icmp_ge (pc := 5) (off := 21) (tgt := 26) (by decide +kernel) (by decide) (fun c14 => ?_) (fun c14 => ?_)
    · replace h := it_t c14 h
      exact RN_weak (l := [some (.ref v0), some (.ref v1)]) (And.intro rfl (And.intro rfl trivial)) (tb_X4_become_26 n v0 v1 σ h)
    · replace h := it_f c14 h
      refine RN_aload_n (pc := 8) (k := 0) (by decide +kernel) rfl rfl ?_
      obtain ⟨c18, h⟩ := ck_el h
      obtain ⟨c19, h⟩ := ck_el h
      refine RN_getR (pc := 9) (idx := 9) (ci := 3) (k := 0) (by decide +kernel) lf_RX4_9 rfl c18 c19 ?_
      obtain ⟨r20, er20, h⟩ := nm_el h
      refine RN_nmR er20 ?_
      refine RN_iload_n (pc := 12) (k := 2) (by decide +kernel) rfl rfl ?_
      refine RN_aload_n (pc := 13) (k := 1) (by decide +kernel) rfl rfl ?_
      obtain ⟨c21, h⟩ := ck_el h
      obtain ⟨c22, h⟩ := ck_el h
      refine RN_getR (pc := 14) (idx := 9) (ci := 3) (k := 0) (by decide +kernel) lf_RX4_9 rfl c21 c22 ?_
      obtain ⟨r23, er23, h⟩ := nm_el h
      refine RN_nmR er23 ?_
      refine RN_iload_n (pc := 17) (k := 2) (by decide +kernel) rfl rfl ?_
      obtain ⟨c24, h⟩ := ck_el h
      refine RN_lald (pc := 18) (by decide +kernel) c24 ?_
      obtain ⟨c25, h⟩ := ck_el h
      refine RN_last (pc := 19) (by decide +kernel) c25 ?_
      obtain ⟨σ26, eσ26, h⟩ := nm_el h
      refine RN_nmS eσ26 ?_
      obtain ⟨x27, ex27, h⟩ := nm_el h
      refine RN_iinc (pc := 20) (i := 2) (n := 1) (v := x27) (ls2 := [some (.ref v0), some (.ref v1), some (.int x27)]) (by decide +kernel) rfl (by rw [ex27]; rfl) (by decide) rfl ?_
      refine RN_goto (pc := 23) (off := -21) (tgt := 2) (by decide +kernel) (by decide) ?_
      exact RN_weak (l := [some (.ref v0), some (.ref v1), some (.int x27)]) (And.intro rfl (And.intro rfl (And.intro rfl trivial))) (ih x27 σ26 h)
def f_X4_become (n : Nat) (v0 : Nat) (v1 : Nat) (σ : Sg) : Option Sg :=
  b_X4_become_2 n v0 v1 (0 : Int32) σ
set_option maxRecDepth 20000 in
theorem t_X4_become {G : Gl} {σr : Sg} {n : Nat} {v0 : Nat} {v1 : Nat} {σ : Sg} (h : f_X4_become n v0 v1 σ = some σr) : MT G M_X4_become [.ref v0, .ref v1] σ none σr := by
  refine MT_of rfl rfl (Nat.le_of_ble_eq_true rfl) ?_
  show RN G M_X4_become 0 [some (.ref v0), some (.ref v1)] [] σ (.inl none) σr
  unfold f_X4_become at h
  refine RN_iconst (pc := 0) (n := 0) (v := 0) (by decide +kernel) (by decide) ?_
  refine RN_istore_n (pc := 1) (k := 2) (ls2 := [some (.ref v0), some (.ref v1), some (.int (0 : Int32))]) (by decide +kernel) rfl (by decide) rfl ?_
  exact RN_weak (l := [some (.ref v0), some (.ref v1), some (.int (0 : Int32))]) (And.intro rfl (And.intro rfl (And.intro rfl trivial))) (tb_X4_become_2 v0 v1 n (0 : Int32) σ h)
def b_X4_total_4 : Nat → Nat → Int64 → Int32 → Sg → Option Int64
  | 0, _, _, _, _ => none
  | n + 1, v0, v1, v3, σ =>
  if (8 : Int32) ≤ v3 then (
    some v1)
  else (
    ck (okO σ v0 3) <|
    ck (¬ gR σ v0 0 = 0) <|
    nm (gR σ v0 0) fun r10 =>
    ck (okA σ r10 14 v3) <|
    nm (v1 + (gJ σ r10 v3.toNatClampNeg)) fun x12 =>
    nm (v3 + (1 : Int32)) fun x13 =>
    b_X4_total_4 n v0 x12 x13 σ)
set_option maxRecDepth 20000 in
theorem tb_X4_total_4 {G : Gl} {xr : Int64} (v0 : Nat) (σ : Sg) : ∀ (n : Nat) (v1 : Int64) (v3 : Int32), b_X4_total_4 n v0 v1 v3 σ = some xr → RN G M_X4_total 4 [some (.ref v0), some (.long v1), none, some (.int v3)] [] σ (.inl (some (.long xr))) σ := by
  intro n
  induction n with
  | zero =>
    intro v1 v3 h
    exact none_el h
  | succ n ih =>
    intro v1 v3 h
    rw [b_X4_total_4] at h
    refine RN_iload_n (pc := 4) (k := 3) (by decide +kernel) rfl rfl ?_
    refine RN_bipush (pc := 5) (n := 8) (v := 8) (by decide +kernel) (by decide) ?_
    refine RN_icmp_ge (pc := 7) (off := 18) (tgt := 25) (by decide +kernel) (by decide) (fun c7 => ?_) (fun c7 => ?_)
    · replace h := it_t c7 h
      refine RN_lload_n (pc := 25) (k := 1) (by decide +kernel) rfl rfl ?_
      obtain rfl := some_el h
      exact RN_lreturn (by decide +kernel) rfl
    · replace h := it_f c7 h
      refine RN_lload_n (pc := 10) (k := 1) (by decide +kernel) rfl rfl ?_
      refine RN_aload_n (pc := 11) (k := 0) (by decide +kernel) rfl rfl ?_
      obtain ⟨c8, h⟩ := ck_el h
      obtain ⟨c9, h⟩ := ck_el h
      refine RN_getR (pc := 12) (idx := 9) (ci := 3) (k := 0) (by decide +kernel) lf_RX4_9 rfl c8 c9 ?_
      obtain ⟨r10, er10, h⟩ := nm_el h
      refine RN_nmR er10 ?_
      refine RN_iload_n (pc := 15) (k := 3) (by decide +kernel) rfl rfl ?_
      obtain ⟨c11, h⟩ := ck_el h
      refine RN_lald (pc := 16) (by decide +kernel) c11 ?_
      refine RN_ladd (pc := 17) (by decide +kernel) ?_
      obtain ⟨x12, ex12, h⟩ := nm_el h
      refine RN_nmJ ex12 ?_
      refine RN_lstore_n (pc := 18) (k := 1) (ls2 := [some (.ref v0), some (.long x12), none, some (.int v3)]) (by decide +kernel) rfl (by decide) rfl ?_
      obtain ⟨x13, ex13, h⟩ := nm_el h
      refine RN_iinc (pc := 19) (i := 3) (n := 1) (v := x13) (ls2 := [some (.ref v0), some (.long x12), none, some (.int x13)]) (by decide +kernel) rfl (by rw [ex13]; rfl) (by decide) rfl ?_
      refine RN_goto (pc := 22) (off := -18) (tgt := 4) (by decide +kernel) (by decide) ?_
      exact RN_weak (l := [some (.ref v0), some (.long x12), none, some (.int x13)]) (And.intro rfl (And.intro rfl (And.intro rfl trivial))) (ih x12 x13 h)
def f_X4_total (n : Nat) (v0 : Nat) (σ : Sg) : Option Int64 :=
  b_X4_total_4 n v0 (0 : Int64) (0 : Int32) σ
set_option maxRecDepth 20000 in
theorem t_X4_total {G : Gl} {xr : Int64} {n : Nat} {v0 : Nat} {σ : Sg} (h : f_X4_total n v0 σ = some xr) : MT G M_X4_total [.ref v0] σ (some (.long xr)) σ := by
  refine MT_of rfl rfl (Nat.le_of_ble_eq_true rfl) ?_
  show RN G M_X4_total 0 [some (.ref v0)] [] σ (.inl (some (.long xr))) σ
  unfold f_X4_total at h
  refine RN_lconst (pc := 0) (n := 0) (v := 0) (by decide +kernel) (by decide) ?_
  refine RN_lstore_n (pc := 1) (k := 1) (ls2 := [some (.ref v0), some (.long (0 : Int64)), none]) (by decide +kernel) rfl (by decide) rfl ?_
  refine RN_iconst (pc := 2) (n := 0) (v := 0) (by decide +kernel) (by decide) ?_
  refine RN_istore_n (pc := 3) (k := 3) (ls2 := [some (.ref v0), some (.long (0 : Int64)), none, some (.int (0 : Int32))]) (by decide +kernel) rfl (by decide) rfl ?_
  exact RN_weak (l := [some (.ref v0), some (.long (0 : Int64)), none, some (.int (0 : Int32))]) (And.intro rfl (And.intro rfl (And.intro rfl trivial))) (tb_X4_total_4 v0 σ n (0 : Int64) (0 : Int32) h)
def b_X4_matches_2 : Nat → Nat → Nat → Int32 → Int32 → Sg → Option Int32
  | 0, _, _, _, _, _ => none
  | n + 1, v0, v1, v2, v3, σ =>
  if (8 : Int32) ≤ v3 then (
    some (1 : Int32))
  else (
    ck (okO σ v0 3) <|
    ck (¬ gR σ v0 0 = 0) <|
    nm (gR σ v0 0) fun r13 =>
    ck (okA σ r13 14 v3) <|
    ck (okO σ v1 3) <|
    ck (¬ gR σ v1 0 = 0) <|
    nm (gR σ v1 0) fun r17 =>
    ck (okA σ r17 14 v3) <|
    if (gJ σ r13 v3.toNatClampNeg) = ((v2.toInt64) * (gJ σ r17 v3.toNatClampNeg)) then (
      nm (v3 + (1 : Int32)) fun x20 =>
      b_X4_matches_2 n v0 v1 v2 x20 σ)
    else (
      some (0 : Int32)))
set_option maxRecDepth 20000 in
theorem tb_X4_matches_2 {G : Gl} {xr : Int32} (v0 : Nat) (v1 : Nat) (v2 : Int32) (σ : Sg) : ∀ (n : Nat) (v3 : Int32), b_X4_matches_2 n v0 v1 v2 v3 σ = some xr → RN G M_X4_matches 2 [some (.ref v0), some (.ref v1), some (.int v2), some (.int v3)] [] σ (.inl (some (.int xr))) σ := by
  intro n
  induction n with
  | zero =>
    intro v3 h
    exact none_el h
  | succ n ih =>
    intro v3 h
    rw [b_X4_matches_2] at h
    refine RN_iload_n (pc := 2) (k := 3) (by decide +kernel) rfl rfl ?_
    refine RN_bipush (pc := 3) (n := 8) (v := 8) (by decide +kernel) (by decide) ?_
    refine RN_icmp_ge (pc := 5) (off := 30) (tgt := 35) (by decide +kernel) (by decide) (fun c10 => ?_) (fun c10 => ?_)
    · replace h := it_t c10 h
      refine RN_iconst (pc := 35) (n := 1) (v := 1) (by decide +kernel) (by decide) ?_
      obtain rfl := some_el h
      exact RN_zreturn (by decide +kernel) rfl (Or.inr rfl)
    · replace h := it_f c10 h
      refine RN_aload_n (pc := 8) (k := 0) (by decide +kernel) rfl rfl ?_
      obtain ⟨c11, h⟩ := ck_el h
      obtain ⟨c12, h⟩ := ck_el h
      refine RN_getR (pc := 9) (idx := 9) (ci := 3) (k := 0) (by decide +kernel) lf_RX4_9 rfl c11 c12 ?_
      obtain ⟨r13, er13, h⟩ := nm_el h
      refine RN_nmR er13 ?_
      refine RN_iload_n (pc := 12) (k := 3) (by decide +kernel) rfl rfl ?_
      obtain ⟨c14, h⟩ := ck_el h
      refine RN_lald (pc := 13) (by decide +kernel) c14 ?_
      refine RN_iload_n (pc := 14) (k := 2) (by decide +kernel) rfl rfl ?_
      refine RN_i2l (pc := 15) (by decide +kernel) ?_
      refine RN_aload_n (pc := 16) (k := 1) (by decide +kernel) rfl rfl ?_
      obtain ⟨c15, h⟩ := ck_el h
      obtain ⟨c16, h⟩ := ck_el h
      refine RN_getR (pc := 17) (idx := 9) (ci := 3) (k := 0) (by decide +kernel) lf_RX4_9 rfl c15 c16 ?_
      obtain ⟨r17, er17, h⟩ := nm_el h
      refine RN_nmR er17 ?_
      refine RN_iload_n (pc := 20) (k := 3) (by decide +kernel) rfl rfl ?_
      obtain ⟨c18, h⟩ := ck_el h
      refine RN_lald (pc := 21) (by decide +kernel) c18 ?_
      refine RN_lmul (pc := 22) (by decide +kernel) ?_
      refine RN_lc_eq (pc := 23) (off := 5) (tgt := 29) (by decide +kernel) (by decide +kernel) (by decide) (fun c19 => ?_) (fun c19 => ?_)
      · replace h := it_t c19 h
        obtain ⟨x20, ex20, h⟩ := nm_el h
        refine RN_iinc (pc := 29) (i := 3) (n := 1) (v := x20) (ls2 := [some (.ref v0), some (.ref v1), some (.int v2), some (.int x20)]) (by decide +kernel) rfl (by rw [ex20]; rfl) (by decide) rfl ?_
        refine RN_goto (pc := 32) (off := -30) (tgt := 2) (by decide +kernel) (by decide) ?_
        exact RN_weak (l := [some (.ref v0), some (.ref v1), some (.int v2), some (.int x20)]) (And.intro rfl (And.intro rfl (And.intro rfl (And.intro rfl trivial)))) (ih x20 h)
      · replace h := it_f c19 h
        refine RN_iconst (pc := 27) (n := 0) (v := 0) (by decide +kernel) (by decide) ?_
        obtain rfl := some_el h
        exact RN_zreturn (by decide +kernel) rfl (Or.inl rfl)
def f_X4_matches (n : Nat) (v0 : Nat) (v1 : Nat) (v2 : Int32) (σ : Sg) : Option Int32 :=
  b_X4_matches_2 n v0 v1 v2 (0 : Int32) σ
set_option maxRecDepth 20000 in
theorem t_X4_matches {G : Gl} {xr : Int32} {n : Nat} {v0 : Nat} {v1 : Nat} {v2 : Int32} {σ : Sg} (h : f_X4_matches n v0 v1 v2 σ = some xr) : MT G M_X4_matches [.ref v0, .ref v1, .int v2] σ (some (.int xr)) σ := by
  refine MT_of rfl rfl (Nat.le_of_ble_eq_true rfl) ?_
  show RN G M_X4_matches 0 [some (.ref v0), some (.ref v1), some (.int v2)] [] σ (.inl (some (.int xr))) σ
  unfold f_X4_matches at h
  refine RN_iconst (pc := 0) (n := 0) (v := 0) (by decide +kernel) (by decide) ?_
  refine RN_istore_n (pc := 1) (k := 3) (ls2 := [some (.ref v0), some (.ref v1), some (.int v2), some (.int (0 : Int32))]) (by decide +kernel) rfl (by decide) rfl ?_
  exact RN_weak (l := [some (.ref v0), some (.ref v1), some (.int v2), some (.int (0 : Int32))]) (And.intro rfl (And.intro rfl (And.intro rfl (And.intro rfl trivial)))) (tb_X4_matches_2 v0 v1 v2 σ n (0 : Int32) h)
def b_X5_wipe_56 (n : Nat) (v0 : Nat) (σ : Sg) : Option Sg :=
  ck (okO σ v0 4) <|
  ck (¬ gR σ v0 2 = 0) <|
  nm (gR σ v0 2) fun r37 =>
  ck (okO σ r37 6) <|
  bp (f_X7_wipe n r37 σ) fun σ40 =>
  ck (okO σ40 v0 4) <|
  nm (pI σ40 v0 10 (0 : Int32)) fun σ42 =>
  ck (okO σ42 v0 4) <|
  nm (pI σ42 v0 9 (-2 : Int32)) fun σ44 =>
  some σ44
set_option maxRecDepth 20000 in
theorem tb_X5_wipe_56 {G : Gl} {σr : Sg} (n : Nat) (v0 : Nat) (σ : Sg) (h : b_X5_wipe_56 n v0 σ = some σr) : RN G M_X5_wipe 56 [some (.ref v0)] [] σ (.inl none) σr := by
  unfold b_X5_wipe_56 at h
  refine RN_aload_n (pc := 56) (k := 0) (by decide +kernel) rfl rfl ?_
  obtain ⟨c35, h⟩ := ck_el h
  obtain ⟨c36, h⟩ := ck_el h
  refine RN_getR (pc := 57) (idx := 28) (ci := 4) (k := 2) (by decide +kernel) lf_RX5_28 rfl c35 c36 ?_
  obtain ⟨r37, er37, h⟩ := nm_el h
  refine RN_nmR er37 ?_
  obtain ⟨c38, h⟩ := ck_el h
  obtain ⟨σ40, f39, h⟩ := bp_el h
  refine RN_callV (M := M_X5_wipe) (pc := 60) (idx := 53) (as := []) (st := []) (t_X7_wipe f39) (by decide +kernel) lk_RX5_53 rfl ⟨by decide, fun q hq => by cases hq; rfl⟩ c38 (Nat.le_of_ble_eq_true rfl) ⟨Nat.le_of_ble_eq_true rfl, Nat.le_of_ble_eq_true rfl⟩ rfl ?_
  show RN G M_X5_wipe 63 [some (.ref v0)] [] σ40 _ _
  refine RN_aload_n (pc := 63) (k := 0) (by decide +kernel) rfl rfl ?_
  refine RN_iconst (pc := 64) (n := 0) (v := 0) (by decide +kernel) (by decide) ?_
  obtain ⟨c41, h⟩ := ck_el h
  refine RN_putZ (pc := 65) (idx := 54) (ci := 4) (k := 10) (by decide +kernel) lf_RX5_54 rfl (fun q hq => by cases hq; exact Or.inl rfl) (Or.inl rfl) c41 ?_
  obtain ⟨σ42, eσ42, h⟩ := nm_el h
  refine RN_nmS eσ42 ?_
  refine RN_aload_n (pc := 68) (k := 0) (by decide +kernel) rfl rfl ?_
  refine RN_bipush (pc := 69) (n := -2) (v := -2) (by decide +kernel) (by decide) ?_
  obtain ⟨c43, h⟩ := ck_el h
  refine RN_putI (pc := 71) (idx := 58) (ci := 4) (k := 9) (by decide +kernel) lf_RX5_58 rfl (fun q hq => by cases hq; exact Or.inl rfl) c43 ?_
  obtain ⟨σ44, eσ44, h⟩ := nm_el h
  refine RN_nmS eσ44 ?_
  obtain rfl := some_el h
  exact RN_return (by decide +kernel) rfl
def b_X5_wipe_37 : Nat → Nat → Int32 → Sg → Option Sg
  | 0, _, _, _ => none
  | n + 1, v0, v1, σ =>
  if (12 : Int32) ≤ v1 then (
    b_X5_wipe_56 n v0 σ)
  else (
    ck (okO σ v0 4) <|
    ck (¬ gR σ v0 6 = 0) <|
    nm (gR σ v0 6) fun r47 =>
    ck (okW σ r47 14 v1) <|
    nm (pJ σ r47 v1.toNatClampNeg (0 : Int64)) fun σ49 =>
    nm (v1 + (1 : Int32)) fun x50 =>
    b_X5_wipe_37 n v0 x50 σ49)
set_option maxRecDepth 20000 in
theorem tb_X5_wipe_37 {G : Gl} {σr : Sg} (v0 : Nat) : ∀ (n : Nat) (v1 : Int32) (σ : Sg), b_X5_wipe_37 n v0 v1 σ = some σr → RN G M_X5_wipe 37 [some (.ref v0), some (.int v1)] [] σ (.inl none) σr := by
  intro n
  induction n with
  | zero =>
    intro v1 σ h
    exact none_el h
  | succ n ih =>
    intro v1 σ h
    rw [b_X5_wipe_37] at h
    refine RN_iload_n (pc := 37) (k := 1) (by decide +kernel) rfl rfl ?_
    refine RN_bipush (pc := 38) (n := 12) (v := 12) (by decide +kernel) (by decide) ?_
    refine RN_icmp_ge (pc := 40) (off := 16) (tgt := 56) (by decide +kernel) (by decide) (fun c34 => ?_) (fun c34 => ?_)
    · replace h := it_t c34 h
      exact RN_weak (l := [some (.ref v0)]) (And.intro rfl trivial) (tb_X5_wipe_56 n v0 σ h)
    · replace h := it_f c34 h
      refine RN_aload_n (pc := 43) (k := 0) (by decide +kernel) rfl rfl ?_
      obtain ⟨c45, h⟩ := ck_el h
      obtain ⟨c46, h⟩ := ck_el h
      refine RN_getR (pc := 44) (idx := 43) (ci := 4) (k := 6) (by decide +kernel) lf_RX5_43 rfl c45 c46 ?_
      obtain ⟨r47, er47, h⟩ := nm_el h
      refine RN_nmR er47 ?_
      refine RN_iload_n (pc := 47) (k := 1) (by decide +kernel) rfl rfl ?_
      refine RN_lconst (pc := 48) (n := 0) (v := 0) (by decide +kernel) (by decide) ?_
      obtain ⟨c48, h⟩ := ck_el h
      refine RN_last (pc := 49) (by decide +kernel) c48 ?_
      obtain ⟨σ49, eσ49, h⟩ := nm_el h
      refine RN_nmS eσ49 ?_
      obtain ⟨x50, ex50, h⟩ := nm_el h
      refine RN_iinc (pc := 50) (i := 1) (n := 1) (v := x50) (ls2 := [some (.ref v0), some (.int x50)]) (by decide +kernel) rfl (by rw [ex50]; rfl) (by decide) rfl ?_
      refine RN_goto (pc := 53) (off := -16) (tgt := 37) (by decide +kernel) (by decide) ?_
      exact RN_weak (l := [some (.ref v0), some (.int x50)]) (And.intro rfl (And.intro rfl trivial)) (ih x50 σ49 h)
def b_X5_wipe_35 (n : Nat) (v0 : Nat) (σ : Sg) : Option Sg :=
  b_X5_wipe_37 n v0 (0 : Int32) σ
set_option maxRecDepth 20000 in
theorem tb_X5_wipe_35 {G : Gl} {σr : Sg} (n : Nat) (v0 : Nat) (σ : Sg) (h : b_X5_wipe_35 n v0 σ = some σr) : RN G M_X5_wipe 35 [some (.ref v0)] [] σ (.inl none) σr := by
  unfold b_X5_wipe_35 at h
  refine RN_iconst (pc := 35) (n := 0) (v := 0) (by decide +kernel) (by decide) ?_
  refine RN_istore_n (pc := 36) (k := 1) (ls2 := [some (.ref v0), some (.int (0 : Int32))]) (by decide +kernel) rfl (by decide) rfl ?_
  exact RN_weak (l := [some (.ref v0), some (.int (0 : Int32))]) (And.intro rfl (And.intro rfl trivial)) (tb_X5_wipe_37 v0 n (0 : Int32) σ h)
def b_X5_wipe_2 : Nat → Nat → Int32 → Sg → Option Sg
  | 0, _, _, _ => none
  | n + 1, v0, v1, σ =>
  if (8 : Int32) ≤ v1 then (
    b_X5_wipe_35 n v0 σ)
  else (
    ck (okO σ v0 4) <|
    ck (¬ gR σ v0 3 = 0) <|
    nm (gR σ v0 3) fun r53 =>
    ck (okW σ r53 14 v1) <|
    nm (pJ σ r53 v1.toNatClampNeg (0 : Int64)) fun σ55 =>
    ck (okO σ55 v0 4) <|
    ck (¬ gR σ55 v0 4 = 0) <|
    nm (gR σ55 v0 4) fun r58 =>
    ck (okW σ55 r58 14 v1) <|
    nm (pJ σ55 r58 v1.toNatClampNeg (1 : Int64)) fun σ60 =>
    ck (okO σ60 v0 4) <|
    ck (¬ gR σ60 v0 5 = 0) <|
    nm (gR σ60 v0 5) fun r63 =>
    ck (okW σ60 r63 15 v1) <|
    nm (pI σ60 r63 v1.toNatClampNeg (0 : Int32)) fun σ65 =>
    nm (v1 + (1 : Int32)) fun x66 =>
    b_X5_wipe_2 n v0 x66 σ65)
set_option maxRecDepth 20000 in
theorem tb_X5_wipe_2 {G : Gl} {σr : Sg} (v0 : Nat) : ∀ (n : Nat) (v1 : Int32) (σ : Sg), b_X5_wipe_2 n v0 v1 σ = some σr → RN G M_X5_wipe 2 [some (.ref v0), some (.int v1)] [] σ (.inl none) σr := by
  intro n
  induction n with
  | zero =>
    intro v1 σ h
    exact none_el h
  | succ n ih =>
    intro v1 σ h
    rw [b_X5_wipe_2] at h
    refine RN_iload_n (pc := 2) (k := 1) (by decide +kernel) rfl rfl ?_
    refine RN_bipush (pc := 3) (n := 8) (v := 8) (by decide +kernel) (by decide) ?_
    refine RN_icmp_ge (pc := 5) (off := 30) (tgt := 35) (by decide +kernel) (by decide) (fun c33 => ?_) (fun c33 => ?_)
    · replace h := it_t c33 h
      exact RN_weak (l := [some (.ref v0)]) (And.intro rfl trivial) (tb_X5_wipe_35 n v0 σ h)
    · replace h := it_f c33 h
      refine RN_aload_n (pc := 8) (k := 0) (by decide +kernel) rfl rfl ?_
      obtain ⟨c51, h⟩ := ck_el h
      obtain ⟨c52, h⟩ := ck_el h
      refine RN_getR (pc := 9) (idx := 32) (ci := 4) (k := 3) (by decide +kernel) lf_RX5_32 rfl c51 c52 ?_
      obtain ⟨r53, er53, h⟩ := nm_el h
      refine RN_nmR er53 ?_
      refine RN_iload_n (pc := 12) (k := 1) (by decide +kernel) rfl rfl ?_
      refine RN_lconst (pc := 13) (n := 0) (v := 0) (by decide +kernel) (by decide) ?_
      obtain ⟨c54, h⟩ := ck_el h
      refine RN_last (pc := 14) (by decide +kernel) c54 ?_
      obtain ⟨σ55, eσ55, h⟩ := nm_el h
      refine RN_nmS eσ55 ?_
      refine RN_aload_n (pc := 15) (k := 0) (by decide +kernel) rfl rfl ?_
      obtain ⟨c56, h⟩ := ck_el h
      obtain ⟨c57, h⟩ := ck_el h
      refine RN_getR (pc := 16) (idx := 36) (ci := 4) (k := 4) (by decide +kernel) lf_RX5_36 rfl c56 c57 ?_
      obtain ⟨r58, er58, h⟩ := nm_el h
      refine RN_nmR er58 ?_
      refine RN_iload_n (pc := 19) (k := 1) (by decide +kernel) rfl rfl ?_
      refine RN_lconst (pc := 20) (n := 1) (v := 1) (by decide +kernel) (by decide) ?_
      obtain ⟨c59, h⟩ := ck_el h
      refine RN_last (pc := 21) (by decide +kernel) c59 ?_
      obtain ⟨σ60, eσ60, h⟩ := nm_el h
      refine RN_nmS eσ60 ?_
      refine RN_aload_n (pc := 22) (k := 0) (by decide +kernel) rfl rfl ?_
      obtain ⟨c61, h⟩ := ck_el h
      obtain ⟨c62, h⟩ := ck_el h
      refine RN_getR (pc := 23) (idx := 39) (ci := 4) (k := 5) (by decide +kernel) lf_RX5_39 rfl c61 c62 ?_
      obtain ⟨r63, er63, h⟩ := nm_el h
      refine RN_nmR er63 ?_
      refine RN_iload_n (pc := 26) (k := 1) (by decide +kernel) rfl rfl ?_
      refine RN_iconst (pc := 27) (n := 0) (v := 0) (by decide +kernel) (by decide) ?_
      obtain ⟨c64, h⟩ := ck_el h
      refine RN_zast (pc := 28) (by decide +kernel) (Or.inl rfl) c64 ?_
      obtain ⟨σ65, eσ65, h⟩ := nm_el h
      refine RN_nmS eσ65 ?_
      obtain ⟨x66, ex66, h⟩ := nm_el h
      refine RN_iinc (pc := 29) (i := 1) (n := 1) (v := x66) (ls2 := [some (.ref v0), some (.int x66)]) (by decide +kernel) rfl (by rw [ex66]; rfl) (by decide) rfl ?_
      refine RN_goto (pc := 32) (off := -30) (tgt := 2) (by decide +kernel) (by decide) ?_
      exact RN_weak (l := [some (.ref v0), some (.int x66)]) (And.intro rfl (And.intro rfl trivial)) (ih x66 σ65 h)
def f_X5_wipe (n : Nat) (v0 : Nat) (σ : Sg) : Option Sg :=
  b_X5_wipe_2 n v0 (0 : Int32) σ
set_option maxRecDepth 20000 in
theorem t_X5_wipe {G : Gl} {σr : Sg} {n : Nat} {v0 : Nat} {σ : Sg} (h : f_X5_wipe n v0 σ = some σr) : MT G M_X5_wipe [.ref v0] σ none σr := by
  refine MT_of rfl rfl (Nat.le_of_ble_eq_true rfl) ?_
  show RN G M_X5_wipe 0 [some (.ref v0)] [] σ (.inl none) σr
  unfold f_X5_wipe at h
  refine RN_iconst (pc := 0) (n := 0) (v := 0) (by decide +kernel) (by decide) ?_
  refine RN_istore_n (pc := 1) (k := 1) (ls2 := [some (.ref v0), some (.int (0 : Int32))]) (by decide +kernel) rfl (by decide) rfl ?_
  exact RN_weak (l := [some (.ref v0), some (.int (0 : Int32))]) (And.intro rfl (And.intro rfl trivial)) (tb_X5_wipe_2 v0 n (0 : Int32) σ h)
def f_X5_init (n : Nat) (v0 : Nat) (σ : Sg) : Option Sg :=
  nm (sN σ) fun r47 =>
  nm (nw σ 0 2) fun σ48 =>
  bp (f_X0_init r47 σ48) fun σ50 =>
  ck (okO σ50 v0 4) <|
  ck (¬ r47 = 0) <|
  nm (pR σ50 v0 0 r47) fun σ53 =>
  nm (sN σ53) fun r54 =>
  nm (nw σ53 3 2) fun σ55 =>
  bp (f_X4_init r54 σ55) fun σ57 =>
  ck (okO σ57 v0 4) <|
  ck (¬ r54 = 0) <|
  nm (pR σ57 v0 1 r54) fun σ60 =>
  nm (sN σ60) fun r61 =>
  nm (nw σ60 6 7) fun σ62 =>
  bp (f_X7_init r61 σ62) fun σ64 =>
  ck (okO σ64 v0 4) <|
  ck (¬ r61 = 0) <|
  nm (pR σ64 v0 2 r61) fun σ67 =>
  nm (sN σ67) fun r68 =>
  nm (nw σ67 14 8) fun σ69 =>
  ck (okO σ69 v0 4) <|
  ck (¬ r68 = 0) <|
  nm (pR σ69 v0 3 r68) fun σ72 =>
  nm (sN σ72) fun r73 =>
  nm (nw σ72 14 8) fun σ74 =>
  ck (okO σ74 v0 4) <|
  ck (¬ r73 = 0) <|
  nm (pR σ74 v0 4 r73) fun σ77 =>
  nm (sN σ77) fun r78 =>
  nm (nw σ77 15 8) fun σ79 =>
  ck (okO σ79 v0 4) <|
  ck (¬ r78 = 0) <|
  nm (pR σ79 v0 5 r78) fun σ82 =>
  nm (sN σ82) fun r83 =>
  nm (nw σ82 14 12) fun σ84 =>
  ck (okO σ84 v0 4) <|
  ck (¬ r83 = 0) <|
  nm (pR σ84 v0 6 r83) fun σ87 =>
  ck (okO σ87 v0 4) <|
  nm (pJ σ87 v0 8 (1 : Int64)) fun σ89 =>
  ck (okO σ89 v0 4) <|
  bp (f_X5_wipe n v0 σ89) fun σ92 =>
  some σ92
set_option maxRecDepth 20000 in
theorem t_X5_init {G : Gl} {σr : Sg} {n : Nat} {v0 : Nat} {σ : Sg} (h : f_X5_init n v0 σ = some σr) : MT G M_X5_init [.ref v0] σ none σr := by
  refine MT_of rfl rfl (Nat.le_of_ble_eq_true rfl) ?_
  show RN G M_X5_init 0 [some (.ref v0)] [] σ (.inl none) σr
  unfold f_X5_init at h
  refine RN_aload_n (pc := 0) (k := 0) (by decide +kernel) rfl rfl ?_
  refine RN_objInit (pc := 1) (idx := 3) (by decide +kernel) oi_RX5_3 oi_b oi_c (by decide) (by decide) (Nat.le_of_ble_eq_true rfl) ?_
  refine RN_aload_n (pc := 4) (k := 0) (by decide +kernel) rfl rfl ?_
  refine RN_new (pc := 5) (idx := 9) (ci := 0) (N := 2) (by decide +kernel) ln_RX5_9 ?_
  obtain ⟨r47, er47, h⟩ := nm_el h
  refine RN_nmR er47 ?_
  obtain ⟨σ48, eσ48, h⟩ := nm_el h
  refine RN_nmS eσ48 ?_
  refine RN_dup (pc := 8) (by decide +kernel) rfl ?_
  obtain ⟨σ50, f49, h⟩ := bp_el h
  refine RN_callN (M := M_X5_init) (pc := 9) (idx := 11) (as := []) (st := [.ref r47, .ref v0]) (t_X0_init f49) (by decide +kernel) lk_RX5_11 rfl (Nat.le_of_ble_eq_true rfl) ⟨Nat.le_of_ble_eq_true rfl, Nat.le_of_ble_eq_true rfl⟩ rfl ?_
  show RN G M_X5_init 12 [some (.ref v0)] [.ref r47, .ref v0] σ50 _ _
  obtain ⟨c51, h⟩ := ck_el h
  obtain ⟨c52, h⟩ := ck_el h
  refine RN_putR (pc := 12) (idx := 12) (ci := 4) (k := 0) (by decide +kernel) lf_RX5_12 rfl (fun q hq => by cases hq; exact Or.inr ⟨rfl, rfl, rfl⟩) c52 c51 ?_
  obtain ⟨σ53, eσ53, h⟩ := nm_el h
  refine RN_nmS eσ53 ?_
  refine RN_aload_n (pc := 15) (k := 0) (by decide +kernel) rfl rfl ?_
  refine RN_new (pc := 16) (idx := 18) (ci := 3) (N := 2) (by decide +kernel) ln_RX5_18 ?_
  obtain ⟨r54, er54, h⟩ := nm_el h
  refine RN_nmR er54 ?_
  obtain ⟨σ55, eσ55, h⟩ := nm_el h
  refine RN_nmS eσ55 ?_
  refine RN_dup (pc := 19) (by decide +kernel) rfl ?_
  obtain ⟨σ57, f56, h⟩ := bp_el h
  refine RN_callN (M := M_X5_init) (pc := 20) (idx := 20) (as := []) (st := [.ref r54, .ref v0]) (t_X4_init f56) (by decide +kernel) lk_RX5_20 rfl (Nat.le_of_ble_eq_true rfl) ⟨Nat.le_of_ble_eq_true rfl, Nat.le_of_ble_eq_true rfl⟩ rfl ?_
  show RN G M_X5_init 23 [some (.ref v0)] [.ref r54, .ref v0] σ57 _ _
  obtain ⟨c58, h⟩ := ck_el h
  obtain ⟨c59, h⟩ := ck_el h
  refine RN_putR (pc := 23) (idx := 21) (ci := 4) (k := 1) (by decide +kernel) lf_RX5_21 rfl (fun q hq => by cases hq; exact Or.inr ⟨rfl, rfl, rfl⟩) c59 c58 ?_
  obtain ⟨σ60, eσ60, h⟩ := nm_el h
  refine RN_nmS eσ60 ?_
  refine RN_aload_n (pc := 26) (k := 0) (by decide +kernel) rfl rfl ?_
  refine RN_new (pc := 27) (idx := 25) (ci := 6) (N := 7) (by decide +kernel) ln_RX5_25 ?_
  obtain ⟨r61, er61, h⟩ := nm_el h
  refine RN_nmR er61 ?_
  obtain ⟨σ62, eσ62, h⟩ := nm_el h
  refine RN_nmS eσ62 ?_
  refine RN_dup (pc := 30) (by decide +kernel) rfl ?_
  obtain ⟨σ64, f63, h⟩ := bp_el h
  refine RN_callN (M := M_X5_init) (pc := 31) (idx := 27) (as := []) (st := [.ref r61, .ref v0]) (t_X7_init f63) (by decide +kernel) lk_RX5_27 rfl (Nat.le_of_ble_eq_true rfl) ⟨Nat.le_of_ble_eq_true rfl, Nat.le_of_ble_eq_true rfl⟩ rfl ?_
  show RN G M_X5_init 34 [some (.ref v0)] [.ref r61, .ref v0] σ64 _ _
  obtain ⟨c65, h⟩ := ck_el h
  obtain ⟨c66, h⟩ := ck_el h
  refine RN_putR (pc := 34) (idx := 28) (ci := 4) (k := 2) (by decide +kernel) lf_RX5_28 rfl (fun q hq => by cases hq; exact Or.inr ⟨rfl, rfl, rfl⟩) c66 c65 ?_
  obtain ⟨σ67, eσ67, h⟩ := nm_el h
  refine RN_nmS eσ67 ?_
  refine RN_aload_n (pc := 37) (k := 0) (by decide +kernel) rfl rfl ?_
  refine RN_bipush (pc := 38) (n := 8) (v := 8) (by decide +kernel) (by decide) ?_
  refine RN_newa (pc := 40) (atype := .long) (N := 8) (t := 14) (by decide +kernel) ⟨by decide, by decide, rfl⟩ ac_14 (by decide) (by decide) (by decide) ?_
  obtain ⟨r68, er68, h⟩ := nm_el h
  refine RN_nmR er68 ?_
  obtain ⟨σ69, eσ69, h⟩ := nm_el h
  refine RN_nmS eσ69 ?_
  obtain ⟨c70, h⟩ := ck_el h
  obtain ⟨c71, h⟩ := ck_el h
  refine RN_putR (pc := 42) (idx := 32) (ci := 4) (k := 3) (by decide +kernel) lf_RX5_32 rfl (fun q hq => by cases hq; exact Or.inr ⟨rfl, rfl, rfl⟩) c71 c70 ?_
  obtain ⟨σ72, eσ72, h⟩ := nm_el h
  refine RN_nmS eσ72 ?_
  refine RN_aload_n (pc := 45) (k := 0) (by decide +kernel) rfl rfl ?_
  refine RN_bipush (pc := 46) (n := 8) (v := 8) (by decide +kernel) (by decide) ?_
  refine RN_newa (pc := 48) (atype := .long) (N := 8) (t := 14) (by decide +kernel) ⟨by decide, by decide, rfl⟩ ac_14 (by decide) (by decide) (by decide) ?_
  obtain ⟨r73, er73, h⟩ := nm_el h
  refine RN_nmR er73 ?_
  obtain ⟨σ74, eσ74, h⟩ := nm_el h
  refine RN_nmS eσ74 ?_
  obtain ⟨c75, h⟩ := ck_el h
  obtain ⟨c76, h⟩ := ck_el h
  refine RN_putR (pc := 50) (idx := 36) (ci := 4) (k := 4) (by decide +kernel) lf_RX5_36 rfl (fun q hq => by cases hq; exact Or.inr ⟨rfl, rfl, rfl⟩) c76 c75 ?_
  obtain ⟨σ77, eσ77, h⟩ := nm_el h
  refine RN_nmS eσ77 ?_
  refine RN_aload_n (pc := 53) (k := 0) (by decide +kernel) rfl rfl ?_
  refine RN_bipush (pc := 54) (n := 8) (v := 8) (by decide +kernel) (by decide) ?_
  refine RN_newa (pc := 56) (atype := .boolean) (N := 8) (t := 15) (by decide +kernel) ⟨by decide, by decide, rfl⟩ ac_15 (by decide) (by decide) (by decide) ?_
  obtain ⟨r78, er78, h⟩ := nm_el h
  refine RN_nmR er78 ?_
  obtain ⟨σ79, eσ79, h⟩ := nm_el h
  refine RN_nmS eσ79 ?_
  obtain ⟨c80, h⟩ := ck_el h
  obtain ⟨c81, h⟩ := ck_el h
  refine RN_putR (pc := 58) (idx := 39) (ci := 4) (k := 5) (by decide +kernel) lf_RX5_39 rfl (fun q hq => by cases hq; exact Or.inr ⟨rfl, rfl, rfl⟩) c81 c80 ?_
  obtain ⟨σ82, eσ82, h⟩ := nm_el h
  refine RN_nmS eσ82 ?_
  refine RN_aload_n (pc := 61) (k := 0) (by decide +kernel) rfl rfl ?_
  refine RN_bipush (pc := 62) (n := 12) (v := 12) (by decide +kernel) (by decide) ?_
  refine RN_newa (pc := 64) (atype := .long) (N := 12) (t := 14) (by decide +kernel) ⟨by decide, by decide, rfl⟩ ac_14 (by decide) (by decide) (by decide) ?_
  obtain ⟨r83, er83, h⟩ := nm_el h
  refine RN_nmR er83 ?_
  obtain ⟨σ84, eσ84, h⟩ := nm_el h
  refine RN_nmS eσ84 ?_
  obtain ⟨c85, h⟩ := ck_el h
  obtain ⟨c86, h⟩ := ck_el h
  refine RN_putR (pc := 66) (idx := 43) (ci := 4) (k := 6) (by decide +kernel) lf_RX5_43 rfl (fun q hq => by cases hq; exact Or.inr ⟨rfl, rfl, rfl⟩) c86 c85 ?_
  obtain ⟨σ87, eσ87, h⟩ := nm_el h
  refine RN_nmS eσ87 ?_
  refine RN_aload_n (pc := 69) (k := 0) (by decide +kernel) rfl rfl ?_
  refine RN_lconst (pc := 70) (n := 1) (v := 1) (by decide +kernel) (by decide) ?_
  obtain ⟨c88, h⟩ := ck_el h
  refine RN_putJ (pc := 71) (idx := 46) (ci := 4) (k := 8) (by decide +kernel) lf_RX5_46 rfl (fun q hq => by cases hq; exact Or.inl rfl) c88 ?_
  obtain ⟨σ89, eσ89, h⟩ := nm_el h
  refine RN_nmS eσ89 ?_
  refine RN_aload_n (pc := 74) (k := 0) (by decide +kernel) rfl rfl ?_
  obtain ⟨c90, h⟩ := ck_el h
  obtain ⟨σ92, f91, h⟩ := bp_el h
  refine RN_callV (M := M_X5_init) (pc := 75) (idx := 50) (as := []) (st := []) (t_X5_wipe f91) (by decide +kernel) lk_RX5_50 rfl ⟨by decide, fun q hq => by cases hq; rfl⟩ c90 (Nat.le_of_ble_eq_true rfl) ⟨Nat.le_of_ble_eq_true rfl, Nat.le_of_ble_eq_true rfl⟩ rfl ?_
  show RN G M_X5_init 78 [some (.ref v0)] [] σ92 _ _
  obtain rfl := some_el h
  exact RN_return (by decide +kernel) rfl
def f_X5_startAfresh (n : Nat) (v0 : Nat) (σ : Sg) : Option Sg :=
  ck (okO σ v0 4) <|
  ck (¬ gR σ v0 1 = 0) <|
  nm (gR σ v0 1) fun r13 =>
  ck (okO σ r13 3) <|
  bp (f_X4_reset n r13 σ) fun σ16 =>
  ck (okO σ16 v0 4) <|
  nm (pJ σ16 v0 7 (0 : Int64)) fun σ18 =>
  ck (okO σ18 v0 4) <|
  nm (pJ σ18 v0 8 (1 : Int64)) fun σ20 =>
  some σ20
set_option maxRecDepth 20000 in
theorem t_X5_startAfresh {G : Gl} {σr : Sg} {n : Nat} {v0 : Nat} {σ : Sg} (h : f_X5_startAfresh n v0 σ = some σr) : MT G M_X5_startAfresh [.ref v0] σ none σr := by
  refine MT_of rfl rfl (Nat.le_of_ble_eq_true rfl) ?_
  show RN G M_X5_startAfresh 0 [some (.ref v0)] [] σ (.inl none) σr
  unfold f_X5_startAfresh at h
  refine RN_aload_n (pc := 0) (k := 0) (by decide +kernel) rfl rfl ?_
  obtain ⟨c11, h⟩ := ck_el h
  obtain ⟨c12, h⟩ := ck_el h
  refine RN_getR (pc := 1) (idx := 21) (ci := 4) (k := 1) (by decide +kernel) lf_RX5_21 rfl c11 c12 ?_
  obtain ⟨r13, er13, h⟩ := nm_el h
  refine RN_nmR er13 ?_
  obtain ⟨c14, h⟩ := ck_el h
  obtain ⟨σ16, f15, h⟩ := bp_el h
  refine RN_callV (M := M_X5_startAfresh) (pc := 4) (idx := 62) (as := []) (st := []) (t_X4_reset f15) (by decide +kernel) lk_RX5_62 rfl ⟨by decide, fun q hq => by cases hq; rfl⟩ c14 (Nat.le_of_ble_eq_true rfl) ⟨Nat.le_of_ble_eq_true rfl, Nat.le_of_ble_eq_true rfl⟩ rfl ?_
  show RN G M_X5_startAfresh 7 [some (.ref v0)] [] σ16 _ _
  refine RN_aload_n (pc := 7) (k := 0) (by decide +kernel) rfl rfl ?_
  refine RN_lconst (pc := 8) (n := 0) (v := 0) (by decide +kernel) (by decide) ?_
  obtain ⟨c17, h⟩ := ck_el h
  refine RN_putJ (pc := 9) (idx := 65) (ci := 4) (k := 7) (by decide +kernel) lf_RX5_65 rfl (fun q hq => by cases hq; exact Or.inl rfl) c17 ?_
  obtain ⟨σ18, eσ18, h⟩ := nm_el h
  refine RN_nmS eσ18 ?_
  refine RN_aload_n (pc := 12) (k := 0) (by decide +kernel) rfl rfl ?_
  refine RN_lconst (pc := 13) (n := 1) (v := 1) (by decide +kernel) (by decide) ?_
  obtain ⟨c19, h⟩ := ck_el h
  refine RN_putJ (pc := 14) (idx := 46) (ci := 4) (k := 8) (by decide +kernel) lf_RX5_46 rfl (fun q hq => by cases hq; exact Or.inl rfl) c19 ?_
  obtain ⟨σ20, eσ20, h⟩ := nm_el h
  refine RN_nmS eσ20 ?_
  obtain rfl := some_el h
  exact RN_return (by decide +kernel) rfl
def b_X5_sumOfLines_4 : Nat → Nat → Int64 → Int32 → Sg → Option Int64
  | 0, _, _, _, _ => none
  | n + 1, v0, v1, v3, σ =>
  ck (okO σ v0 4) <|
  ck (¬ gR σ v0 0 = 0) <|
  nm (gR σ v0 0) fun r16 =>
  ck (okO σ r16 0) <|
  if (gI σ r16 1) ≤ v3 then (
    some v1)
  else (
    nm (gR σ v0 0) fun r19 =>
    ck (okO σ r19 0) <|
    ck (¬ gR σ r19 0 = 0) <|
    nm (gR σ r19 0) fun r22 =>
    ck (okA σ r22 13 v3) <|
    nm (v1 + ((gI σ r22 v3.toNatClampNeg).toInt64)) fun x24 =>
    nm (v3 + (1 : Int32)) fun x25 =>
    b_X5_sumOfLines_4 n v0 x24 x25 σ)
set_option maxRecDepth 20000 in
theorem tb_X5_sumOfLines_4 {G : Gl} {xr : Int64} (v0 : Nat) (σ : Sg) : ∀ (n : Nat) (v1 : Int64) (v3 : Int32), b_X5_sumOfLines_4 n v0 v1 v3 σ = some xr → RN G M_X5_sumOfLines 4 [some (.ref v0), some (.long v1), none, some (.int v3)] [] σ (.inl (some (.long xr))) σ := by
  intro n
  induction n with
  | zero =>
    intro v1 v3 h
    exact none_el h
  | succ n ih =>
    intro v1 v3 h
    rw [b_X5_sumOfLines_4] at h
    refine RN_iload_n (pc := 4) (k := 3) (by decide +kernel) rfl rfl ?_
    refine RN_aload_n (pc := 5) (k := 0) (by decide +kernel) rfl rfl ?_
    obtain ⟨c14, h⟩ := ck_el h
    obtain ⟨c15, h⟩ := ck_el h
    refine RN_getR (pc := 6) (idx := 12) (ci := 4) (k := 0) (by decide +kernel) lf_RX5_12 rfl c14 c15 ?_
    obtain ⟨r16, er16, h⟩ := nm_el h
    refine RN_nmR er16 ?_
    obtain ⟨c17, h⟩ := ck_el h
    refine RN_getI (pc := 9) (idx := 161) (ci := 0) (k := 1) (by decide +kernel) lf_RX5_161 (Or.inl rfl) c17 ?_
    refine RN_icmp_ge (pc := 12) (off := 22) (tgt := 34) (by decide +kernel) (by decide) (fun c18 => ?_) (fun c18 => ?_)
    · replace h := it_t c18 h
      refine RN_lload_n (pc := 34) (k := 1) (by decide +kernel) rfl rfl ?_
      obtain rfl := some_el h
      exact RN_lreturn (by decide +kernel) rfl
    · replace h := it_f c18 h
      refine RN_lload_n (pc := 15) (k := 1) (by decide +kernel) rfl rfl ?_
      refine RN_aload_n (pc := 16) (k := 0) (by decide +kernel) rfl rfl ?_
      refine RN_getR (pc := 17) (idx := 12) (ci := 4) (k := 0) (by decide +kernel) lf_RX5_12 rfl c14 c15 ?_
      obtain ⟨r19, er19, h⟩ := nm_el h
      refine RN_nmR er19 ?_
      obtain ⟨c20, h⟩ := ck_el h
      obtain ⟨c21, h⟩ := ck_el h
      refine RN_getR (pc := 20) (idx := 162) (ci := 0) (k := 0) (by decide +kernel) lf_RX5_162 rfl c20 c21 ?_
      obtain ⟨r22, er22, h⟩ := nm_el h
      refine RN_nmR er22 ?_
      refine RN_iload_n (pc := 23) (k := 3) (by decide +kernel) rfl rfl ?_
      obtain ⟨c23, h⟩ := ck_el h
      refine RN_iald (pc := 24) (by decide +kernel) c23 ?_
      refine RN_i2l (pc := 25) (by decide +kernel) ?_
      refine RN_ladd (pc := 26) (by decide +kernel) ?_
      obtain ⟨x24, ex24, h⟩ := nm_el h
      refine RN_nmJ ex24 ?_
      refine RN_lstore_n (pc := 27) (k := 1) (ls2 := [some (.ref v0), some (.long x24), none, some (.int v3)]) (by decide +kernel) rfl (by decide) rfl ?_
      obtain ⟨x25, ex25, h⟩ := nm_el h
      refine RN_iinc (pc := 28) (i := 3) (n := 1) (v := x25) (ls2 := [some (.ref v0), some (.long x24), none, some (.int x25)]) (by decide +kernel) rfl (by rw [ex25]; rfl) (by decide) rfl ?_
      refine RN_goto (pc := 31) (off := -27) (tgt := 4) (by decide +kernel) (by decide) ?_
      exact RN_weak (l := [some (.ref v0), some (.long x24), none, some (.int x25)]) (And.intro rfl (And.intro rfl (And.intro rfl trivial))) (ih x24 x25 h)
def f_X5_sumOfLines (n : Nat) (v0 : Nat) (σ : Sg) : Option Int64 :=
  b_X5_sumOfLines_4 n v0 (0 : Int64) (0 : Int32) σ
set_option maxRecDepth 20000 in
theorem t_X5_sumOfLines {G : Gl} {xr : Int64} {n : Nat} {v0 : Nat} {σ : Sg} (h : f_X5_sumOfLines n v0 σ = some xr) : MT G M_X5_sumOfLines [.ref v0] σ (some (.long xr)) σ := by
  refine MT_of rfl rfl (Nat.le_of_ble_eq_true rfl) ?_
  show RN G M_X5_sumOfLines 0 [some (.ref v0)] [] σ (.inl (some (.long xr))) σ
  unfold f_X5_sumOfLines at h
  refine RN_lconst (pc := 0) (n := 0) (v := 0) (by decide +kernel) (by decide) ?_
  refine RN_lstore_n (pc := 1) (k := 1) (ls2 := [some (.ref v0), some (.long (0 : Int64)), none]) (by decide +kernel) rfl (by decide) rfl ?_
  refine RN_iconst (pc := 2) (n := 0) (v := 0) (by decide +kernel) (by decide) ?_
  refine RN_istore_n (pc := 3) (k := 3) (ls2 := [some (.ref v0), some (.long (0 : Int64)), none, some (.int (0 : Int32))]) (by decide +kernel) rfl (by decide) rfl ?_
  exact RN_weak (l := [some (.ref v0), some (.long (0 : Int64)), none, some (.int (0 : Int32))]) (And.intro rfl (And.intro rfl (And.intro rfl trivial))) (tb_X5_sumOfLines_4 v0 σ n (0 : Int64) (0 : Int32) h)
def f_X5_becomeWhole (v0 : Nat) (v1 : Int32) (v2 : Int64) (v4 : Int32) (σ : Sg) : Option (Int32 × Sg) :=
  bp (f_X3_isSpent v2 (1 : Int64)) fun x20 =>
  if x20 = 0 then (
    ck (okO σ v0 4) <|
    ck (¬ gR σ v0 3 = 0) <|
    nm (gR σ v0 3) fun r24 =>
    ck (okW σ r24 14 v1) <|
    nm (pJ σ r24 v1.toNatClampNeg v2) fun σ26 =>
    ck (okO σ26 v0 4) <|
    ck (¬ gR σ26 v0 4 = 0) <|
    nm (gR σ26 v0 4) fun r29 =>
    ck (okW σ26 r29 14 v1) <|
    nm (pJ σ26 r29 v1.toNatClampNeg (1 : Int64)) fun σ31 =>
    ck (okO σ31 v0 4) <|
    ck (¬ gR σ31 v0 5 = 0) <|
    nm (gR σ31 v0 5) fun r34 =>
    ck (v4 = 0 ∨ v4 = 1) <|
    ck (okW σ31 r34 15 v1) <|
    nm (pI σ31 r34 v1.toNatClampNeg v4) fun σ37 =>
    some ((0 : Int32), σ37))
  else (
    some ((-6 : Int32), σ))
set_option maxRecDepth 20000 in
theorem t_X5_becomeWhole {G : Gl} {xr : Int32} {σr : Sg} {v0 : Nat} {v1 : Int32} {v2 : Int64} {v4 : Int32} {σ : Sg} (h : f_X5_becomeWhole v0 v1 v2 v4 σ = some (xr, σr)) : MT G M_X5_becomeWhole [.ref v0, .int v1, .long v2, .int v4] σ (some (.int xr)) σr := by
  refine MT_of rfl rfl (Nat.le_of_ble_eq_true rfl) ?_
  show RN G M_X5_becomeWhole 0 [some (.ref v0), some (.int v1), some (.long v2), none, some (.int v4)] [] σ (.inl (some (.int xr))) σr
  unfold f_X5_becomeWhole at h
  refine RN_lload_n (pc := 0) (k := 2) (by decide +kernel) rfl rfl ?_
  refine RN_lconst (pc := 1) (n := 1) (v := 1) (by decide +kernel) (by decide) ?_
  obtain ⟨x20, f19, h⟩ := bp_el h
  refine RN_callS (M := M_X5_becomeWhole) (pc := 2) (idx := 157) (as := [.long v2, .long (1 : Int64)]) (st := []) (t_X3_isSpent f19) (by decide +kernel) lk_RX5_157 rfl (Nat.le_of_ble_eq_true rfl) ⟨Nat.le_of_ble_eq_true rfl, Nat.le_of_ble_eq_true rfl⟩ rfl ?_
  show RN G M_X5_becomeWhole 5 [some (.ref v0), some (.int v1), some (.long v2), none, some (.int v4)] [.int x20] σ _ _
  refine RN_if_eq (pc := 5) (off := 6) (tgt := 11) (by decide +kernel) (by decide) (fun c21 => ?_) (fun c21 => ?_)
  · replace h := it_t c21 h
    refine RN_aload_n (pc := 11) (k := 0) (by decide +kernel) rfl rfl ?_
    obtain ⟨c22, h⟩ := ck_el h
    obtain ⟨c23, h⟩ := ck_el h
    refine RN_getR (pc := 12) (idx := 32) (ci := 4) (k := 3) (by decide +kernel) lf_RX5_32 rfl c22 c23 ?_
    obtain ⟨r24, er24, h⟩ := nm_el h
    refine RN_nmR er24 ?_
    refine RN_iload_n (pc := 15) (k := 1) (by decide +kernel) rfl rfl ?_
    refine RN_lload_n (pc := 16) (k := 2) (by decide +kernel) rfl rfl ?_
    obtain ⟨c25, h⟩ := ck_el h
    refine RN_last (pc := 17) (by decide +kernel) c25 ?_
    obtain ⟨σ26, eσ26, h⟩ := nm_el h
    refine RN_nmS eσ26 ?_
    refine RN_aload_n (pc := 18) (k := 0) (by decide +kernel) rfl rfl ?_
    obtain ⟨c27, h⟩ := ck_el h
    obtain ⟨c28, h⟩ := ck_el h
    refine RN_getR (pc := 19) (idx := 36) (ci := 4) (k := 4) (by decide +kernel) lf_RX5_36 rfl c27 c28 ?_
    obtain ⟨r29, er29, h⟩ := nm_el h
    refine RN_nmR er29 ?_
    refine RN_iload_n (pc := 22) (k := 1) (by decide +kernel) rfl rfl ?_
    refine RN_lconst (pc := 23) (n := 1) (v := 1) (by decide +kernel) (by decide) ?_
    obtain ⟨c30, h⟩ := ck_el h
    refine RN_last (pc := 24) (by decide +kernel) c30 ?_
    obtain ⟨σ31, eσ31, h⟩ := nm_el h
    refine RN_nmS eσ31 ?_
    refine RN_aload_n (pc := 25) (k := 0) (by decide +kernel) rfl rfl ?_
    obtain ⟨c32, h⟩ := ck_el h
    obtain ⟨c33, h⟩ := ck_el h
    refine RN_getR (pc := 26) (idx := 39) (ci := 4) (k := 5) (by decide +kernel) lf_RX5_39 rfl c32 c33 ?_
    obtain ⟨r34, er34, h⟩ := nm_el h
    refine RN_nmR er34 ?_
    refine RN_iload_n (pc := 29) (k := 1) (by decide +kernel) rfl rfl ?_
    refine RN_iload (pc := 30) (i := 4) (by decide +kernel) rfl ?_
    obtain ⟨c35, h⟩ := ck_el h
    obtain ⟨c36, h⟩ := ck_el h
    refine RN_zast (pc := 32) (by decide +kernel) c35 c36 ?_
    obtain ⟨σ37, eσ37, h⟩ := nm_el h
    refine RN_nmS eσ37 ?_
    refine RN_iconst (pc := 33) (n := 0) (v := 0) (by decide +kernel) (by decide) ?_
    obtain ⟨rfl, rfl⟩ := some_el2 h
    exact RN_ireturn (by decide +kernel) rfl
  · replace h := it_f c21 h
    refine RN_bipush (pc := 8) (n := -6) (v := -6) (by decide +kernel) (by decide) ?_
    obtain ⟨rfl, rfl⟩ := some_el2 h
    exact RN_ireturn (by decide +kernel) rfl
def b_X5_taxLines_6 : Nat → Nat → Int64 → Int64 → Int32 → Int64 → Int32 → Sg → Option (Int64 × Sg)
  | 0, _, _, _, _, _, _, _ => none
  | n + 1, v0, v1, v3, v5, v6, v8, σ =>
  ck (okO σ v0 4) <|
  ck (¬ gR σ v0 0 = 0) <|
  nm (gR σ v0 0) fun r26 =>
  ck (okO σ r26 0) <|
  if (gI σ r26 1) ≤ v8 then (
    some (v6, σ))
  else (
    ck (¬ gR σ v0 6 = 0) <|
    nm (gR σ v0 6) fun r30 =>
    nm (gR σ v0 0) fun r31 =>
    ck (okO σ r31 0) <|
    ck (¬ gR σ r31 0 = 0) <|
    nm (gR σ r31 0) fun r34 =>
    ck (okA σ r34 13 v8) <|
    bp (f_X3_rounding (((gI σ r34 v8.toNatClampNeg).toInt64) * v1) v3 (1 : Int64) v5) fun x37 =>
    ck (okW σ r30 14 v8) <|
    nm (pJ σ r30 v8.toNatClampNeg x37) fun σ39 =>
    ck (okO σ39 v0 4) <|
    ck (¬ gR σ39 v0 6 = 0) <|
    nm (gR σ39 v0 6) fun r42 =>
    ck (okA σ39 r42 14 v8) <|
    nm (v6 + (gJ σ39 r42 v8.toNatClampNeg)) fun x44 =>
    nm (v8 + (1 : Int32)) fun x45 =>
    b_X5_taxLines_6 n v0 v1 v3 v5 x44 x45 σ39)
set_option maxRecDepth 20000 in
theorem tb_X5_taxLines_6 {G : Gl} {xr : Int64} {σr : Sg} (v0 : Nat) (v1 : Int64) (v3 : Int64) (v5 : Int32) : ∀ (n : Nat) (v6 : Int64) (v8 : Int32) (σ : Sg), b_X5_taxLines_6 n v0 v1 v3 v5 v6 v8 σ = some (xr, σr) → RN G M_X5_taxLines 6 [some (.ref v0), some (.long v1), none, some (.long v3), none, some (.int v5), some (.long v6), none, some (.int v8)] [] σ (.inl (some (.long xr))) σr := by
  intro n
  induction n with
  | zero =>
    intro v6 v8 σ h
    exact none_el h
  | succ n ih =>
    intro v6 v8 σ h
    rw [b_X5_taxLines_6] at h
    refine RN_iload (pc := 6) (i := 8) (by decide +kernel) rfl ?_
    refine RN_aload_n (pc := 8) (k := 0) (by decide +kernel) rfl rfl ?_
    obtain ⟨c24, h⟩ := ck_el h
    obtain ⟨c25, h⟩ := ck_el h
    refine RN_getR (pc := 9) (idx := 12) (ci := 4) (k := 0) (by decide +kernel) lf_RX5_12 rfl c24 c25 ?_
    obtain ⟨r26, er26, h⟩ := nm_el h
    refine RN_nmR er26 ?_
    obtain ⟨c27, h⟩ := ck_el h
    refine RN_getI (pc := 12) (idx := 161) (ci := 0) (k := 1) (by decide +kernel) lf_RX5_161 (Or.inl rfl) c27 ?_
    refine RN_icmp_ge (pc := 15) (off := 48) (tgt := 63) (by decide +kernel) (by decide) (fun c28 => ?_) (fun c28 => ?_)
    · replace h := it_t c28 h
      refine RN_lload (pc := 63) (i := 6) (by decide +kernel) rfl ?_
      obtain ⟨rfl, rfl⟩ := some_el2 h
      exact RN_lreturn (by decide +kernel) rfl
    · replace h := it_f c28 h
      refine RN_aload_n (pc := 18) (k := 0) (by decide +kernel) rfl rfl ?_
      obtain ⟨c29, h⟩ := ck_el h
      refine RN_getR (pc := 19) (idx := 43) (ci := 4) (k := 6) (by decide +kernel) lf_RX5_43 rfl c24 c29 ?_
      obtain ⟨r30, er30, h⟩ := nm_el h
      refine RN_nmR er30 ?_
      refine RN_iload (pc := 22) (i := 8) (by decide +kernel) rfl ?_
      refine RN_aload_n (pc := 24) (k := 0) (by decide +kernel) rfl rfl ?_
      refine RN_getR (pc := 25) (idx := 12) (ci := 4) (k := 0) (by decide +kernel) lf_RX5_12 rfl c24 c25 ?_
      obtain ⟨r31, er31, h⟩ := nm_el h
      refine RN_nmR er31 ?_
      obtain ⟨c32, h⟩ := ck_el h
      obtain ⟨c33, h⟩ := ck_el h
      refine RN_getR (pc := 28) (idx := 162) (ci := 0) (k := 0) (by decide +kernel) lf_RX5_162 rfl c32 c33 ?_
      obtain ⟨r34, er34, h⟩ := nm_el h
      refine RN_nmR er34 ?_
      refine RN_iload (pc := 31) (i := 8) (by decide +kernel) rfl ?_
      obtain ⟨c35, h⟩ := ck_el h
      refine RN_iald (pc := 33) (by decide +kernel) c35 ?_
      refine RN_i2l (pc := 34) (by decide +kernel) ?_
      refine RN_lload_n (pc := 35) (k := 1) (by decide +kernel) rfl rfl ?_
      refine RN_lmul (pc := 36) (by decide +kernel) ?_
      refine RN_lload_n (pc := 37) (k := 3) (by decide +kernel) rfl rfl ?_
      refine RN_lconst (pc := 38) (n := 1) (v := 1) (by decide +kernel) (by decide) ?_
      refine RN_iload (pc := 39) (i := 5) (by decide +kernel) rfl ?_
      obtain ⟨x37, f36, h⟩ := bp_el h
      refine RN_callS (M := M_X5_taxLines) (pc := 41) (idx := 117) (as := [.long (((gI σ r34 v8.toNatClampNeg).toInt64) * v1), .long v3, .long (1 : Int64), .int v5]) (st := [.int v8, .ref r30]) (t_X3_rounding f36) (by decide +kernel) lk_RX5_117 rfl (Nat.le_of_ble_eq_true rfl) ⟨Nat.le_of_ble_eq_true rfl, Nat.le_of_ble_eq_true rfl⟩ rfl ?_
      show RN G M_X5_taxLines 44 [some (.ref v0), some (.long v1), none, some (.long v3), none, some (.int v5), some (.long v6), none, some (.int v8)] [.long x37, .int v8, .ref r30] σ _ _
      obtain ⟨c38, h⟩ := ck_el h
      refine RN_last (pc := 44) (by decide +kernel) c38 ?_
      obtain ⟨σ39, eσ39, h⟩ := nm_el h
      refine RN_nmS eσ39 ?_
      refine RN_lload (pc := 45) (i := 6) (by decide +kernel) rfl ?_
      refine RN_aload_n (pc := 47) (k := 0) (by decide +kernel) rfl rfl ?_
      obtain ⟨c40, h⟩ := ck_el h
      obtain ⟨c41, h⟩ := ck_el h
      refine RN_getR (pc := 48) (idx := 43) (ci := 4) (k := 6) (by decide +kernel) lf_RX5_43 rfl c40 c41 ?_
      obtain ⟨r42, er42, h⟩ := nm_el h
      refine RN_nmR er42 ?_
      refine RN_iload (pc := 51) (i := 8) (by decide +kernel) rfl ?_
      obtain ⟨c43, h⟩ := ck_el h
      refine RN_lald (pc := 53) (by decide +kernel) c43 ?_
      refine RN_ladd (pc := 54) (by decide +kernel) ?_
      obtain ⟨x44, ex44, h⟩ := nm_el h
      refine RN_nmJ ex44 ?_
      refine RN_lstore (pc := 55) (i := 6) (ls2 := [some (.ref v0), some (.long v1), none, some (.long v3), none, some (.int v5), some (.long x44), none, some (.int v8)]) (by decide +kernel) (by decide) rfl ?_
      obtain ⟨x45, ex45, h⟩ := nm_el h
      refine RN_iinc (pc := 57) (i := 8) (n := 1) (v := x45) (ls2 := [some (.ref v0), some (.long v1), none, some (.long v3), none, some (.int v5), some (.long x44), none, some (.int x45)]) (by decide +kernel) rfl (by rw [ex45]; rfl) (by decide) rfl ?_
      refine RN_goto (pc := 60) (off := -54) (tgt := 6) (by decide +kernel) (by decide) ?_
      exact RN_weak (l := [some (.ref v0), some (.long v1), none, some (.long v3), none, some (.int v5), some (.long x44), none, some (.int x45)]) (And.intro rfl (And.intro rfl (And.intro rfl (And.intro rfl (And.intro rfl (And.intro rfl trivial)))))) (ih x44 x45 σ39 h)
def f_X5_taxLines (n : Nat) (v0 : Nat) (v1 : Int64) (v3 : Int64) (v5 : Int32) (σ : Sg) : Option (Int64 × Sg) :=
  b_X5_taxLines_6 n v0 v1 v3 v5 (0 : Int64) (0 : Int32) σ
set_option maxRecDepth 20000 in
theorem t_X5_taxLines {G : Gl} {xr : Int64} {σr : Sg} {n : Nat} {v0 : Nat} {v1 : Int64} {v3 : Int64} {v5 : Int32} {σ : Sg} (h : f_X5_taxLines n v0 v1 v3 v5 σ = some (xr, σr)) : MT G M_X5_taxLines [.ref v0, .long v1, .long v3, .int v5] σ (some (.long xr)) σr := by
  refine MT_of rfl rfl (Nat.le_of_ble_eq_true rfl) ?_
  show RN G M_X5_taxLines 0 [some (.ref v0), some (.long v1), none, some (.long v3), none, some (.int v5)] [] σ (.inl (some (.long xr))) σr
  unfold f_X5_taxLines at h
  refine RN_lconst (pc := 0) (n := 0) (v := 0) (by decide +kernel) (by decide) ?_
  refine RN_lstore (pc := 1) (i := 6) (ls2 := [some (.ref v0), some (.long v1), none, some (.long v3), none, some (.int v5), some (.long (0 : Int64)), none]) (by decide +kernel) (by decide) rfl ?_
  refine RN_iconst (pc := 3) (n := 0) (v := 0) (by decide +kernel) (by decide) ?_
  refine RN_istore (pc := 4) (i := 8) (ls2 := [some (.ref v0), some (.long v1), none, some (.long v3), none, some (.int v5), some (.long (0 : Int64)), none, some (.int (0 : Int32))]) (by decide +kernel) (by decide) rfl ?_
  exact RN_weak (l := [some (.ref v0), some (.long v1), none, some (.long v3), none, some (.int v5), some (.long (0 : Int64)), none, some (.int (0 : Int32))]) (And.intro rfl (And.intro rfl (And.intro rfl (And.intro rfl (And.intro rfl (And.intro rfl trivial)))))) (tb_X5_taxLines_6 v0 v1 v3 v5 n (0 : Int64) (0 : Int32) σ h)
def b_X5_flowLines_9 : Nat → Nat → Int64 → Int64 → Int32 → Int64 → Int64 → Int32 → Sg → Option (Int64 × Sg)
  | 0, _, _, _, _, _, _, _, _ => none
  | n + 1, v0, v1, v3, v5, v6, v8, v10, σ =>
  ck (okO σ v0 4) <|
  ck (¬ gR σ v0 0 = 0) <|
  nm (gR σ v0 0) fun r27 =>
  ck (okO σ r27 0) <|
  if (gI σ r27 1) ≤ v10 then (
    some (v8, σ))
  else (
    nm (gR σ v0 0) fun r30 =>
    ck (okO σ r30 0) <|
    ck (¬ gR σ r30 0 = 0) <|
    nm (gR σ r30 0) fun r33 =>
    ck (okA σ r33 13 v10) <|
    nm (v6 + ((gI σ r33 v10.toNatClampNeg).toInt64)) fun x35 =>
    ck (¬ gR σ v0 6 = 0) <|
    nm (gR σ v0 6) fun r37 =>
    bp (f_X3_rounding (x35 * v1) v3 (1 : Int64) v5) fun x39 =>
    ck (okW σ r37 14 v10) <|
    nm (pJ σ r37 v10.toNatClampNeg (x39 - v8)) fun σ41 =>
    ck (okO σ41 v0 4) <|
    ck (¬ gR σ41 v0 6 = 0) <|
    nm (gR σ41 v0 6) fun r44 =>
    ck (okA σ41 r44 14 v10) <|
    nm (v8 + (gJ σ41 r44 v10.toNatClampNeg)) fun x46 =>
    nm (v10 + (1 : Int32)) fun x47 =>
    b_X5_flowLines_9 n v0 v1 v3 v5 x35 x46 x47 σ41)
set_option maxRecDepth 20000 in
theorem tb_X5_flowLines_9 {G : Gl} {xr : Int64} {σr : Sg} (v0 : Nat) (v1 : Int64) (v3 : Int64) (v5 : Int32) : ∀ (n : Nat) (v6 : Int64) (v8 : Int64) (v10 : Int32) (σ : Sg), b_X5_flowLines_9 n v0 v1 v3 v5 v6 v8 v10 σ = some (xr, σr) → RN G M_X5_flowLines 9 [some (.ref v0), some (.long v1), none, some (.long v3), none, some (.int v5), some (.long v6), none, some (.long v8), none, some (.int v10)] [] σ (.inl (some (.long xr))) σr := by
  intro n
  induction n with
  | zero =>
    intro v6 v8 v10 σ h
    exact none_el h
  | succ n ih =>
    intro v6 v8 v10 σ h
    rw [b_X5_flowLines_9] at h
    refine RN_iload (pc := 9) (i := 10) (by decide +kernel) rfl ?_
    refine RN_aload_n (pc := 11) (k := 0) (by decide +kernel) rfl rfl ?_
    obtain ⟨c25, h⟩ := ck_el h
    obtain ⟨c26, h⟩ := ck_el h
    refine RN_getR (pc := 12) (idx := 12) (ci := 4) (k := 0) (by decide +kernel) lf_RX5_12 rfl c25 c26 ?_
    obtain ⟨r27, er27, h⟩ := nm_el h
    refine RN_nmR er27 ?_
    obtain ⟨c28, h⟩ := ck_el h
    refine RN_getI (pc := 15) (idx := 161) (ci := 0) (k := 1) (by decide +kernel) lf_RX5_161 (Or.inl rfl) c28 ?_
    refine RN_icmp_ge (pc := 18) (off := 58) (tgt := 76) (by decide +kernel) (by decide) (fun c29 => ?_) (fun c29 => ?_)
    · replace h := it_t c29 h
      refine RN_lload (pc := 76) (i := 8) (by decide +kernel) rfl ?_
      obtain ⟨rfl, rfl⟩ := some_el2 h
      exact RN_lreturn (by decide +kernel) rfl
    · replace h := it_f c29 h
      refine RN_lload (pc := 21) (i := 6) (by decide +kernel) rfl ?_
      refine RN_aload_n (pc := 23) (k := 0) (by decide +kernel) rfl rfl ?_
      refine RN_getR (pc := 24) (idx := 12) (ci := 4) (k := 0) (by decide +kernel) lf_RX5_12 rfl c25 c26 ?_
      obtain ⟨r30, er30, h⟩ := nm_el h
      refine RN_nmR er30 ?_
      obtain ⟨c31, h⟩ := ck_el h
      obtain ⟨c32, h⟩ := ck_el h
      refine RN_getR (pc := 27) (idx := 162) (ci := 0) (k := 0) (by decide +kernel) lf_RX5_162 rfl c31 c32 ?_
      obtain ⟨r33, er33, h⟩ := nm_el h
      refine RN_nmR er33 ?_
      refine RN_iload (pc := 30) (i := 10) (by decide +kernel) rfl ?_
      obtain ⟨c34, h⟩ := ck_el h
      refine RN_iald (pc := 32) (by decide +kernel) c34 ?_
      refine RN_i2l (pc := 33) (by decide +kernel) ?_
      refine RN_ladd (pc := 34) (by decide +kernel) ?_
      obtain ⟨x35, ex35, h⟩ := nm_el h
      refine RN_nmJ ex35 ?_
      refine RN_lstore (pc := 35) (i := 6) (ls2 := [some (.ref v0), some (.long v1), none, some (.long v3), none, some (.int v5), some (.long x35), none, some (.long v8), none, some (.int v10)]) (by decide +kernel) (by decide) rfl ?_
      refine RN_aload_n (pc := 37) (k := 0) (by decide +kernel) rfl rfl ?_
      obtain ⟨c36, h⟩ := ck_el h
      refine RN_getR (pc := 38) (idx := 43) (ci := 4) (k := 6) (by decide +kernel) lf_RX5_43 rfl c25 c36 ?_
      obtain ⟨r37, er37, h⟩ := nm_el h
      refine RN_nmR er37 ?_
      refine RN_iload (pc := 41) (i := 10) (by decide +kernel) rfl ?_
      refine RN_lload (pc := 43) (i := 6) (by decide +kernel) rfl ?_
      refine RN_lload_n (pc := 45) (k := 1) (by decide +kernel) rfl rfl ?_
      refine RN_lmul (pc := 46) (by decide +kernel) ?_
      refine RN_lload_n (pc := 47) (k := 3) (by decide +kernel) rfl rfl ?_
      refine RN_lconst (pc := 48) (n := 1) (v := 1) (by decide +kernel) (by decide) ?_
      refine RN_iload (pc := 49) (i := 5) (by decide +kernel) rfl ?_
      obtain ⟨x39, f38, h⟩ := bp_el h
      refine RN_callS (M := M_X5_flowLines) (pc := 51) (idx := 117) (as := [.long (x35 * v1), .long v3, .long (1 : Int64), .int v5]) (st := [.int v10, .ref r37]) (t_X3_rounding f38) (by decide +kernel) lk_RX5_117 rfl (Nat.le_of_ble_eq_true rfl) ⟨Nat.le_of_ble_eq_true rfl, Nat.le_of_ble_eq_true rfl⟩ rfl ?_
      show RN G M_X5_flowLines 54 [some (.ref v0), some (.long v1), none, some (.long v3), none, some (.int v5), some (.long x35), none, some (.long v8), none, some (.int v10)] [.long x39, .int v10, .ref r37] σ _ _
      refine RN_lload (pc := 54) (i := 8) (by decide +kernel) rfl ?_
      refine RN_lsub (pc := 56) (by decide +kernel) ?_
      obtain ⟨c40, h⟩ := ck_el h
      refine RN_last (pc := 57) (by decide +kernel) c40 ?_
      obtain ⟨σ41, eσ41, h⟩ := nm_el h
      refine RN_nmS eσ41 ?_
      refine RN_lload (pc := 58) (i := 8) (by decide +kernel) rfl ?_
      refine RN_aload_n (pc := 60) (k := 0) (by decide +kernel) rfl rfl ?_
      obtain ⟨c42, h⟩ := ck_el h
      obtain ⟨c43, h⟩ := ck_el h
      refine RN_getR (pc := 61) (idx := 43) (ci := 4) (k := 6) (by decide +kernel) lf_RX5_43 rfl c42 c43 ?_
      obtain ⟨r44, er44, h⟩ := nm_el h
      refine RN_nmR er44 ?_
      refine RN_iload (pc := 64) (i := 10) (by decide +kernel) rfl ?_
      obtain ⟨c45, h⟩ := ck_el h
      refine RN_lald (pc := 66) (by decide +kernel) c45 ?_
      refine RN_ladd (pc := 67) (by decide +kernel) ?_
      obtain ⟨x46, ex46, h⟩ := nm_el h
      refine RN_nmJ ex46 ?_
      refine RN_lstore (pc := 68) (i := 8) (ls2 := [some (.ref v0), some (.long v1), none, some (.long v3), none, some (.int v5), some (.long x35), none, some (.long x46), none, some (.int v10)]) (by decide +kernel) (by decide) rfl ?_
      obtain ⟨x47, ex47, h⟩ := nm_el h
      refine RN_iinc (pc := 70) (i := 10) (n := 1) (v := x47) (ls2 := [some (.ref v0), some (.long v1), none, some (.long v3), none, some (.int v5), some (.long x35), none, some (.long x46), none, some (.int x47)]) (by decide +kernel) rfl (by rw [ex47]; rfl) (by decide) rfl ?_
      refine RN_goto (pc := 73) (off := -64) (tgt := 9) (by decide +kernel) (by decide) ?_
      exact RN_weak (l := [some (.ref v0), some (.long v1), none, some (.long v3), none, some (.int v5), some (.long x35), none, some (.long x46), none, some (.int x47)]) (And.intro rfl (And.intro rfl (And.intro rfl (And.intro rfl (And.intro rfl (And.intro rfl (And.intro rfl trivial))))))) (ih x35 x46 x47 σ41 h)
def f_X5_flowLines (n : Nat) (v0 : Nat) (v1 : Int64) (v3 : Int64) (v5 : Int32) (σ : Sg) : Option (Int64 × Sg) :=
  b_X5_flowLines_9 n v0 v1 v3 v5 (0 : Int64) (0 : Int64) (0 : Int32) σ
set_option maxRecDepth 20000 in
theorem t_X5_flowLines {G : Gl} {xr : Int64} {σr : Sg} {n : Nat} {v0 : Nat} {v1 : Int64} {v3 : Int64} {v5 : Int32} {σ : Sg} (h : f_X5_flowLines n v0 v1 v3 v5 σ = some (xr, σr)) : MT G M_X5_flowLines [.ref v0, .long v1, .long v3, .int v5] σ (some (.long xr)) σr := by
  refine MT_of rfl rfl (Nat.le_of_ble_eq_true rfl) ?_
  show RN G M_X5_flowLines 0 [some (.ref v0), some (.long v1), none, some (.long v3), none, some (.int v5)] [] σ (.inl (some (.long xr))) σr
  unfold f_X5_flowLines at h
  refine RN_lconst (pc := 0) (n := 0) (v := 0) (by decide +kernel) (by decide) ?_
  refine RN_lstore (pc := 1) (i := 6) (ls2 := [some (.ref v0), some (.long v1), none, some (.long v3), none, some (.int v5), some (.long (0 : Int64)), none]) (by decide +kernel) (by decide) rfl ?_
  refine RN_lconst (pc := 3) (n := 0) (v := 0) (by decide +kernel) (by decide) ?_
  refine RN_lstore (pc := 4) (i := 8) (ls2 := [some (.ref v0), some (.long v1), none, some (.long v3), none, some (.int v5), some (.long (0 : Int64)), none, some (.long (0 : Int64)), none]) (by decide +kernel) (by decide) rfl ?_
  refine RN_iconst (pc := 6) (n := 0) (v := 0) (by decide +kernel) (by decide) ?_
  refine RN_istore (pc := 7) (i := 10) (ls2 := [some (.ref v0), some (.long v1), none, some (.long v3), none, some (.int v5), some (.long (0 : Int64)), none, some (.long (0 : Int64)), none, some (.int (0 : Int32))]) (by decide +kernel) (by decide) rfl ?_
  exact RN_weak (l := [some (.ref v0), some (.long v1), none, some (.long v3), none, some (.int v5), some (.long (0 : Int64)), none, some (.long (0 : Int64)), none, some (.int (0 : Int32))]) (And.intro rfl (And.intro rfl (And.intro rfl (And.intro rfl (And.intro rfl (And.intro rfl (And.intro rfl trivial))))))) (tb_X5_flowLines_9 v0 v1 v3 v5 n (0 : Int64) (0 : Int64) (0 : Int32) σ h)
def f_X5_become (n : Nat) (v0 : Nat) (v1 : Int32) (v2 : Int64) (v4 : Int64) (v6 : Int32) (σ : Sg) : Option (Int32 × Sg) :=
  bp (f_X3_divisor n v2 v4) fun x24 =>
  if x24 ≤ (0 : Int64) then (
    some ((-6 : Int32), σ))
  else (
    ck (¬ x24 = 0) <|
    bp (f_X3_isSpent (v2 / x24) (v4 / x24)) fun x28 =>
    if x28 = 0 then (
      ck (okO σ v0 4) <|
      ck (¬ gR σ v0 3 = 0) <|
      nm (gR σ v0 3) fun r32 =>
      ck (okW σ r32 14 v1) <|
      nm (pJ σ r32 v1.toNatClampNeg (v2 / x24)) fun σ34 =>
      ck (okO σ34 v0 4) <|
      ck (¬ gR σ34 v0 4 = 0) <|
      nm (gR σ34 v0 4) fun r37 =>
      ck (okW σ34 r37 14 v1) <|
      nm (pJ σ34 r37 v1.toNatClampNeg (v4 / x24)) fun σ39 =>
      ck (okO σ39 v0 4) <|
      ck (¬ gR σ39 v0 5 = 0) <|
      nm (gR σ39 v0 5) fun r42 =>
      ck (v6 = 0 ∨ v6 = 1) <|
      ck (okW σ39 r42 15 v1) <|
      nm (pI σ39 r42 v1.toNatClampNeg v6) fun σ45 =>
      some ((0 : Int32), σ45))
    else (
      some ((-6 : Int32), σ)))
set_option maxRecDepth 20000 in
theorem t_X5_become {G : Gl} {xr : Int32} {σr : Sg} {n : Nat} {v0 : Nat} {v1 : Int32} {v2 : Int64} {v4 : Int64} {v6 : Int32} {σ : Sg} (h : f_X5_become n v0 v1 v2 v4 v6 σ = some (xr, σr)) : MT G M_X5_become [.ref v0, .int v1, .long v2, .long v4, .int v6] σ (some (.int xr)) σr := by
  refine MT_of rfl rfl (Nat.le_of_ble_eq_true rfl) ?_
  show RN G M_X5_become 0 [some (.ref v0), some (.int v1), some (.long v2), none, some (.long v4), none, some (.int v6)] [] σ (.inl (some (.int xr))) σr
  unfold f_X5_become at h
  refine RN_lload_n (pc := 0) (k := 2) (by decide +kernel) rfl rfl ?_
  refine RN_lload (pc := 1) (i := 4) (by decide +kernel) rfl ?_
  obtain ⟨x24, f23, h⟩ := bp_el h
  refine RN_callS (M := M_X5_become) (pc := 3) (idx := 153) (as := [.long v2, .long v4]) (st := []) (t_X3_divisor f23) (by decide +kernel) lk_RX5_153 rfl (Nat.le_of_ble_eq_true rfl) ⟨Nat.le_of_ble_eq_true rfl, Nat.le_of_ble_eq_true rfl⟩ rfl ?_
  show RN G M_X5_become 6 [some (.ref v0), some (.int v1), some (.long v2), none, some (.long v4), none, some (.int v6)] [.long x24] σ _ _
  refine RN_lstore (pc := 6) (i := 7) (ls2 := [some (.ref v0), some (.int v1), some (.long v2), none, some (.long v4), none, some (.int v6), some (.long x24), none]) (by decide +kernel) (by decide) rfl ?_
  refine RN_lload (pc := 8) (i := 7) (by decide +kernel) rfl ?_
  refine RN_lconst (pc := 10) (n := 0) (v := 0) (by decide +kernel) (by decide) ?_
  refine RN_lc_le (pc := 11) (off := 18) (tgt := 30) (by decide +kernel) (by decide +kernel) (by decide) (fun c25 => ?_) (fun c25 => ?_)
  · replace h := it_t c25 h
    refine RN_bipush (pc := 30) (n := -6) (v := -6) (by decide +kernel) (by decide) ?_
    obtain ⟨rfl, rfl⟩ := some_el2 h
    exact RN_ireturn (by decide +kernel) rfl
  · replace h := it_f c25 h
    refine RN_lload_n (pc := 15) (k := 2) (by decide +kernel) rfl rfl ?_
    refine RN_lload (pc := 16) (i := 7) (by decide +kernel) rfl ?_
    obtain ⟨c26, h⟩ := ck_el h
    refine RN_ldiv (pc := 18) (by decide +kernel) c26 ?_
    refine RN_lload (pc := 19) (i := 4) (by decide +kernel) rfl ?_
    refine RN_lload (pc := 21) (i := 7) (by decide +kernel) rfl ?_
    refine RN_ldiv (pc := 23) (by decide +kernel) c26 ?_
    obtain ⟨x28, f27, h⟩ := bp_el h
    refine RN_callS (M := M_X5_become) (pc := 24) (idx := 157) (as := [.long (v2 / x24), .long (v4 / x24)]) (st := []) (t_X3_isSpent f27) (by decide +kernel) lk_RX5_157 rfl (Nat.le_of_ble_eq_true rfl) ⟨Nat.le_of_ble_eq_true rfl, Nat.le_of_ble_eq_true rfl⟩ rfl ?_
    show RN G M_X5_become 27 [some (.ref v0), some (.int v1), some (.long v2), none, some (.long v4), none, some (.int v6), some (.long x24), none] [.int x28] σ _ _
    refine RN_if_eq (pc := 27) (off := 6) (tgt := 33) (by decide +kernel) (by decide) (fun c29 => ?_) (fun c29 => ?_)
    · replace h := it_t c29 h
      refine RN_aload_n (pc := 33) (k := 0) (by decide +kernel) rfl rfl ?_
      obtain ⟨c30, h⟩ := ck_el h
      obtain ⟨c31, h⟩ := ck_el h
      refine RN_getR (pc := 34) (idx := 32) (ci := 4) (k := 3) (by decide +kernel) lf_RX5_32 rfl c30 c31 ?_
      obtain ⟨r32, er32, h⟩ := nm_el h
      refine RN_nmR er32 ?_
      refine RN_iload_n (pc := 37) (k := 1) (by decide +kernel) rfl rfl ?_
      refine RN_lload_n (pc := 38) (k := 2) (by decide +kernel) rfl rfl ?_
      refine RN_lload (pc := 39) (i := 7) (by decide +kernel) rfl ?_
      refine RN_ldiv (pc := 41) (by decide +kernel) c26 ?_
      obtain ⟨c33, h⟩ := ck_el h
      refine RN_last (pc := 42) (by decide +kernel) c33 ?_
      obtain ⟨σ34, eσ34, h⟩ := nm_el h
      refine RN_nmS eσ34 ?_
      refine RN_aload_n (pc := 43) (k := 0) (by decide +kernel) rfl rfl ?_
      obtain ⟨c35, h⟩ := ck_el h
      obtain ⟨c36, h⟩ := ck_el h
      refine RN_getR (pc := 44) (idx := 36) (ci := 4) (k := 4) (by decide +kernel) lf_RX5_36 rfl c35 c36 ?_
      obtain ⟨r37, er37, h⟩ := nm_el h
      refine RN_nmR er37 ?_
      refine RN_iload_n (pc := 47) (k := 1) (by decide +kernel) rfl rfl ?_
      refine RN_lload (pc := 48) (i := 4) (by decide +kernel) rfl ?_
      refine RN_lload (pc := 50) (i := 7) (by decide +kernel) rfl ?_
      refine RN_ldiv (pc := 52) (by decide +kernel) c26 ?_
      obtain ⟨c38, h⟩ := ck_el h
      refine RN_last (pc := 53) (by decide +kernel) c38 ?_
      obtain ⟨σ39, eσ39, h⟩ := nm_el h
      refine RN_nmS eσ39 ?_
      refine RN_aload_n (pc := 54) (k := 0) (by decide +kernel) rfl rfl ?_
      obtain ⟨c40, h⟩ := ck_el h
      obtain ⟨c41, h⟩ := ck_el h
      refine RN_getR (pc := 55) (idx := 39) (ci := 4) (k := 5) (by decide +kernel) lf_RX5_39 rfl c40 c41 ?_
      obtain ⟨r42, er42, h⟩ := nm_el h
      refine RN_nmR er42 ?_
      refine RN_iload_n (pc := 58) (k := 1) (by decide +kernel) rfl rfl ?_
      refine RN_iload (pc := 59) (i := 6) (by decide +kernel) rfl ?_
      obtain ⟨c43, h⟩ := ck_el h
      obtain ⟨c44, h⟩ := ck_el h
      refine RN_zast (pc := 61) (by decide +kernel) c43 c44 ?_
      obtain ⟨σ45, eσ45, h⟩ := nm_el h
      refine RN_nmS eσ45 ?_
      refine RN_iconst (pc := 62) (n := 0) (v := 0) (by decide +kernel) (by decide) ?_
      obtain ⟨rfl, rfl⟩ := some_el2 h
      exact RN_ireturn (by decide +kernel) rfl
    · replace h := it_f c29 h
      refine RN_bipush (pc := 30) (n := -6) (v := -6) (by decide +kernel) (by decide) ?_
      obtain ⟨rfl, rfl⟩ := some_el2 h
      exact RN_ireturn (by decide +kernel) rfl
def f_X5_carry (n : Nat) (v0 : Nat) (v1 : Int32) (σ : Sg) : Option (Int32 × Sg) :=
  ck (okO σ v0 4) <|
  ck (¬ gR σ v0 4 = 0) <|
  nm (gR σ v0 4) fun r41 =>
  ck (okA σ r41 14 v1) <|
  ck (¬ gR σ v0 3 = 0) <|
  nm (gR σ v0 3) fun r44 =>
  ck (okA σ r44 14 v1) <|
  nm (((gJ σ v0 7) * (gJ σ r41 v1.toNatClampNeg)) + ((gJ σ r44 v1.toNatClampNeg) * (gJ σ v0 8))) fun x46 =>
  nm (gR σ v0 4) fun r47 =>
  ck (okA σ r47 14 v1) <|
  nm ((gJ σ v0 8) * (gJ σ r47 v1.toNatClampNeg)) fun x49 =>
  bp (f_X3_divisor n x46 x49) fun x51 =>
  if x51 ≤ (0 : Int64) then (
    some ((-6 : Int32), σ))
  else (
    ck (¬ x51 = 0) <|
    bp (f_X3_isSpent (x46 / x51) (x49 / x51)) fun x55 =>
    if x55 = 0 then (
      nm (x46 / x51) fun x57 =>
      nm (x49 / x51) fun x58 =>
      nm (gR σ v0 3) fun r59 =>
      bp (f_X3_rounding x57 x58 (1 : Int64) (4 : Int32)) fun x61 =>
      ck (okW σ r59 14 v1) <|
      nm (pJ σ r59 v1.toNatClampNeg x61) fun σ63 =>
      ck (okO σ63 v0 4) <|
      ck (¬ gR σ63 v0 4 = 0) <|
      nm (gR σ63 v0 4) fun r66 =>
      ck (okW σ63 r66 14 v1) <|
      nm (pJ σ63 r66 v1.toNatClampNeg (1 : Int64)) fun σ68 =>
      ck (okO σ68 v0 4) <|
      ck (¬ gR σ68 v0 3 = 0) <|
      nm (gR σ68 v0 3) fun r71 =>
      ck (okA σ68 r71 14 v1) <|
      nm (pJ σ68 v0 7 (x57 - ((gJ σ68 r71 v1.toNatClampNeg) * x58))) fun σ73 =>
      ck (okO σ73 v0 4) <|
      nm (pJ σ73 v0 8 x58) fun σ75 =>
      some ((0 : Int32), σ75))
    else (
      some ((-6 : Int32), σ)))
set_option maxRecDepth 20000 in
theorem t_X5_carry {G : Gl} {xr : Int32} {σr : Sg} {n : Nat} {v0 : Nat} {v1 : Int32} {σ : Sg} (h : f_X5_carry n v0 v1 σ = some (xr, σr)) : MT G M_X5_carry [.ref v0, .int v1] σ (some (.int xr)) σr := by
  refine MT_of rfl rfl (Nat.le_of_ble_eq_true rfl) ?_
  show RN G M_X5_carry 0 [some (.ref v0), some (.int v1)] [] σ (.inl (some (.int xr))) σr
  unfold f_X5_carry at h
  refine RN_aload_n (pc := 0) (k := 0) (by decide +kernel) rfl rfl ?_
  obtain ⟨c39, h⟩ := ck_el h
  refine RN_getJ (pc := 1) (idx := 65) (ci := 4) (k := 7) (by decide +kernel) lf_RX5_65 rfl c39 ?_
  refine RN_aload_n (pc := 4) (k := 0) (by decide +kernel) rfl rfl ?_
  obtain ⟨c40, h⟩ := ck_el h
  refine RN_getR (pc := 5) (idx := 36) (ci := 4) (k := 4) (by decide +kernel) lf_RX5_36 rfl c39 c40 ?_
  obtain ⟨r41, er41, h⟩ := nm_el h
  refine RN_nmR er41 ?_
  refine RN_iload_n (pc := 8) (k := 1) (by decide +kernel) rfl rfl ?_
  obtain ⟨c42, h⟩ := ck_el h
  refine RN_lald (pc := 9) (by decide +kernel) c42 ?_
  refine RN_lmul (pc := 10) (by decide +kernel) ?_
  refine RN_aload_n (pc := 11) (k := 0) (by decide +kernel) rfl rfl ?_
  obtain ⟨c43, h⟩ := ck_el h
  refine RN_getR (pc := 12) (idx := 32) (ci := 4) (k := 3) (by decide +kernel) lf_RX5_32 rfl c39 c43 ?_
  obtain ⟨r44, er44, h⟩ := nm_el h
  refine RN_nmR er44 ?_
  refine RN_iload_n (pc := 15) (k := 1) (by decide +kernel) rfl rfl ?_
  obtain ⟨c45, h⟩ := ck_el h
  refine RN_lald (pc := 16) (by decide +kernel) c45 ?_
  refine RN_aload_n (pc := 17) (k := 0) (by decide +kernel) rfl rfl ?_
  refine RN_getJ (pc := 18) (idx := 46) (ci := 4) (k := 8) (by decide +kernel) lf_RX5_46 rfl c39 ?_
  refine RN_lmul (pc := 21) (by decide +kernel) ?_
  refine RN_ladd (pc := 22) (by decide +kernel) ?_
  obtain ⟨x46, ex46, h⟩ := nm_el h
  refine RN_nmJ ex46 ?_
  refine RN_lstore_n (pc := 23) (k := 2) (ls2 := [some (.ref v0), some (.int v1), some (.long x46), none]) (by decide +kernel) rfl (by decide) rfl ?_
  refine RN_aload_n (pc := 24) (k := 0) (by decide +kernel) rfl rfl ?_
  refine RN_getJ (pc := 25) (idx := 46) (ci := 4) (k := 8) (by decide +kernel) lf_RX5_46 rfl c39 ?_
  refine RN_aload_n (pc := 28) (k := 0) (by decide +kernel) rfl rfl ?_
  refine RN_getR (pc := 29) (idx := 36) (ci := 4) (k := 4) (by decide +kernel) lf_RX5_36 rfl c39 c40 ?_
  obtain ⟨r47, er47, h⟩ := nm_el h
  refine RN_nmR er47 ?_
  refine RN_iload_n (pc := 32) (k := 1) (by decide +kernel) rfl rfl ?_
  obtain ⟨c48, h⟩ := ck_el h
  refine RN_lald (pc := 33) (by decide +kernel) c48 ?_
  refine RN_lmul (pc := 34) (by decide +kernel) ?_
  obtain ⟨x49, ex49, h⟩ := nm_el h
  refine RN_nmJ ex49 ?_
  refine RN_lstore (pc := 35) (i := 4) (ls2 := [some (.ref v0), some (.int v1), some (.long x46), none, some (.long x49), none]) (by decide +kernel) (by decide) rfl ?_
  refine RN_lload_n (pc := 37) (k := 2) (by decide +kernel) rfl rfl ?_
  refine RN_lload (pc := 38) (i := 4) (by decide +kernel) rfl ?_
  obtain ⟨x51, f50, h⟩ := bp_el h
  refine RN_callS (M := M_X5_carry) (pc := 40) (idx := 153) (as := [.long x46, .long x49]) (st := []) (t_X3_divisor f50) (by decide +kernel) lk_RX5_153 rfl (Nat.le_of_ble_eq_true rfl) ⟨Nat.le_of_ble_eq_true rfl, Nat.le_of_ble_eq_true rfl⟩ rfl ?_
  show RN G M_X5_carry 43 [some (.ref v0), some (.int v1), some (.long x46), none, some (.long x49), none] [.long x51] σ _ _
  refine RN_lstore (pc := 43) (i := 6) (ls2 := [some (.ref v0), some (.int v1), some (.long x46), none, some (.long x49), none, some (.long x51), none]) (by decide +kernel) (by decide) rfl ?_
  refine RN_lload (pc := 45) (i := 6) (by decide +kernel) rfl ?_
  refine RN_lconst (pc := 47) (n := 0) (v := 0) (by decide +kernel) (by decide) ?_
  refine RN_lc_le (pc := 48) (off := 18) (tgt := 67) (by decide +kernel) (by decide +kernel) (by decide) (fun c52 => ?_) (fun c52 => ?_)
  · replace h := it_t c52 h
    refine RN_bipush (pc := 67) (n := -6) (v := -6) (by decide +kernel) (by decide) ?_
    obtain ⟨rfl, rfl⟩ := some_el2 h
    exact RN_ireturn (by decide +kernel) rfl
  · replace h := it_f c52 h
    refine RN_lload_n (pc := 52) (k := 2) (by decide +kernel) rfl rfl ?_
    refine RN_lload (pc := 53) (i := 6) (by decide +kernel) rfl ?_
    obtain ⟨c53, h⟩ := ck_el h
    refine RN_ldiv (pc := 55) (by decide +kernel) c53 ?_
    refine RN_lload (pc := 56) (i := 4) (by decide +kernel) rfl ?_
    refine RN_lload (pc := 58) (i := 6) (by decide +kernel) rfl ?_
    refine RN_ldiv (pc := 60) (by decide +kernel) c53 ?_
    obtain ⟨x55, f54, h⟩ := bp_el h
    refine RN_callS (M := M_X5_carry) (pc := 61) (idx := 157) (as := [.long (x46 / x51), .long (x49 / x51)]) (st := []) (t_X3_isSpent f54) (by decide +kernel) lk_RX5_157 rfl (Nat.le_of_ble_eq_true rfl) ⟨Nat.le_of_ble_eq_true rfl, Nat.le_of_ble_eq_true rfl⟩ rfl ?_
    show RN G M_X5_carry 64 [some (.ref v0), some (.int v1), some (.long x46), none, some (.long x49), none, some (.long x51), none] [.int x55] σ _ _
    refine RN_if_eq (pc := 64) (off := 6) (tgt := 70) (by decide +kernel) (by decide) (fun c56 => ?_) (fun c56 => ?_)
    · replace h := it_t c56 h
      refine RN_lload_n (pc := 70) (k := 2) (by decide +kernel) rfl rfl ?_
      refine RN_lload (pc := 71) (i := 6) (by decide +kernel) rfl ?_
      refine RN_ldiv (pc := 73) (by decide +kernel) c53 ?_
      obtain ⟨x57, ex57, h⟩ := nm_el h
      refine RN_nmJ ex57 ?_
      refine RN_lstore_n (pc := 74) (k := 2) (ls2 := [some (.ref v0), some (.int v1), some (.long x57), none, some (.long x49), none, some (.long x51), none]) (by decide +kernel) rfl (by decide) rfl ?_
      refine RN_lload (pc := 75) (i := 4) (by decide +kernel) rfl ?_
      refine RN_lload (pc := 77) (i := 6) (by decide +kernel) rfl ?_
      refine RN_ldiv (pc := 79) (by decide +kernel) c53 ?_
      obtain ⟨x58, ex58, h⟩ := nm_el h
      refine RN_nmJ ex58 ?_
      refine RN_lstore (pc := 80) (i := 4) (ls2 := [some (.ref v0), some (.int v1), some (.long x57), none, some (.long x58), none, some (.long x51), none]) (by decide +kernel) (by decide) rfl ?_
      refine RN_aload_n (pc := 82) (k := 0) (by decide +kernel) rfl rfl ?_
      refine RN_getR (pc := 83) (idx := 32) (ci := 4) (k := 3) (by decide +kernel) lf_RX5_32 rfl c39 c43 ?_
      obtain ⟨r59, er59, h⟩ := nm_el h
      refine RN_nmR er59 ?_
      refine RN_iload_n (pc := 86) (k := 1) (by decide +kernel) rfl rfl ?_
      refine RN_lload_n (pc := 87) (k := 2) (by decide +kernel) rfl rfl ?_
      refine RN_lload (pc := 88) (i := 4) (by decide +kernel) rfl ?_
      refine RN_lconst (pc := 90) (n := 1) (v := 1) (by decide +kernel) (by decide) ?_
      refine RN_iconst (pc := 91) (n := 4) (v := 4) (by decide +kernel) (by decide) ?_
      obtain ⟨x61, f60, h⟩ := bp_el h
      refine RN_callS (M := M_X5_carry) (pc := 92) (idx := 117) (as := [.long x57, .long x58, .long (1 : Int64), .int (4 : Int32)]) (st := [.int v1, .ref r59]) (t_X3_rounding f60) (by decide +kernel) lk_RX5_117 rfl (Nat.le_of_ble_eq_true rfl) ⟨Nat.le_of_ble_eq_true rfl, Nat.le_of_ble_eq_true rfl⟩ rfl ?_
      show RN G M_X5_carry 95 [some (.ref v0), some (.int v1), some (.long x57), none, some (.long x58), none, some (.long x51), none] [.long x61, .int v1, .ref r59] σ _ _
      obtain ⟨c62, h⟩ := ck_el h
      refine RN_last (pc := 95) (by decide +kernel) c62 ?_
      obtain ⟨σ63, eσ63, h⟩ := nm_el h
      refine RN_nmS eσ63 ?_
      refine RN_aload_n (pc := 96) (k := 0) (by decide +kernel) rfl rfl ?_
      obtain ⟨c64, h⟩ := ck_el h
      obtain ⟨c65, h⟩ := ck_el h
      refine RN_getR (pc := 97) (idx := 36) (ci := 4) (k := 4) (by decide +kernel) lf_RX5_36 rfl c64 c65 ?_
      obtain ⟨r66, er66, h⟩ := nm_el h
      refine RN_nmR er66 ?_
      refine RN_iload_n (pc := 100) (k := 1) (by decide +kernel) rfl rfl ?_
      refine RN_lconst (pc := 101) (n := 1) (v := 1) (by decide +kernel) (by decide) ?_
      obtain ⟨c67, h⟩ := ck_el h
      refine RN_last (pc := 102) (by decide +kernel) c67 ?_
      obtain ⟨σ68, eσ68, h⟩ := nm_el h
      refine RN_nmS eσ68 ?_
      refine RN_aload_n (pc := 103) (k := 0) (by decide +kernel) rfl rfl ?_
      refine RN_lload_n (pc := 104) (k := 2) (by decide +kernel) rfl rfl ?_
      refine RN_aload_n (pc := 105) (k := 0) (by decide +kernel) rfl rfl ?_
      obtain ⟨c69, h⟩ := ck_el h
      obtain ⟨c70, h⟩ := ck_el h
      refine RN_getR (pc := 106) (idx := 32) (ci := 4) (k := 3) (by decide +kernel) lf_RX5_32 rfl c69 c70 ?_
      obtain ⟨r71, er71, h⟩ := nm_el h
      refine RN_nmR er71 ?_
      refine RN_iload_n (pc := 109) (k := 1) (by decide +kernel) rfl rfl ?_
      obtain ⟨c72, h⟩ := ck_el h
      refine RN_lald (pc := 110) (by decide +kernel) c72 ?_
      refine RN_lload (pc := 111) (i := 4) (by decide +kernel) rfl ?_
      refine RN_lmul (pc := 113) (by decide +kernel) ?_
      refine RN_lsub (pc := 114) (by decide +kernel) ?_
      refine RN_putJ (pc := 115) (idx := 65) (ci := 4) (k := 7) (by decide +kernel) lf_RX5_65 rfl (fun q hq => by cases hq; exact Or.inl rfl) c69 ?_
      obtain ⟨σ73, eσ73, h⟩ := nm_el h
      refine RN_nmS eσ73 ?_
      refine RN_aload_n (pc := 118) (k := 0) (by decide +kernel) rfl rfl ?_
      refine RN_lload (pc := 119) (i := 4) (by decide +kernel) rfl ?_
      obtain ⟨c74, h⟩ := ck_el h
      refine RN_putJ (pc := 121) (idx := 46) (ci := 4) (k := 8) (by decide +kernel) lf_RX5_46 rfl (fun q hq => by cases hq; exact Or.inl rfl) c74 ?_
      obtain ⟨σ75, eσ75, h⟩ := nm_el h
      refine RN_nmS eσ75 ?_
      refine RN_iconst (pc := 124) (n := 0) (v := 0) (by decide +kernel) (by decide) ?_
      obtain ⟨rfl, rfl⟩ := some_el2 h
      exact RN_ireturn (by decide +kernel) rfl
    · replace h := it_f c56 h
      refine RN_bipush (pc := 67) (n := -6) (v := -6) (by decide +kernel) (by decide) ?_
      obtain ⟨rfl, rfl⟩ := some_el2 h
      exact RN_ireturn (by decide +kernel) rfl
def b_X5_cap_41 (v0 : Nat) (v1 : Int32) (v3 : Int64) (σ : Sg) : Option (Int32 × Sg) :=
  ck (okO σ v0 4) <|
  ck (¬ gR σ v0 5 = 0) <|
  nm (gR σ v0 5) fun r33 =>
  ck (okA σ r33 15 v1) <|
  bd (f_X5_becomeWhole v0 v1 v3 (gI σ r33 v1.toNatClampNeg) σ) fun x37 σ36 =>
  some (x37, σ36)
set_option maxRecDepth 20000 in
theorem tb_X5_cap_41 {G : Gl} {xr : Int32} {σr : Sg} (v0 : Nat) (v1 : Int32) (v3 : Int64) (σ : Sg) (h : b_X5_cap_41 v0 v1 v3 σ = some (xr, σr)) : RN G M_X5_cap 41 [some (.ref v0), some (.int v1), none, some (.long v3)] [] σ (.inl (some (.int xr))) σr := by
  unfold b_X5_cap_41 at h
  refine RN_aload_n (pc := 41) (k := 0) (by decide +kernel) rfl rfl ?_
  refine RN_iload_n (pc := 42) (k := 1) (by decide +kernel) rfl rfl ?_
  refine RN_lload_n (pc := 43) (k := 3) (by decide +kernel) rfl rfl ?_
  refine RN_aload_n (pc := 44) (k := 0) (by decide +kernel) rfl rfl ?_
  obtain ⟨c31, h⟩ := ck_el h
  obtain ⟨c32, h⟩ := ck_el h
  refine RN_getR (pc := 45) (idx := 39) (ci := 4) (k := 5) (by decide +kernel) lf_RX5_39 rfl c31 c32 ?_
  obtain ⟨r33, er33, h⟩ := nm_el h
  refine RN_nmR er33 ?_
  refine RN_iload_n (pc := 48) (k := 1) (by decide +kernel) rfl rfl ?_
  obtain ⟨c34, h⟩ := ck_el h
  refine RN_zald (pc := 49) (by decide +kernel) c34 ?_
  obtain ⟨x37, σ36, f35, h⟩ := bd_el h
  refine RN_callV (M := M_X5_cap) (pc := 50) (idx := 94) (as := [.int v1, .long v3, .int (gI σ r33 v1.toNatClampNeg)]) (st := []) (t_X5_becomeWhole f35) (by decide +kernel) lk_RX5_94 rfl ⟨by decide, fun q hq => by cases hq; rfl⟩ c31 (Nat.le_of_ble_eq_true rfl) ⟨Nat.le_of_ble_eq_true rfl, Nat.le_of_ble_eq_true rfl⟩ rfl ?_
  show RN G M_X5_cap 53 [some (.ref v0), some (.int v1), none, some (.long v3)] [.int x37] σ36 _ _
  obtain ⟨rfl, rfl⟩ := some_el2 h
  exact RN_ireturn (by decide +kernel) rfl
def f_X5_cap (v0 : Nat) (v1 : Int32) (v2 : Int32) (v3 : Int64) (σ : Sg) : Option (Int32 × Sg) :=
  ck (okO σ v0 4) <|
  ck (¬ gR σ v0 4 = 0) <|
  nm (gR σ v0 4) fun r23 =>
  ck (okA σ r23 14 v1) <|
  nm (v3 * (gJ σ r23 v1.toNatClampNeg)) fun x25 =>
  if v2 = 0 then (
    ck (¬ gR σ v0 3 = 0) <|
    nm (gR σ v0 3) fun r39 =>
    ck (okA σ r39 14 v1) <|
    if (gJ σ r39 v1.toNatClampNeg) ≤ x25 then (
      some ((0 : Int32), σ))
    else (
      b_X5_cap_41 v0 v1 v3 σ))
  else (
    ck (¬ gR σ v0 3 = 0) <|
    nm (gR σ v0 3) fun r28 =>
    ck (okA σ r28 14 v1) <|
    if x25 ≤ (gJ σ r28 v1.toNatClampNeg) then (
      some ((0 : Int32), σ))
    else (
      b_X5_cap_41 v0 v1 v3 σ))
set_option maxRecDepth 20000 in
theorem t_X5_cap {G : Gl} {xr : Int32} {σr : Sg} {v0 : Nat} {v1 : Int32} {v2 : Int32} {v3 : Int64} {σ : Sg} (h : f_X5_cap v0 v1 v2 v3 σ = some (xr, σr)) : MT G M_X5_cap [.ref v0, .int v1, .int v2, .long v3] σ (some (.int xr)) σr := by
  refine MT_of rfl rfl (Nat.le_of_ble_eq_true rfl) ?_
  show RN G M_X5_cap 0 [some (.ref v0), some (.int v1), some (.int v2), some (.long v3), none] [] σ (.inl (some (.int xr))) σr
  unfold f_X5_cap at h
  refine RN_lload_n (pc := 0) (k := 3) (by decide +kernel) rfl rfl ?_
  refine RN_aload_n (pc := 1) (k := 0) (by decide +kernel) rfl rfl ?_
  obtain ⟨c21, h⟩ := ck_el h
  obtain ⟨c22, h⟩ := ck_el h
  refine RN_getR (pc := 2) (idx := 36) (ci := 4) (k := 4) (by decide +kernel) lf_RX5_36 rfl c21 c22 ?_
  obtain ⟨r23, er23, h⟩ := nm_el h
  refine RN_nmR er23 ?_
  refine RN_iload_n (pc := 5) (k := 1) (by decide +kernel) rfl rfl ?_
  obtain ⟨c24, h⟩ := ck_el h
  refine RN_lald (pc := 6) (by decide +kernel) c24 ?_
  refine RN_lmul (pc := 7) (by decide +kernel) ?_
  obtain ⟨x25, ex25, h⟩ := nm_el h
  refine RN_nmJ ex25 ?_
  refine RN_lstore (pc := 8) (i := 5) (ls2 := [some (.ref v0), some (.int v1), some (.int v2), some (.long v3), none, some (.long x25), none]) (by decide +kernel) (by decide) rfl ?_
  refine RN_iload_n (pc := 10) (k := 2) (by decide +kernel) rfl rfl ?_
  refine RN_if_ne (pc := 11) (off := 18) (tgt := 29) (by decide +kernel) (by decide) (fun c26 => ?_) (fun c26 => ?_)
  · replace h := it_f c26 h
    refine RN_aload_n (pc := 29) (k := 0) (by decide +kernel) rfl rfl ?_
    obtain ⟨c27, h⟩ := ck_el h
    refine RN_getR (pc := 30) (idx := 32) (ci := 4) (k := 3) (by decide +kernel) lf_RX5_32 rfl c21 c27 ?_
    obtain ⟨r28, er28, h⟩ := nm_el h
    refine RN_nmR er28 ?_
    refine RN_iload_n (pc := 33) (k := 1) (by decide +kernel) rfl rfl ?_
    obtain ⟨c29, h⟩ := ck_el h
    refine RN_lald (pc := 34) (by decide +kernel) c29 ?_
    refine RN_lload (pc := 35) (i := 5) (by decide +kernel) rfl ?_
    refine RN_lc_ge (pc := 37) (off := 16) (tgt := 54) (by decide +kernel) (by decide +kernel) (by decide) (fun c30 => ?_) (fun c30 => ?_)
    · replace h := it_t c30 h
      refine RN_iconst (pc := 54) (n := 0) (v := 0) (by decide +kernel) (by decide) ?_
      obtain ⟨rfl, rfl⟩ := some_el2 h
      exact RN_ireturn (by decide +kernel) rfl
    · replace h := it_f c30 h
      exact RN_weak (l := [some (.ref v0), some (.int v1), none, some (.long v3)]) (And.intro rfl (And.intro rfl (And.intro rfl trivial))) (tb_X5_cap_41 v0 v1 v3 σ h)
  · replace h := it_t c26 h
    refine RN_aload_n (pc := 14) (k := 0) (by decide +kernel) rfl rfl ?_
    obtain ⟨c38, h⟩ := ck_el h
    refine RN_getR (pc := 15) (idx := 32) (ci := 4) (k := 3) (by decide +kernel) lf_RX5_32 rfl c21 c38 ?_
    obtain ⟨r39, er39, h⟩ := nm_el h
    refine RN_nmR er39 ?_
    refine RN_iload_n (pc := 18) (k := 1) (by decide +kernel) rfl rfl ?_
    obtain ⟨c40, h⟩ := ck_el h
    refine RN_lald (pc := 19) (by decide +kernel) c40 ?_
    refine RN_lload (pc := 20) (i := 5) (by decide +kernel) rfl ?_
    refine RN_lc_le (pc := 22) (off := 31) (tgt := 54) (by decide +kernel) (by decide +kernel) (by decide) (fun c41 => ?_) (fun c41 => ?_)
    · replace h := it_t c41 h
      refine RN_iconst (pc := 54) (n := 0) (v := 0) (by decide +kernel) (by decide) ?_
      obtain ⟨rfl, rfl⟩ := some_el2 h
      exact RN_ireturn (by decide +kernel) rfl
    · replace h := it_f c41 h
      refine RN_goto (pc := 26) (off := 15) (tgt := 41) (by decide +kernel) (by decide) ?_
      exact RN_weak (l := [some (.ref v0), some (.int v1), none, some (.long v3)]) (And.intro rfl (And.intro rfl (And.intro rfl trivial))) (tb_X5_cap_41 v0 v1 v3 σ h)
