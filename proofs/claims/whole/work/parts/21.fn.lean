def f_X7_init (v0 : Nat) (σ : Sg) : Option Sg :=
  nm (sN σ) fun r16 =>
  nm (nw σ 14 8) fun σ17 =>
  ck (okO σ17 v0 6) <|
  ck (¬ r16 = 0) <|
  nm (pR σ17 v0 0 r16) fun σ20 =>
  nm (sN σ20) fun r21 =>
  nm (nw σ20 13 8) fun σ22 =>
  ck (okO σ22 v0 6) <|
  ck (¬ r21 = 0) <|
  nm (pR σ22 v0 2 r21) fun σ25 =>
  nm (sN σ25) fun r26 =>
  nm (nw σ25 14 8) fun σ27 =>
  ck (okO σ27 v0 6) <|
  ck (¬ r26 = 0) <|
  nm (pR σ27 v0 3 r26) fun σ30 =>
  some σ30
set_option maxRecDepth 20000 in
theorem t_X7_init {G : Gl} {σr : Sg} {v0 : Nat} {σ : Sg} (h : f_X7_init v0 σ = some σr) : MT G M_X7_init [.ref v0] σ none σr := by
  refine MT_of rfl rfl (Nat.le_of_ble_eq_true rfl) ?_
  show RN G M_X7_init 0 [some (.ref v0)] [] σ (.inl none) σr
  unfold f_X7_init at h
  refine RN_aload_n (pc := 0) (k := 0) (by decide +kernel) rfl rfl ?_
  refine RN_objInit (pc := 1) (idx := 3) (by decide +kernel) oi_RX7_3 oi_b oi_c (by decide) (by decide) (Nat.le_of_ble_eq_true rfl) ?_
  refine RN_aload_n (pc := 4) (k := 0) (by decide +kernel) rfl rfl ?_
  refine RN_bipush (pc := 5) (n := 8) (v := 8) (by decide +kernel) (by decide) ?_
  refine RN_newa (pc := 7) (atype := .long) (N := 8) (t := 14) (by decide +kernel) ⟨by decide, by decide, rfl⟩ ac_14 (by decide) (by decide) (by decide) ?_
  obtain ⟨r16, er16, h⟩ := nm_el h
  refine RN_nmR er16 ?_
  obtain ⟨σ17, eσ17, h⟩ := nm_el h
  refine RN_nmS eσ17 ?_
  obtain ⟨c18, h⟩ := ck_el h
  obtain ⟨c19, h⟩ := ck_el h
  refine RN_putR (pc := 9) (idx := 9) (ci := 6) (k := 0) (by decide +kernel) lf_RX7_9 rfl (fun q hq => by cases hq; exact Or.inr ⟨rfl, rfl, rfl⟩) c19 c18 ?_
  obtain ⟨σ20, eσ20, h⟩ := nm_el h
  refine RN_nmS eσ20 ?_
  refine RN_aload_n (pc := 12) (k := 0) (by decide +kernel) rfl rfl ?_
  refine RN_bipush (pc := 13) (n := 8) (v := 8) (by decide +kernel) (by decide) ?_
  refine RN_newa (pc := 15) (atype := .int) (N := 8) (t := 13) (by decide +kernel) ⟨by decide, by decide, rfl⟩ ac_13 (by decide) (by decide) (by decide) ?_
  obtain ⟨r21, er21, h⟩ := nm_el h
  refine RN_nmR er21 ?_
  obtain ⟨σ22, eσ22, h⟩ := nm_el h
  refine RN_nmS eσ22 ?_
  obtain ⟨c23, h⟩ := ck_el h
  obtain ⟨c24, h⟩ := ck_el h
  refine RN_putR (pc := 17) (idx := 15) (ci := 6) (k := 2) (by decide +kernel) lf_RX7_15 rfl (fun q hq => by cases hq; exact Or.inr ⟨rfl, rfl, rfl⟩) c24 c23 ?_
  obtain ⟨σ25, eσ25, h⟩ := nm_el h
  refine RN_nmS eσ25 ?_
  refine RN_aload_n (pc := 20) (k := 0) (by decide +kernel) rfl rfl ?_
  refine RN_bipush (pc := 21) (n := 8) (v := 8) (by decide +kernel) (by decide) ?_
  refine RN_newa (pc := 23) (atype := .long) (N := 8) (t := 14) (by decide +kernel) ⟨by decide, by decide, rfl⟩ ac_14 (by decide) (by decide) (by decide) ?_
  obtain ⟨r26, er26, h⟩ := nm_el h
  refine RN_nmR er26 ?_
  obtain ⟨σ27, eσ27, h⟩ := nm_el h
  refine RN_nmS eσ27 ?_
  obtain ⟨c28, h⟩ := ck_el h
  obtain ⟨c29, h⟩ := ck_el h
  refine RN_putR (pc := 25) (idx := 19) (ci := 6) (k := 3) (by decide +kernel) lf_RX7_19 rfl (fun q hq => by cases hq; exact Or.inr ⟨rfl, rfl, rfl⟩) c29 c28 ?_
  obtain ⟨σ30, eσ30, h⟩ := nm_el h
  refine RN_nmS eσ30 ?_
  obtain rfl := some_el h
  exact RN_return (by decide +kernel) rfl
def f_X2_init (v0 : Nat) (σ : Sg) : Option Sg :=
  nm (sN σ) fun r20 =>
  nm (nw σ 3 2) fun σ21 =>
  bp (f_X4_init r20 σ21) fun σ23 =>
  ck (okO σ23 v0 2) <|
  ck (¬ r20 = 0) <|
  nm (pR σ23 v0 0 r20) fun σ26 =>
  nm (sN σ26) fun r27 =>
  nm (nw σ26 6 7) fun σ28 =>
  bp (f_X7_init r27 σ28) fun σ30 =>
  ck (okO σ30 v0 2) <|
  ck (¬ r27 = 0) <|
  nm (pR σ30 v0 1 r27) fun σ33 =>
  nm (sN σ33) fun r34 =>
  nm (nw σ33 12 8) fun σ35 =>
  ck (okO σ35 v0 2) <|
  ck (¬ r34 = 0) <|
  nm (pR σ35 v0 2 r34) fun σ38 =>
  some σ38
set_option maxRecDepth 20000 in
theorem t_X2_init {G : Gl} {σr : Sg} {v0 : Nat} {σ : Sg} (h : f_X2_init v0 σ = some σr) : MT G M_X2_init [.ref v0] σ none σr := by
  refine MT_of rfl rfl (Nat.le_of_ble_eq_true rfl) ?_
  show RN G M_X2_init 0 [some (.ref v0)] [] σ (.inl none) σr
  unfold f_X2_init at h
  refine RN_aload_n (pc := 0) (k := 0) (by decide +kernel) rfl rfl ?_
  refine RN_objInit (pc := 1) (idx := 3) (by decide +kernel) oi_RX2_3 oi_b oi_c (by decide) (by decide) (Nat.le_of_ble_eq_true rfl) ?_
  refine RN_aload_n (pc := 4) (k := 0) (by decide +kernel) rfl rfl ?_
  refine RN_new (pc := 5) (idx := 9) (ci := 3) (N := 2) (by decide +kernel) ln_RX2_9 ?_
  obtain ⟨r20, er20, h⟩ := nm_el h
  refine RN_nmR er20 ?_
  obtain ⟨σ21, eσ21, h⟩ := nm_el h
  refine RN_nmS eσ21 ?_
  refine RN_dup (pc := 8) (by decide +kernel) rfl ?_
  obtain ⟨σ23, f22, h⟩ := bp_el h
  refine RN_callN (M := M_X2_init) (pc := 9) (idx := 11) (as := []) (st := [.ref r20, .ref v0]) (t_X4_init f22) (by decide +kernel) lk_RX2_11 rfl (Nat.le_of_ble_eq_true rfl) ⟨Nat.le_of_ble_eq_true rfl, Nat.le_of_ble_eq_true rfl⟩ rfl ?_
  show RN G M_X2_init 12 [some (.ref v0)] [.ref r20, .ref v0] σ23 _ _
  obtain ⟨c24, h⟩ := ck_el h
  obtain ⟨c25, h⟩ := ck_el h
  refine RN_putR (pc := 12) (idx := 12) (ci := 2) (k := 0) (by decide +kernel) lf_RX2_12 rfl (fun q hq => by cases hq; exact Or.inr ⟨rfl, rfl, rfl⟩) c25 c24 ?_
  obtain ⟨σ26, eσ26, h⟩ := nm_el h
  refine RN_nmS eσ26 ?_
  refine RN_aload_n (pc := 15) (k := 0) (by decide +kernel) rfl rfl ?_
  refine RN_new (pc := 16) (idx := 18) (ci := 6) (N := 7) (by decide +kernel) ln_RX2_18 ?_
  obtain ⟨r27, er27, h⟩ := nm_el h
  refine RN_nmR er27 ?_
  obtain ⟨σ28, eσ28, h⟩ := nm_el h
  refine RN_nmS eσ28 ?_
  refine RN_dup (pc := 19) (by decide +kernel) rfl ?_
  obtain ⟨σ30, f29, h⟩ := bp_el h
  refine RN_callN (M := M_X2_init) (pc := 20) (idx := 20) (as := []) (st := [.ref r27, .ref v0]) (t_X7_init f29) (by decide +kernel) lk_RX2_20 rfl (Nat.le_of_ble_eq_true rfl) ⟨Nat.le_of_ble_eq_true rfl, Nat.le_of_ble_eq_true rfl⟩ rfl ?_
  show RN G M_X2_init 23 [some (.ref v0)] [.ref r27, .ref v0] σ30 _ _
  obtain ⟨c31, h⟩ := ck_el h
  obtain ⟨c32, h⟩ := ck_el h
  refine RN_putR (pc := 23) (idx := 21) (ci := 2) (k := 1) (by decide +kernel) lf_RX2_21 rfl (fun q hq => by cases hq; exact Or.inr ⟨rfl, rfl, rfl⟩) c32 c31 ?_
  obtain ⟨σ33, eσ33, h⟩ := nm_el h
  refine RN_nmS eσ33 ?_
  refine RN_aload_n (pc := 26) (k := 0) (by decide +kernel) rfl rfl ?_
  refine RN_bipush (pc := 27) (n := 8) (v := 8) (by decide +kernel) (by decide) ?_
  refine RN_newa (pc := 29) (atype := .double) (N := 8) (t := 12) (by decide +kernel) ⟨by decide, by decide, rfl⟩ ac_12 (by decide) (by decide) (by decide) ?_
  obtain ⟨r34, er34, h⟩ := nm_el h
  refine RN_nmR er34 ?_
  obtain ⟨σ35, eσ35, h⟩ := nm_el h
  refine RN_nmS eσ35 ?_
  obtain ⟨c36, h⟩ := ck_el h
  obtain ⟨c37, h⟩ := ck_el h
  refine RN_putR (pc := 31) (idx := 25) (ci := 2) (k := 2) (by decide +kernel) lf_RX2_25 rfl (fun q hq => by cases hq; exact Or.inr ⟨rfl, rfl, rfl⟩) c37 c36 ?_
  obtain ⟨σ38, eσ38, h⟩ := nm_el h
  refine RN_nmS eσ38 ?_
  obtain rfl := some_el h
  exact RN_return (by decide +kernel) rfl
def b_X4_reset_21 (n : Nat) (v0 : Nat) (σ : Sg) : Option Sg :=
  ck (okO σ v0 3) <|
  nm (pI σ v0 1 (0 : Int32)) fun σ11 =>
  some σ11
set_option maxRecDepth 20000 in
theorem tb_X4_reset_21 {G : Gl} {σr : Sg} (n : Nat) (v0 : Nat) (σ : Sg) (h : b_X4_reset_21 n v0 σ = some σr) : RN G M_X4_reset 21 [some (.ref v0)] [] σ (.inl none) σr := by
  unfold b_X4_reset_21 at h
  refine RN_aload_n (pc := 21) (k := 0) (by decide +kernel) rfl rfl ?_
  refine RN_iconst (pc := 22) (n := 0) (v := 0) (by decide +kernel) (by decide) ?_
  obtain ⟨c10, h⟩ := ck_el h
  refine RN_putI (pc := 23) (idx := 15) (ci := 3) (k := 1) (by decide +kernel) lf_RX4_15 rfl (fun q hq => by cases hq; exact Or.inl rfl) c10 ?_
  obtain ⟨σ11, eσ11, h⟩ := nm_el h
  refine RN_nmS eσ11 ?_
  obtain rfl := some_el h
  exact RN_return (by decide +kernel) rfl
def b_X4_reset_2 : Nat → Nat → Int32 → Sg → Option Sg
  | 0, _, _, _ => none
  | n + 1, v0, v1, σ =>
  if (8 : Int32) ≤ v1 then (
    b_X4_reset_21 n v0 σ)
  else (
    ck (okO σ v0 3) <|
    ck (¬ gR σ v0 0 = 0) <|
    nm (gR σ v0 0) fun r14 =>
    ck (okW σ r14 14 v1) <|
    nm (pJ σ r14 v1.toNatClampNeg (0 : Int64)) fun σ16 =>
    nm (v1 + (1 : Int32)) fun x17 =>
    b_X4_reset_2 n v0 x17 σ16)
set_option maxRecDepth 20000 in
theorem tb_X4_reset_2 {G : Gl} {σr : Sg} (v0 : Nat) : ∀ (n : Nat) (v1 : Int32) (σ : Sg), b_X4_reset_2 n v0 v1 σ = some σr → RN G M_X4_reset 2 [some (.ref v0), some (.int v1)] [] σ (.inl none) σr := by
  intro n
  induction n with
  | zero =>
    intro v1 σ h
    exact none_el h
  | succ n ih =>
    intro v1 σ h
    rw [b_X4_reset_2] at h
    refine RN_iload_n (pc := 2) (k := 1) (by decide +kernel) rfl rfl ?_
    refine RN_bipush (pc := 3) (n := 8) (v := 8) (by decide +kernel) (by decide) ?_
    refine RN_icmp_ge (pc := 5) (off := 16) (tgt := 21) (by decide +kernel) (by decide) (fun c9 => ?_) (fun c9 => ?_)
    · replace h := it_t c9 h
      exact RN_weak (l := [some (.ref v0)]) (And.intro rfl trivial) (tb_X4_reset_21 n v0 σ h)
    · replace h := it_f c9 h
      refine RN_aload_n (pc := 8) (k := 0) (by decide +kernel) rfl rfl ?_
      obtain ⟨c12, h⟩ := ck_el h
      obtain ⟨c13, h⟩ := ck_el h
      refine RN_getR (pc := 9) (idx := 9) (ci := 3) (k := 0) (by decide +kernel) lf_RX4_9 rfl c12 c13 ?_
      obtain ⟨r14, er14, h⟩ := nm_el h
      refine RN_nmR er14 ?_
      refine RN_iload_n (pc := 12) (k := 1) (by decide +kernel) rfl rfl ?_
      refine RN_lconst (pc := 13) (n := 0) (v := 0) (by decide +kernel) (by decide) ?_
      obtain ⟨c15, h⟩ := ck_el h
      refine RN_last (pc := 14) (by decide +kernel) c15 ?_
      obtain ⟨σ16, eσ16, h⟩ := nm_el h
      refine RN_nmS eσ16 ?_
      obtain ⟨x17, ex17, h⟩ := nm_el h
      refine RN_iinc (pc := 15) (i := 1) (n := 1) (v := x17) (ls2 := [some (.ref v0), some (.int x17)]) (by decide +kernel) rfl (by rw [ex17]; rfl) (by decide) rfl ?_
      refine RN_goto (pc := 18) (off := -16) (tgt := 2) (by decide +kernel) (by decide) ?_
      exact RN_weak (l := [some (.ref v0), some (.int x17)]) (And.intro rfl (And.intro rfl trivial)) (ih x17 σ16 h)
def f_X4_reset (n : Nat) (v0 : Nat) (σ : Sg) : Option Sg :=
  b_X4_reset_2 n v0 (0 : Int32) σ
set_option maxRecDepth 20000 in
theorem t_X4_reset {G : Gl} {σr : Sg} {n : Nat} {v0 : Nat} {σ : Sg} (h : f_X4_reset n v0 σ = some σr) : MT G M_X4_reset [.ref v0] σ none σr := by
  refine MT_of rfl rfl (Nat.le_of_ble_eq_true rfl) ?_
  show RN G M_X4_reset 0 [some (.ref v0)] [] σ (.inl none) σr
  unfold f_X4_reset at h
  refine RN_iconst (pc := 0) (n := 0) (v := 0) (by decide +kernel) (by decide) ?_
  refine RN_istore_n (pc := 1) (k := 1) (ls2 := [some (.ref v0), some (.int (0 : Int32))]) (by decide +kernel) rfl (by decide) rfl ?_
  exact RN_weak (l := [some (.ref v0), some (.int (0 : Int32))]) (And.intro rfl (And.intro rfl trivial)) (tb_X4_reset_2 v0 n (0 : Int32) σ h)
def b_X7_wipe_21 (n : Nat) (v0 : Nat) (σ : Sg) : Option Sg :=
  ck (okO σ v0 6) <|
  nm (pI σ v0 1 (0 : Int32)) fun σ11 =>
  some σ11
set_option maxRecDepth 20000 in
theorem tb_X7_wipe_21 {G : Gl} {σr : Sg} (n : Nat) (v0 : Nat) (σ : Sg) (h : b_X7_wipe_21 n v0 σ = some σr) : RN G M_X7_wipe 21 [some (.ref v0)] [] σ (.inl none) σr := by
  unfold b_X7_wipe_21 at h
  refine RN_aload_n (pc := 21) (k := 0) (by decide +kernel) rfl rfl ?_
  refine RN_iconst (pc := 22) (n := 0) (v := 0) (by decide +kernel) (by decide) ?_
  obtain ⟨c10, h⟩ := ck_el h
  refine RN_putZ (pc := 23) (idx := 22) (ci := 6) (k := 1) (by decide +kernel) lf_RX7_22 rfl (fun q hq => by cases hq; exact Or.inl rfl) (Or.inl rfl) c10 ?_
  obtain ⟨σ11, eσ11, h⟩ := nm_el h
  refine RN_nmS eσ11 ?_
  obtain rfl := some_el h
  exact RN_return (by decide +kernel) rfl
def b_X7_wipe_2 : Nat → Nat → Int32 → Sg → Option Sg
  | 0, _, _, _ => none
  | n + 1, v0, v1, σ =>
  if (8 : Int32) ≤ v1 then (
    b_X7_wipe_21 n v0 σ)
  else (
    ck (okO σ v0 6) <|
    ck (¬ gR σ v0 0 = 0) <|
    nm (gR σ v0 0) fun r14 =>
    ck (okW σ r14 14 v1) <|
    nm (pJ σ r14 v1.toNatClampNeg (0 : Int64)) fun σ16 =>
    nm (v1 + (1 : Int32)) fun x17 =>
    b_X7_wipe_2 n v0 x17 σ16)
set_option maxRecDepth 20000 in
theorem tb_X7_wipe_2 {G : Gl} {σr : Sg} (v0 : Nat) : ∀ (n : Nat) (v1 : Int32) (σ : Sg), b_X7_wipe_2 n v0 v1 σ = some σr → RN G M_X7_wipe 2 [some (.ref v0), some (.int v1)] [] σ (.inl none) σr := by
  intro n
  induction n with
  | zero =>
    intro v1 σ h
    exact none_el h
  | succ n ih =>
    intro v1 σ h
    rw [b_X7_wipe_2] at h
    refine RN_iload_n (pc := 2) (k := 1) (by decide +kernel) rfl rfl ?_
    refine RN_bipush (pc := 3) (n := 8) (v := 8) (by decide +kernel) (by decide) ?_
    refine RN_icmp_ge (pc := 5) (off := 16) (tgt := 21) (by decide +kernel) (by decide) (fun c9 => ?_) (fun c9 => ?_)
    · replace h := it_t c9 h
      exact RN_weak (l := [some (.ref v0)]) (And.intro rfl trivial) (tb_X7_wipe_21 n v0 σ h)
    · replace h := it_f c9 h
      refine RN_aload_n (pc := 8) (k := 0) (by decide +kernel) rfl rfl ?_
      obtain ⟨c12, h⟩ := ck_el h
      obtain ⟨c13, h⟩ := ck_el h
      refine RN_getR (pc := 9) (idx := 9) (ci := 6) (k := 0) (by decide +kernel) lf_RX7_9 rfl c12 c13 ?_
      obtain ⟨r14, er14, h⟩ := nm_el h
      refine RN_nmR er14 ?_
      refine RN_iload_n (pc := 12) (k := 1) (by decide +kernel) rfl rfl ?_
      refine RN_lconst (pc := 13) (n := 0) (v := 0) (by decide +kernel) (by decide) ?_
      obtain ⟨c15, h⟩ := ck_el h
      refine RN_last (pc := 14) (by decide +kernel) c15 ?_
      obtain ⟨σ16, eσ16, h⟩ := nm_el h
      refine RN_nmS eσ16 ?_
      obtain ⟨x17, ex17, h⟩ := nm_el h
      refine RN_iinc (pc := 15) (i := 1) (n := 1) (v := x17) (ls2 := [some (.ref v0), some (.int x17)]) (by decide +kernel) rfl (by rw [ex17]; rfl) (by decide) rfl ?_
      refine RN_goto (pc := 18) (off := -16) (tgt := 2) (by decide +kernel) (by decide) ?_
      exact RN_weak (l := [some (.ref v0), some (.int x17)]) (And.intro rfl (And.intro rfl trivial)) (ih x17 σ16 h)
def f_X7_wipe (n : Nat) (v0 : Nat) (σ : Sg) : Option Sg :=
  b_X7_wipe_2 n v0 (0 : Int32) σ
set_option maxRecDepth 20000 in
theorem t_X7_wipe {G : Gl} {σr : Sg} {n : Nat} {v0 : Nat} {σ : Sg} (h : f_X7_wipe n v0 σ = some σr) : MT G M_X7_wipe [.ref v0] σ none σr := by
  refine MT_of rfl rfl (Nat.le_of_ble_eq_true rfl) ?_
  show RN G M_X7_wipe 0 [some (.ref v0)] [] σ (.inl none) σr
  unfold f_X7_wipe at h
  refine RN_iconst (pc := 0) (n := 0) (v := 0) (by decide +kernel) (by decide) ?_
  refine RN_istore_n (pc := 1) (k := 1) (ls2 := [some (.ref v0), some (.int (0 : Int32))]) (by decide +kernel) rfl (by decide) rfl ?_
  exact RN_weak (l := [some (.ref v0), some (.int (0 : Int32))]) (And.intro rfl (And.intro rfl trivial)) (tb_X7_wipe_2 v0 n (0 : Int32) σ h)
def f_X2_rateOf (v0 : Nat) (v1 : Int32) (σ : Sg) : Option UInt64 :=
  ck (okO σ v0 7) <|
  ck (¬ gR σ v0 1 = 0) <|
  nm (gR σ v0 1) fun r15 =>
  ck (okA σ r15 13 v1) <|
  if (gI σ r15 v1.toNatClampNeg) ≤ 0 then (
    some (FP.dconst0))
  else (
    ck (¬ gR σ v0 0 = 0) <|
    nm (gR σ v0 0) fun r19 =>
    ck (okA σ r19 13 v1) <|
    nm (gR σ v0 1) fun r21 =>
    ck (okA σ r21 13 v1) <|
    ck (n64 (FP.ddiv (FP.i2d (gI σ r19 v1.toNatClampNeg)) (FP.i2d (gI σ r21 v1.toNatClampNeg)))) <|
    some (FP.ddiv (FP.i2d (gI σ r19 v1.toNatClampNeg)) (FP.i2d (gI σ r21 v1.toNatClampNeg))))
set_option maxRecDepth 20000 in
theorem t_X2_rateOf {G : Gl} {xr : UInt64} {v0 : Nat} {v1 : Int32} {σ : Sg} (h : f_X2_rateOf v0 v1 σ = some xr) : MT G M_X2_rateOf [.ref v0, .int v1] σ (some (.double xr)) σ := by
  refine MT_of rfl rfl (Nat.le_of_ble_eq_true rfl) ?_
  show RN G M_X2_rateOf 0 [some (.ref v0), some (.int v1)] [] σ (.inl (some (.double xr))) σ
  unfold f_X2_rateOf at h
  refine RN_aload_n (pc := 0) (k := 0) (by decide +kernel) rfl rfl ?_
  obtain ⟨c13, h⟩ := ck_el h
  obtain ⟨c14, h⟩ := ck_el h
  refine RN_getR (pc := 1) (idx := 106) (ci := 7) (k := 1) (by decide +kernel) lf_RX2_106 rfl c13 c14 ?_
  obtain ⟨r15, er15, h⟩ := nm_el h
  refine RN_nmR er15 ?_
  refine RN_iload_n (pc := 4) (k := 1) (by decide +kernel) rfl rfl ?_
  obtain ⟨c16, h⟩ := ck_el h
  refine RN_iald (pc := 5) (by decide +kernel) c16 ?_
  refine RN_if_le (pc := 6) (off := 21) (tgt := 27) (by decide +kernel) (by decide) (fun c17 => ?_) (fun c17 => ?_)
  · replace h := it_t c17 h
    refine RN_dconst0 (pc := 27) (by decide +kernel) ?_
    obtain rfl := some_el h
    exact RN_dreturn (by decide +kernel) rfl
  · replace h := it_f c17 h
    refine RN_aload_n (pc := 9) (k := 0) (by decide +kernel) rfl rfl ?_
    obtain ⟨c18, h⟩ := ck_el h
    refine RN_getR (pc := 10) (idx := 109) (ci := 7) (k := 0) (by decide +kernel) lf_RX2_109 rfl c13 c18 ?_
    obtain ⟨r19, er19, h⟩ := nm_el h
    refine RN_nmR er19 ?_
    refine RN_iload_n (pc := 13) (k := 1) (by decide +kernel) rfl rfl ?_
    obtain ⟨c20, h⟩ := ck_el h
    refine RN_iald (pc := 14) (by decide +kernel) c20 ?_
    refine RN_i2d (pc := 15) (by decide +kernel) ?_
    refine RN_aload_n (pc := 16) (k := 0) (by decide +kernel) rfl rfl ?_
    refine RN_getR (pc := 17) (idx := 106) (ci := 7) (k := 1) (by decide +kernel) lf_RX2_106 rfl c13 c14 ?_
    obtain ⟨r21, er21, h⟩ := nm_el h
    refine RN_nmR er21 ?_
    refine RN_iload_n (pc := 20) (k := 1) (by decide +kernel) rfl rfl ?_
    obtain ⟨c22, h⟩ := ck_el h
    refine RN_iald (pc := 21) (by decide +kernel) c22 ?_
    refine RN_i2d (pc := 22) (by decide +kernel) ?_
    obtain ⟨c23, h⟩ := ck_el h
    refine RN_ddiv (pc := 23) (by decide +kernel) c23 ?_
    refine RN_goto (pc := 24) (off := 4) (tgt := 28) (by decide +kernel) (by decide) ?_
    obtain rfl := some_el h
    exact RN_dreturn (by decide +kernel) rfl
def f_X2_floor (v0 : UInt64) : Option UInt64 :=
  nm (FP.l2d (FP.d2l v0)) fun x3 =>
  if (Op.cmpValue (FP.dcmp x3 v0) .l) ≤ 0 then (
    some x3)
  else (
    ck (n64 (FP.dsub x3 (FP.dconst1))) <|
    some (FP.dsub x3 (FP.dconst1)))
set_option maxRecDepth 20000 in
theorem t_X2_floor {G : Gl} {xr : UInt64} {v0 : UInt64} {σ : Sg} (h : f_X2_floor v0 = some xr) : MT G M_X2_floor [.double v0] σ (some (.double xr)) σ := by
  refine MT_of rfl rfl (Nat.le_of_ble_eq_true rfl) ?_
  show RN G M_X2_floor 0 [some (.double v0), none] [] σ (.inl (some (.double xr))) σ
  unfold f_X2_floor at h
  refine RN_dload_n (pc := 0) (k := 0) (by decide +kernel) rfl rfl ?_
  refine RN_d2l (pc := 1) (by decide +kernel) ?_
  refine RN_l2d (pc := 2) (by decide +kernel) ?_
  obtain ⟨x3, ex3, h⟩ := nm_el h
  refine RN_nmD ex3 ?_
  refine RN_dstore_n (pc := 3) (k := 2) (ls2 := [some (.double v0), none, some (.double x3), none]) (by decide +kernel) rfl (by decide) rfl ?_
  refine RN_dload_n (pc := 4) (k := 2) (by decide +kernel) rfl rfl ?_
  refine RN_dload_n (pc := 5) (k := 0) (by decide +kernel) rfl rfl ?_
  refine RN_dcmp (pc := 6) (op := .l) (by decide +kernel) ?_
  refine RN_if_le (pc := 7) (off := 9) (tgt := 16) (by decide +kernel) (by decide) (fun c4 => ?_) (fun c4 => ?_)
  · replace h := it_t c4 h
    refine RN_dload_n (pc := 16) (k := 2) (by decide +kernel) rfl rfl ?_
    obtain rfl := some_el h
    exact RN_dreturn (by decide +kernel) rfl
  · replace h := it_f c4 h
    refine RN_dload_n (pc := 10) (k := 2) (by decide +kernel) rfl rfl ?_
    refine RN_dconst1 (pc := 11) (by decide +kernel) ?_
    obtain ⟨c5, h⟩ := ck_el h
    refine RN_dsub (pc := 12) (by decide +kernel) c5 ?_
    refine RN_goto (pc := 13) (off := 4) (tgt := 17) (by decide +kernel) (by decide) ?_
    obtain rfl := some_el h
    exact RN_dreturn (by decide +kernel) rfl
def f_X2_ceil (v0 : UInt64) : Option UInt64 :=
  nm (FP.l2d (FP.d2l v0)) fun x3 =>
  if 0 ≤ (Op.cmpValue (FP.dcmp x3 v0) .g) then (
    some x3)
  else (
    ck (n64 (FP.dadd x3 (FP.dconst1))) <|
    some (FP.dadd x3 (FP.dconst1)))
set_option maxRecDepth 20000 in
theorem t_X2_ceil {G : Gl} {xr : UInt64} {v0 : UInt64} {σ : Sg} (h : f_X2_ceil v0 = some xr) : MT G M_X2_ceil [.double v0] σ (some (.double xr)) σ := by
  refine MT_of rfl rfl (Nat.le_of_ble_eq_true rfl) ?_
  show RN G M_X2_ceil 0 [some (.double v0), none] [] σ (.inl (some (.double xr))) σ
  unfold f_X2_ceil at h
  refine RN_dload_n (pc := 0) (k := 0) (by decide +kernel) rfl rfl ?_
  refine RN_d2l (pc := 1) (by decide +kernel) ?_
  refine RN_l2d (pc := 2) (by decide +kernel) ?_
  obtain ⟨x3, ex3, h⟩ := nm_el h
  refine RN_nmD ex3 ?_
  refine RN_dstore_n (pc := 3) (k := 2) (ls2 := [some (.double v0), none, some (.double x3), none]) (by decide +kernel) rfl (by decide) rfl ?_
  refine RN_dload_n (pc := 4) (k := 2) (by decide +kernel) rfl rfl ?_
  refine RN_dload_n (pc := 5) (k := 0) (by decide +kernel) rfl rfl ?_
  refine RN_dcmp (pc := 6) (op := .g) (by decide +kernel) ?_
  refine RN_if_ge (pc := 7) (off := 9) (tgt := 16) (by decide +kernel) (by decide) (fun c4 => ?_) (fun c4 => ?_)
  · replace h := it_t c4 h
    refine RN_dload_n (pc := 16) (k := 2) (by decide +kernel) rfl rfl ?_
    obtain rfl := some_el h
    exact RN_dreturn (by decide +kernel) rfl
  · replace h := it_f c4 h
    refine RN_dload_n (pc := 10) (k := 2) (by decide +kernel) rfl rfl ?_
    refine RN_dconst1 (pc := 11) (by decide +kernel) ?_
    obtain ⟨c5, h⟩ := ck_el h
    refine RN_dadd (pc := 12) (by decide +kernel) c5 ?_
    refine RN_goto (pc := 13) (off := 4) (tgt := 17) (by decide +kernel) (by decide) ?_
    obtain rfl := some_el h
    exact RN_dreturn (by decide +kernel) rfl
def b_X2_even_77 (v0 : UInt64) (v4 : Int64) : Option UInt64 :=
  if 0 ≤ (Op.cmpValue (FP.dcmp v0 (FP.dconst0)) .g) then (
    some (FP.l2d v4))
  else (
    some (FP.dneg (FP.l2d v4)))
set_option maxRecDepth 20000 in
theorem tb_X2_even_77 {G : Gl} {xr : UInt64} {σ : Sg} (v0 : UInt64) (v4 : Int64) (h : b_X2_even_77 v0 v4 = some xr) : RN G M_X2_even 77 [some (.double v0), none, none, none, some (.long v4)] [] σ (.inl (some (.double xr))) σ := by
  unfold b_X2_even_77 at h
  refine RN_dload_n (pc := 77) (k := 0) (by decide +kernel) rfl rfl ?_
  refine RN_dconst0 (pc := 78) (by decide +kernel) ?_
  refine RN_dcmp (pc := 79) (op := .g) (by decide +kernel) ?_
  refine RN_if_ge (pc := 80) (off := 10) (tgt := 90) (by decide +kernel) (by decide) (fun c15 => ?_) (fun c15 => ?_)
  · replace h := it_t c15 h
    refine RN_lload (pc := 90) (i := 4) (by decide +kernel) rfl ?_
    refine RN_l2d (pc := 92) (by decide +kernel) ?_
    obtain rfl := some_el h
    exact RN_dreturn (by decide +kernel) rfl
  · replace h := it_f c15 h
    refine RN_lload (pc := 83) (i := 4) (by decide +kernel) rfl ?_
    refine RN_l2d (pc := 85) (by decide +kernel) ?_
    refine RN_dneg (pc := 86) (by decide +kernel) ?_
    refine RN_goto (pc := 87) (off := 6) (tgt := 93) (by decide +kernel) (by decide) ?_
    obtain rfl := some_el h
    exact RN_dreturn (by decide +kernel) rfl
def b_X2_even_71 (v0 : UInt64) (v4 : Int64) : Option UInt64 :=
  nm (v4 + (1 : Int64)) fun x14 =>
  b_X2_even_77 v0 x14
set_option maxRecDepth 20000 in
theorem tb_X2_even_71 {G : Gl} {xr : UInt64} {σ : Sg} (v0 : UInt64) (v4 : Int64) (h : b_X2_even_71 v0 v4 = some xr) : RN G M_X2_even 71 [some (.double v0), none, none, none, some (.long v4)] [] σ (.inl (some (.double xr))) σ := by
  unfold b_X2_even_71 at h
  refine RN_lload (pc := 71) (i := 4) (by decide +kernel) rfl ?_
  refine RN_lconst (pc := 73) (n := 1) (v := 1) (by decide +kernel) (by decide) ?_
  refine RN_ladd (pc := 74) (by decide +kernel) ?_
  obtain ⟨x14, ex14, h⟩ := nm_el h
  refine RN_nmJ ex14 ?_
  refine RN_lstore (pc := 75) (i := 4) (ls2 := [some (.double v0), none, none, none, some (.long x14), none]) (by decide +kernel) (by decide) rfl ?_
  exact RN_weak (l := [some (.double v0), none, none, none, some (.long x14)]) (And.intro rfl (And.intro rfl trivial)) (tb_X2_even_77 v0 x14 h)
def b_X2_even_30 (v0 : UInt64) (s0 : UInt64) : Option UInt64 :=
  nm (FP.d2l s0) fun x10 =>
  ck (n64 (FP.dsub s0 (FP.l2d x10))) <|
  nm (FP.dsub s0 (FP.l2d x10)) fun x12 =>
  if 0 < (Op.cmpValue (FP.dcmp x12 (4602678819172646912 : UInt64)) .l) then (
    b_X2_even_71 v0 x10)
  else (
    if (Op.cmpValue (FP.dcmp x12 (4602678819172646912 : UInt64)) .l) = 0 then (
      ck (¬ (2 : Int64) = 0) <|
      if (x10 - x10 / (2 : Int64) * (2 : Int64)) = (0 : Int64) then (
        b_X2_even_77 v0 x10)
      else (
        b_X2_even_71 v0 x10))
    else (
      b_X2_even_77 v0 x10))
set_option maxRecDepth 20000 in
theorem tb_X2_even_30 {G : Gl} {xr : UInt64} {σ : Sg} (v0 : UInt64) (s0 : UInt64) (h : b_X2_even_30 v0 s0 = some xr) : RN G M_X2_even 30 [some (.double v0)] [.double s0] σ (.inl (some (.double xr))) σ := by
  unfold b_X2_even_30 at h
  refine RN_dstore_n (pc := 30) (k := 2) (ls2 := [some (.double v0), none, some (.double s0), none]) (by decide +kernel) rfl (by decide) rfl ?_
  refine RN_dload_n (pc := 31) (k := 2) (by decide +kernel) rfl rfl ?_
  refine RN_d2l (pc := 32) (by decide +kernel) ?_
  obtain ⟨x10, ex10, h⟩ := nm_el h
  refine RN_nmJ ex10 ?_
  refine RN_lstore (pc := 33) (i := 4) (ls2 := [some (.double v0), none, some (.double s0), none, some (.long x10), none]) (by decide +kernel) (by decide) rfl ?_
  refine RN_dload_n (pc := 35) (k := 2) (by decide +kernel) rfl rfl ?_
  refine RN_lload (pc := 36) (i := 4) (by decide +kernel) rfl ?_
  refine RN_l2d (pc := 38) (by decide +kernel) ?_
  obtain ⟨c11, h⟩ := ck_el h
  refine RN_dsub (pc := 39) (by decide +kernel) c11 ?_
  obtain ⟨x12, ex12, h⟩ := nm_el h
  refine RN_nmD ex12 ?_
  refine RN_dstore (pc := 40) (i := 6) (ls2 := [some (.double v0), none, some (.double s0), none, some (.long x10), none, some (.double x12), none]) (by decide +kernel) (by decide) rfl ?_
  refine RN_dload (pc := 42) (i := 6) (by decide +kernel) rfl ?_
  refine RN_ldc2d (pc := 44) (idx := 126) (v := 4602678819172646912) (by decide +kernel) kc_RX2_126 ?_
  refine RN_dcmp (pc := 47) (op := .l) (by decide +kernel) ?_
  refine RN_if_gt (pc := 48) (off := 23) (tgt := 71) (by decide +kernel) (by decide) (fun c13 => ?_) (fun c13 => ?_)
  · replace h := it_t c13 h
    exact RN_weak (l := [some (.double v0), none, none, none, some (.long x10)]) (And.intro rfl (And.intro rfl trivial)) (tb_X2_even_71 v0 x10 h)
  · replace h := it_f c13 h
    refine RN_dload (pc := 51) (i := 6) (by decide +kernel) rfl ?_
    refine RN_ldc2d (pc := 53) (idx := 126) (v := 4602678819172646912) (by decide +kernel) kc_RX2_126 ?_
    refine RN_dcmp (pc := 56) (op := .l) (by decide +kernel) ?_
    refine RN_if_ne (pc := 57) (off := 20) (tgt := 77) (by decide +kernel) (by decide) (fun c16 => ?_) (fun c16 => ?_)
    · replace h := it_f c16 h
      exact RN_weak (l := [some (.double v0), none, none, none, some (.long x10)]) (And.intro rfl (And.intro rfl trivial)) (tb_X2_even_77 v0 x10 h)
    · replace h := it_t c16 h
      refine RN_lload (pc := 60) (i := 4) (by decide +kernel) rfl ?_
      refine RN_ldc2 (pc := 62) (idx := 135) (v := 2) (by decide +kernel) kc_RX2_135 ?_
      obtain ⟨c17, h⟩ := ck_el h
      refine RN_lrem (pc := 65) (by decide +kernel) c17 ?_
      refine RN_lconst (pc := 66) (n := 0) (v := 0) (by decide +kernel) (by decide) ?_
      refine RN_lc_eq (pc := 67) (off := 9) (tgt := 77) (by decide +kernel) (by decide +kernel) (by decide) (fun c18 => ?_) (fun c18 => ?_)
      · replace h := it_t c18 h
        exact RN_weak (l := [some (.double v0), none, none, none, some (.long x10)]) (And.intro rfl (And.intro rfl trivial)) (tb_X2_even_77 v0 x10 h)
      · replace h := it_f c18 h
        exact RN_weak (l := [some (.double v0), none, none, none, some (.long x10)]) (And.intro rfl (And.intro rfl trivial)) (tb_X2_even_71 v0 x10 h)
def f_X2_even (v0 : UInt64) : Option UInt64 :=
  if 0 ≤ (Op.cmpValue (FP.dcmp v0 (4841369599423283200 : UInt64)) .l) then (
    some v0)
  else (
    if 0 < (Op.cmpValue (FP.dcmp v0 (14064741636278059008 : UInt64)) .g) then (
      if 0 ≤ (Op.cmpValue (FP.dcmp v0 (FP.dconst0)) .g) then (
        b_X2_even_30 v0 v0)
      else (
        b_X2_even_30 v0 (FP.dneg v0)))
    else (
      some v0))
set_option maxRecDepth 20000 in
theorem t_X2_even {G : Gl} {xr : UInt64} {v0 : UInt64} {σ : Sg} (h : f_X2_even v0 = some xr) : MT G M_X2_even [.double v0] σ (some (.double xr)) σ := by
  refine MT_of rfl rfl (Nat.le_of_ble_eq_true rfl) ?_
  show RN G M_X2_even 0 [some (.double v0), none] [] σ (.inl (some (.double xr))) σ
  unfold f_X2_even at h
  refine RN_dload_n (pc := 0) (k := 0) (by decide +kernel) rfl rfl ?_
  refine RN_ldc2d (pc := 1) (idx := 131) (v := 4841369599423283200) (by decide +kernel) kc_RX2_131 ?_
  refine RN_dcmp (pc := 4) (op := .l) (by decide +kernel) ?_
  refine RN_if_ge (pc := 5) (off := 11) (tgt := 16) (by decide +kernel) (by decide) (fun c7 => ?_) (fun c7 => ?_)
  · replace h := it_t c7 h
    refine RN_dload_n (pc := 16) (k := 0) (by decide +kernel) rfl rfl ?_
    obtain rfl := some_el h
    exact RN_dreturn (by decide +kernel) rfl
  · replace h := it_f c7 h
    refine RN_dload_n (pc := 8) (k := 0) (by decide +kernel) rfl rfl ?_
    refine RN_ldc2d (pc := 9) (idx := 133) (v := 14064741636278059008) (by decide +kernel) kc_RX2_133 ?_
    refine RN_dcmp (pc := 12) (op := .g) (by decide +kernel) ?_
    refine RN_if_gt (pc := 13) (off := 5) (tgt := 18) (by decide +kernel) (by decide) (fun c8 => ?_) (fun c8 => ?_)
    · replace h := it_t c8 h
      refine RN_dload_n (pc := 18) (k := 0) (by decide +kernel) rfl rfl ?_
      refine RN_dconst0 (pc := 19) (by decide +kernel) ?_
      refine RN_dcmp (pc := 20) (op := .g) (by decide +kernel) ?_
      refine RN_if_ge (pc := 21) (off := 8) (tgt := 29) (by decide +kernel) (by decide) (fun c9 => ?_) (fun c9 => ?_)
      · replace h := it_t c9 h
        refine RN_dload_n (pc := 29) (k := 0) (by decide +kernel) rfl rfl ?_
        exact RN_weak (l := [some (.double v0)]) (And.intro rfl trivial) (tb_X2_even_30 v0 v0 h)
      · replace h := it_f c9 h
        refine RN_dload_n (pc := 24) (k := 0) (by decide +kernel) rfl rfl ?_
        refine RN_dneg (pc := 25) (by decide +kernel) ?_
        refine RN_goto (pc := 26) (off := 4) (tgt := 30) (by decide +kernel) (by decide) ?_
        exact RN_weak (l := [some (.double v0)]) (And.intro rfl trivial) (tb_X2_even_30 v0 (FP.dneg v0) h)
    · replace h := it_f c8 h
      refine RN_dload_n (pc := 16) (k := 0) (by decide +kernel) rfl rfl ?_
      obtain rfl := some_el h
      exact RN_dreturn (by decide +kernel) rfl
def b_X2_rounding_13 (v2 : UInt64) (v4 : Int32) (s0 : UInt64) : Option UInt64 :=
  if v4 = 0 then (
    if 0 ≤ (Op.cmpValue (FP.dcmp s0 (FP.dconst0)) .g) then (
      ck (n64 (FP.dadd s0 (4602678819172646912 : UInt64))) <|
      bp (f_X2_floor (FP.dadd s0 (4602678819172646912 : UInt64))) fun x34 =>
      ck (n64 (FP.dmul v2 x34)) <|
      some (FP.dmul v2 x34))
    else (
      ck (n64 (FP.dsub s0 (4602678819172646912 : UInt64))) <|
      bp (f_X2_ceil (FP.dsub s0 (4602678819172646912 : UInt64))) fun x38 =>
      ck (n64 (FP.dmul v2 x38)) <|
      some (FP.dmul v2 x38)))
  else (
  if v4 = 1 then (
    bp (f_X2_even s0) fun x42 =>
    ck (n64 (FP.dmul v2 x42)) <|
    some (FP.dmul v2 x42))
  else (
  if v4 = 2 then (
    if (Op.cmpValue (FP.dcmp s0 (FP.dconst0)) .l) ≤ 0 then (
      bp (f_X2_ceil s0) fun x47 =>
      ck (n64 (FP.dmul v2 x47)) <|
      some (FP.dmul v2 x47))
    else (
      bp (f_X2_floor s0) fun x50 =>
      ck (n64 (FP.dmul v2 x50)) <|
      some (FP.dmul v2 x50)))
  else (
  if v4 = 3 then (
    if (Op.cmpValue (FP.dcmp s0 (FP.dconst0)) .l) ≤ 0 then (
      bp (f_X2_floor s0) fun x55 =>
      ck (n64 (FP.dmul v2 x55)) <|
      some (FP.dmul v2 x55))
    else (
      bp (f_X2_ceil s0) fun x58 =>
      ck (n64 (FP.dmul v2 x58)) <|
      some (FP.dmul v2 x58)))
  else (
  if v4 = 4 then (
    bp (f_X2_floor s0) fun x62 =>
    ck (n64 (FP.dmul v2 x62)) <|
    some (FP.dmul v2 x62))
  else (
    bp (f_X2_ceil s0) fun x65 =>
    ck (n64 (FP.dmul v2 x65)) <|
    some (FP.dmul v2 x65))))))
set_option maxRecDepth 20000 in
theorem tb_X2_rounding_13 {G : Gl} {xr : UInt64} {σ : Sg} (v2 : UInt64) (v4 : Int32) (s0 : UInt64) (h : b_X2_rounding_13 v2 v4 s0 = some xr) : RN G M_X2_rounding 13 [none, none, some (.double v2), none, some (.int v4)] [.double s0] σ (.inl (some (.double xr))) σ := by
  unfold b_X2_rounding_13 at h
  refine RN_dstore (pc := 13) (i := 5) (ls2 := [none, none, some (.double v2), none, some (.int v4), some (.double s0), none]) (by decide +kernel) (by decide) rfl ?_
  refine RN_iload (pc := 15) (i := 4) (by decide +kernel) rfl ?_
  by_cases c30 : v4 = 0
  · replace h := it_t c30 h
    refine RN_tsw (pc := 17) (dflt := 128) (lo := 0) (hi := 4) (offs := #[35, 66, 74, 97, 120]) (len := 35) (v := 0) (off := 35) (tgt := 52) c30 (by decide +kernel) (by decide) (by decide) (by decide +kernel) (by decide) ?_
    refine RN_dload_n (pc := 52) (k := 2) (by decide +kernel) rfl rfl ?_
    refine RN_dload (pc := 53) (i := 5) (by decide +kernel) rfl ?_
    refine RN_dconst0 (pc := 55) (by decide +kernel) ?_
    refine RN_dcmp (pc := 56) (op := .g) (by decide +kernel) ?_
    refine RN_if_ge (pc := 57) (off := 15) (tgt := 72) (by decide +kernel) (by decide) (fun c31 => ?_) (fun c31 => ?_)
    · replace h := it_t c31 h
      refine RN_dload (pc := 72) (i := 5) (by decide +kernel) rfl ?_
      refine RN_ldc2d (pc := 74) (idx := 126) (v := 4602678819172646912) (by decide +kernel) kc_RX2_126 ?_
      obtain ⟨c32, h⟩ := ck_el h
      refine RN_dadd (pc := 77) (by decide +kernel) c32 ?_
      obtain ⟨x34, f33, h⟩ := bp_el h
      refine RN_callS (M := M_X2_rounding) (pc := 78) (idx := 116) (as := [.double (FP.dadd s0 (4602678819172646912 : UInt64))]) (st := [.double v2]) (t_X2_floor f33) (by decide +kernel) lk_RX2_116 rfl (Nat.le_of_ble_eq_true rfl) ⟨Nat.le_of_ble_eq_true rfl, Nat.le_of_ble_eq_true rfl⟩ rfl ?_
      show RN G M_X2_rounding 81 [none, none, some (.double v2), none, some (.int v4), some (.double s0), none] [.double x34, .double v2] σ _ _
      obtain ⟨c35, h⟩ := ck_el h
      refine RN_dmul (pc := 81) (by decide +kernel) c35 ?_
      obtain rfl := some_el h
      exact RN_dreturn (by decide +kernel) rfl
    · replace h := it_f c31 h
      refine RN_dload (pc := 60) (i := 5) (by decide +kernel) rfl ?_
      refine RN_ldc2d (pc := 62) (idx := 126) (v := 4602678819172646912) (by decide +kernel) kc_RX2_126 ?_
      obtain ⟨c36, h⟩ := ck_el h
      refine RN_dsub (pc := 65) (by decide +kernel) c36 ?_
      obtain ⟨x38, f37, h⟩ := bp_el h
      refine RN_callS (M := M_X2_rounding) (pc := 66) (idx := 128) (as := [.double (FP.dsub s0 (4602678819172646912 : UInt64))]) (st := [.double v2]) (t_X2_ceil f37) (by decide +kernel) lk_RX2_128 rfl (Nat.le_of_ble_eq_true rfl) ⟨Nat.le_of_ble_eq_true rfl, Nat.le_of_ble_eq_true rfl⟩ rfl ?_
      show RN G M_X2_rounding 69 [none, none, some (.double v2), none, some (.int v4), some (.double s0), none] [.double x38, .double v2] σ _ _
      refine RN_goto (pc := 69) (off := 12) (tgt := 81) (by decide +kernel) (by decide) ?_
      obtain ⟨c39, h⟩ := ck_el h
      refine RN_dmul (pc := 81) (by decide +kernel) c39 ?_
      obtain rfl := some_el h
      exact RN_dreturn (by decide +kernel) rfl
  · replace h := it_f c30 h
    by_cases c40 : v4 = 1
    · replace h := it_t c40 h
      refine RN_tsw (pc := 17) (dflt := 128) (lo := 0) (hi := 4) (offs := #[35, 66, 74, 97, 120]) (len := 35) (v := 1) (off := 66) (tgt := 83) c40 (by decide +kernel) (by decide) (by decide) (by decide +kernel) (by decide) ?_
      refine RN_dload_n (pc := 83) (k := 2) (by decide +kernel) rfl rfl ?_
      refine RN_dload (pc := 84) (i := 5) (by decide +kernel) rfl ?_
      obtain ⟨x42, f41, h⟩ := bp_el h
      refine RN_callS (M := M_X2_rounding) (pc := 86) (idx := 119) (as := [.double s0]) (st := [.double v2]) (t_X2_even f41) (by decide +kernel) lk_RX2_119 rfl (Nat.le_of_ble_eq_true rfl) ⟨Nat.le_of_ble_eq_true rfl, Nat.le_of_ble_eq_true rfl⟩ rfl ?_
      show RN G M_X2_rounding 89 [none, none, some (.double v2), none, some (.int v4), some (.double s0), none] [.double x42, .double v2] σ _ _
      obtain ⟨c43, h⟩ := ck_el h
      refine RN_dmul (pc := 89) (by decide +kernel) c43 ?_
      obtain rfl := some_el h
      exact RN_dreturn (by decide +kernel) rfl
    · replace h := it_f c40 h
      by_cases c44 : v4 = 2
      · replace h := it_t c44 h
        refine RN_tsw (pc := 17) (dflt := 128) (lo := 0) (hi := 4) (offs := #[35, 66, 74, 97, 120]) (len := 35) (v := 2) (off := 74) (tgt := 91) c44 (by decide +kernel) (by decide) (by decide) (by decide +kernel) (by decide) ?_
        refine RN_dload_n (pc := 91) (k := 2) (by decide +kernel) rfl rfl ?_
        refine RN_dload (pc := 92) (i := 5) (by decide +kernel) rfl ?_
        refine RN_dconst0 (pc := 94) (by decide +kernel) ?_
        refine RN_dcmp (pc := 95) (op := .l) (by decide +kernel) ?_
        refine RN_if_le (pc := 96) (off := 11) (tgt := 107) (by decide +kernel) (by decide) (fun c45 => ?_) (fun c45 => ?_)
        · replace h := it_t c45 h
          refine RN_dload (pc := 107) (i := 5) (by decide +kernel) rfl ?_
          obtain ⟨x47, f46, h⟩ := bp_el h
          refine RN_callS (M := M_X2_rounding) (pc := 109) (idx := 128) (as := [.double s0]) (st := [.double v2]) (t_X2_ceil f46) (by decide +kernel) lk_RX2_128 rfl (Nat.le_of_ble_eq_true rfl) ⟨Nat.le_of_ble_eq_true rfl, Nat.le_of_ble_eq_true rfl⟩ rfl ?_
          show RN G M_X2_rounding 112 [none, none, some (.double v2), none, some (.int v4), some (.double s0), none] [.double x47, .double v2] σ _ _
          obtain ⟨c48, h⟩ := ck_el h
          refine RN_dmul (pc := 112) (by decide +kernel) c48 ?_
          obtain rfl := some_el h
          exact RN_dreturn (by decide +kernel) rfl
        · replace h := it_f c45 h
          refine RN_dload (pc := 99) (i := 5) (by decide +kernel) rfl ?_
          obtain ⟨x50, f49, h⟩ := bp_el h
          refine RN_callS (M := M_X2_rounding) (pc := 101) (idx := 116) (as := [.double s0]) (st := [.double v2]) (t_X2_floor f49) (by decide +kernel) lk_RX2_116 rfl (Nat.le_of_ble_eq_true rfl) ⟨Nat.le_of_ble_eq_true rfl, Nat.le_of_ble_eq_true rfl⟩ rfl ?_
          show RN G M_X2_rounding 104 [none, none, some (.double v2), none, some (.int v4), some (.double s0), none] [.double x50, .double v2] σ _ _
          refine RN_goto (pc := 104) (off := 8) (tgt := 112) (by decide +kernel) (by decide) ?_
          obtain ⟨c51, h⟩ := ck_el h
          refine RN_dmul (pc := 112) (by decide +kernel) c51 ?_
          obtain rfl := some_el h
          exact RN_dreturn (by decide +kernel) rfl
      · replace h := it_f c44 h
        by_cases c52 : v4 = 3
        · replace h := it_t c52 h
          refine RN_tsw (pc := 17) (dflt := 128) (lo := 0) (hi := 4) (offs := #[35, 66, 74, 97, 120]) (len := 35) (v := 3) (off := 97) (tgt := 114) c52 (by decide +kernel) (by decide) (by decide) (by decide +kernel) (by decide) ?_
          refine RN_dload_n (pc := 114) (k := 2) (by decide +kernel) rfl rfl ?_
          refine RN_dload (pc := 115) (i := 5) (by decide +kernel) rfl ?_
          refine RN_dconst0 (pc := 117) (by decide +kernel) ?_
          refine RN_dcmp (pc := 118) (op := .l) (by decide +kernel) ?_
          refine RN_if_le (pc := 119) (off := 11) (tgt := 130) (by decide +kernel) (by decide) (fun c53 => ?_) (fun c53 => ?_)
          · replace h := it_t c53 h
            refine RN_dload (pc := 130) (i := 5) (by decide +kernel) rfl ?_
            obtain ⟨x55, f54, h⟩ := bp_el h
            refine RN_callS (M := M_X2_rounding) (pc := 132) (idx := 116) (as := [.double s0]) (st := [.double v2]) (t_X2_floor f54) (by decide +kernel) lk_RX2_116 rfl (Nat.le_of_ble_eq_true rfl) ⟨Nat.le_of_ble_eq_true rfl, Nat.le_of_ble_eq_true rfl⟩ rfl ?_
            show RN G M_X2_rounding 135 [none, none, some (.double v2), none, some (.int v4), some (.double s0), none] [.double x55, .double v2] σ _ _
            obtain ⟨c56, h⟩ := ck_el h
            refine RN_dmul (pc := 135) (by decide +kernel) c56 ?_
            obtain rfl := some_el h
            exact RN_dreturn (by decide +kernel) rfl
          · replace h := it_f c53 h
            refine RN_dload (pc := 122) (i := 5) (by decide +kernel) rfl ?_
            obtain ⟨x58, f57, h⟩ := bp_el h
            refine RN_callS (M := M_X2_rounding) (pc := 124) (idx := 128) (as := [.double s0]) (st := [.double v2]) (t_X2_ceil f57) (by decide +kernel) lk_RX2_128 rfl (Nat.le_of_ble_eq_true rfl) ⟨Nat.le_of_ble_eq_true rfl, Nat.le_of_ble_eq_true rfl⟩ rfl ?_
            show RN G M_X2_rounding 127 [none, none, some (.double v2), none, some (.int v4), some (.double s0), none] [.double x58, .double v2] σ _ _
            refine RN_goto (pc := 127) (off := 8) (tgt := 135) (by decide +kernel) (by decide) ?_
            obtain ⟨c59, h⟩ := ck_el h
            refine RN_dmul (pc := 135) (by decide +kernel) c59 ?_
            obtain rfl := some_el h
            exact RN_dreturn (by decide +kernel) rfl
        · replace h := it_f c52 h
          by_cases c60 : v4 = 4
          · replace h := it_t c60 h
            refine RN_tsw (pc := 17) (dflt := 128) (lo := 0) (hi := 4) (offs := #[35, 66, 74, 97, 120]) (len := 35) (v := 4) (off := 120) (tgt := 137) c60 (by decide +kernel) (by decide) (by decide) (by decide +kernel) (by decide) ?_
            refine RN_dload_n (pc := 137) (k := 2) (by decide +kernel) rfl rfl ?_
            refine RN_dload (pc := 138) (i := 5) (by decide +kernel) rfl ?_
            obtain ⟨x62, f61, h⟩ := bp_el h
            refine RN_callS (M := M_X2_rounding) (pc := 140) (idx := 116) (as := [.double s0]) (st := [.double v2]) (t_X2_floor f61) (by decide +kernel) lk_RX2_116 rfl (Nat.le_of_ble_eq_true rfl) ⟨Nat.le_of_ble_eq_true rfl, Nat.le_of_ble_eq_true rfl⟩ rfl ?_
            show RN G M_X2_rounding 143 [none, none, some (.double v2), none, some (.int v4), some (.double s0), none] [.double x62, .double v2] σ _ _
            obtain ⟨c63, h⟩ := ck_el h
            refine RN_dmul (pc := 143) (by decide +kernel) c63 ?_
            obtain rfl := some_el h
            exact RN_dreturn (by decide +kernel) rfl
          · replace h := it_f c60 h
            refine RN_tableOut (pc := 17) (dflt := 128) (lo := 0) (hi := 4) (offs := #[35, 66, 74, 97, 120]) (len := 35) (tgt := 145) (by decide +kernel) (tsw_s (hi := 3) (hi' := 4) (tsw_s (hi := 2) (hi' := 3) (tsw_s (hi := 1) (hi' := 2) (tsw_s (hi := 0) (hi' := 1) (tsw_s (hi := -1) (hi' := 0) (tsw_0 (0)) (by decide) (by decide) c30) (by decide) (by decide) c40) (by decide) (by decide) c44) (by decide) (by decide) c52) (by decide) (by decide) c60) (by decide) ?_
            refine RN_dload_n (pc := 145) (k := 2) (by decide +kernel) rfl rfl ?_
            refine RN_dload (pc := 146) (i := 5) (by decide +kernel) rfl ?_
            obtain ⟨x65, f64, h⟩ := bp_el h
            refine RN_callS (M := M_X2_rounding) (pc := 148) (idx := 128) (as := [.double s0]) (st := [.double v2]) (t_X2_ceil f64) (by decide +kernel) lk_RX2_128 rfl (Nat.le_of_ble_eq_true rfl) ⟨Nat.le_of_ble_eq_true rfl, Nat.le_of_ble_eq_true rfl⟩ rfl ?_
            show RN G M_X2_rounding 151 [none, none, some (.double v2), none, some (.int v4), some (.double s0), none] [.double x65, .double v2] σ _ _
            obtain ⟨c66, h⟩ := ck_el h
            refine RN_dmul (pc := 151) (by decide +kernel) c66 ?_
            obtain rfl := some_el h
            exact RN_dreturn (by decide +kernel) rfl
def f_X2_rounding (v0 : UInt64) (v2 : UInt64) (v4 : Int32) : Option UInt64 :=
  if (Op.cmpValue (FP.dcmp v2 (FP.dconst0)) .l) ≤ 0 then (
    b_X2_rounding_13 v2 v4 v0)
  else (
    ck (n64 (FP.ddiv v0 v2)) <|
    b_X2_rounding_13 v2 v4 (FP.ddiv v0 v2))
set_option maxRecDepth 20000 in
theorem t_X2_rounding {G : Gl} {xr : UInt64} {v0 : UInt64} {v2 : UInt64} {v4 : Int32} {σ : Sg} (h : f_X2_rounding v0 v2 v4 = some xr) : MT G M_X2_rounding [.double v0, .double v2, .int v4] σ (some (.double xr)) σ := by
  refine MT_of rfl rfl (Nat.le_of_ble_eq_true rfl) ?_
  show RN G M_X2_rounding 0 [some (.double v0), none, some (.double v2), none, some (.int v4)] [] σ (.inl (some (.double xr))) σ
  unfold f_X2_rounding at h
  refine RN_dload_n (pc := 0) (k := 2) (by decide +kernel) rfl rfl ?_
  refine RN_dconst0 (pc := 1) (by decide +kernel) ?_
  refine RN_dcmp (pc := 2) (op := .l) (by decide +kernel) ?_
  refine RN_if_le (pc := 3) (off := 9) (tgt := 12) (by decide +kernel) (by decide) (fun c29 => ?_) (fun c29 => ?_)
  · replace h := it_t c29 h
    refine RN_dload_n (pc := 12) (k := 0) (by decide +kernel) rfl rfl ?_
    exact RN_weak (l := [none, none, some (.double v2), none, some (.int v4)]) (And.intro rfl (And.intro rfl trivial)) (tb_X2_rounding_13 v2 v4 v0 h)
  · replace h := it_f c29 h
    refine RN_dload_n (pc := 6) (k := 0) (by decide +kernel) rfl rfl ?_
    refine RN_dload_n (pc := 7) (k := 2) (by decide +kernel) rfl rfl ?_
    obtain ⟨c67, h⟩ := ck_el h
    refine RN_ddiv (pc := 8) (by decide +kernel) c67 ?_
    refine RN_goto (pc := 9) (off := 4) (tgt := 13) (by decide +kernel) (by decide) ?_
    exact RN_weak (l := [none, none, some (.double v2), none, some (.int v4)]) (And.intro rfl (And.intro rfl trivial)) (tb_X2_rounding_13 v2 v4 (FP.ddiv v0 v2) h)
def f_X2_dividable (v0 : UInt64) : Option Int64 :=
  nm (FP.d2l v0) fun x2 =>
  if (1099511627776 : Int64) < x2 then (
    some (0 : Int64))
  else (
    if (-1099511627776 : Int64) ≤ x2 then (
      some x2)
    else (
      some (0 : Int64)))
set_option maxRecDepth 20000 in
theorem t_X2_dividable {G : Gl} {xr : Int64} {v0 : UInt64} {σ : Sg} (h : f_X2_dividable v0 = some xr) : MT G M_X2_dividable [.double v0] σ (some (.long xr)) σ := by
  refine MT_of rfl rfl (Nat.le_of_ble_eq_true rfl) ?_
  show RN G M_X2_dividable 0 [some (.double v0), none] [] σ (.inl (some (.long xr))) σ
  unfold f_X2_dividable at h
  refine RN_dload_n (pc := 0) (k := 0) (by decide +kernel) rfl rfl ?_
  refine RN_d2l (pc := 1) (by decide +kernel) ?_
  obtain ⟨x2, ex2, h⟩ := nm_el h
  refine RN_nmJ ex2 ?_
  refine RN_lstore_n (pc := 2) (k := 2) (ls2 := [some (.double v0), none, some (.long x2), none]) (by decide +kernel) rfl (by decide) rfl ?_
  refine RN_lload_n (pc := 3) (k := 2) (by decide +kernel) rfl rfl ?_
  refine RN_ldc2 (pc := 4) (idx := 112) (v := 1099511627776) (by decide +kernel) kc_RX2_112 ?_
  refine RN_lc_gt (pc := 7) (off := 11) (tgt := 19) (by decide +kernel) (by decide +kernel) (by decide) (fun c3 => ?_) (fun c3 => ?_)
  · replace h := it_t c3 h
    refine RN_lconst (pc := 19) (n := 0) (v := 0) (by decide +kernel) (by decide) ?_
    refine RN_goto (pc := 20) (off := 4) (tgt := 24) (by decide +kernel) (by decide) ?_
    obtain rfl := some_el h
    exact RN_lreturn (by decide +kernel) rfl
  · replace h := it_f c3 h
    refine RN_lload_n (pc := 11) (k := 2) (by decide +kernel) rfl rfl ?_
    refine RN_ldc2 (pc := 12) (idx := 114) (v := -1099511627776) (by decide +kernel) kc_RX2_114 ?_
    refine RN_lc_ge (pc := 15) (off := 7) (tgt := 23) (by decide +kernel) (by decide +kernel) (by decide) (fun c4 => ?_) (fun c4 => ?_)
    · replace h := it_t c4 h
      refine RN_lload_n (pc := 23) (k := 2) (by decide +kernel) rfl rfl ?_
      obtain rfl := some_el h
      exact RN_lreturn (by decide +kernel) rfl
    · replace h := it_f c4 h
      refine RN_lconst (pc := 19) (n := 0) (v := 0) (by decide +kernel) (by decide) ?_
      refine RN_goto (pc := 20) (off := 4) (tgt := 24) (by decide +kernel) (by decide) ?_
      obtain rfl := some_el h
      exact RN_lreturn (by decide +kernel) rfl
def b_X7_weigh_51 (n : Nat) (v0 : Nat) (σ : Sg) : Option Sg :=
  ck (okO σ v0 6) <|
  if (gJ σ v0 5) = (0 : Int64) then (
    ck (¬ gR σ v0 2 = 0) <|
    nm (gR σ v0 2) fun r42 =>
    ck (okW σ r42 13 (0 : Int32)) <|
    nm (pI σ r42 (0 : Int32).toNatClampNeg (1 : Int32)) fun σ44 =>
    ck (okO σ44 v0 6) <|
    ck (¬ gR σ44 v0 2 = 0) <|
    nm (gR σ44 v0 2) fun r47 =>
    ck (okW σ44 r47 13 (1 : Int32)) <|
    nm (pI σ44 r47 (1 : Int32).toNatClampNeg (1 : Int32)) fun σ49 =>
    ck (okO σ49 v0 6) <|
    nm (pI σ49 v0 4 (2 : Int32)) fun σ51 =>
    ck (okO σ51 v0 6) <|
    nm (pJ σ51 v0 5 (2 : Int64)) fun σ53 =>
    some σ53)
  else (
    some σ)
set_option maxRecDepth 20000 in
theorem tb_X7_weigh_51 {G : Gl} {σr : Sg} (n : Nat) (v0 : Nat) (σ : Sg) (h : b_X7_weigh_51 n v0 σ = some σr) : RN G M_X7_weigh 51 [some (.ref v0)] [] σ (.inl none) σr := by
  unfold b_X7_weigh_51 at h
  refine RN_aload_n (pc := 51) (k := 0) (by decide +kernel) rfl rfl ?_
  obtain ⟨c39, h⟩ := ck_el h
  refine RN_getJ (pc := 52) (idx := 41) (ci := 6) (k := 5) (by decide +kernel) lf_RX7_41 rfl c39 ?_
  refine RN_lconst (pc := 55) (n := 0) (v := 0) (by decide +kernel) (by decide) ?_
  refine RN_lc_ne (pc := 56) (off := 29) (tgt := 86) (by decide +kernel) (by decide +kernel) (by decide) (fun c40 => ?_) (fun c40 => ?_)
  · replace h := it_f c40 h
    obtain rfl := some_el h
    exact RN_return (by decide +kernel) rfl
  · replace h := it_t c40 h
    refine RN_aload_n (pc := 60) (k := 0) (by decide +kernel) rfl rfl ?_
    obtain ⟨c41, h⟩ := ck_el h
    refine RN_getR (pc := 61) (idx := 15) (ci := 6) (k := 2) (by decide +kernel) lf_RX7_15 rfl c39 c41 ?_
    obtain ⟨r42, er42, h⟩ := nm_el h
    refine RN_nmR er42 ?_
    refine RN_iconst (pc := 64) (n := 0) (v := 0) (by decide +kernel) (by decide) ?_
    refine RN_iconst (pc := 65) (n := 1) (v := 1) (by decide +kernel) (by decide) ?_
    obtain ⟨c43, h⟩ := ck_el h
    refine RN_iast (pc := 66) (by decide +kernel) c43 ?_
    obtain ⟨σ44, eσ44, h⟩ := nm_el h
    refine RN_nmS eσ44 ?_
    refine RN_aload_n (pc := 67) (k := 0) (by decide +kernel) rfl rfl ?_
    obtain ⟨c45, h⟩ := ck_el h
    obtain ⟨c46, h⟩ := ck_el h
    refine RN_getR (pc := 68) (idx := 15) (ci := 6) (k := 2) (by decide +kernel) lf_RX7_15 rfl c45 c46 ?_
    obtain ⟨r47, er47, h⟩ := nm_el h
    refine RN_nmR er47 ?_
    refine RN_iconst (pc := 71) (n := 1) (v := 1) (by decide +kernel) (by decide) ?_
    refine RN_iconst (pc := 72) (n := 1) (v := 1) (by decide +kernel) (by decide) ?_
    obtain ⟨c48, h⟩ := ck_el h
    refine RN_iast (pc := 73) (by decide +kernel) c48 ?_
    obtain ⟨σ49, eσ49, h⟩ := nm_el h
    refine RN_nmS eσ49 ?_
    refine RN_aload_n (pc := 74) (k := 0) (by decide +kernel) rfl rfl ?_
    refine RN_iconst (pc := 75) (n := 2) (v := 2) (by decide +kernel) (by decide) ?_
    obtain ⟨c50, h⟩ := ck_el h
    refine RN_putI (pc := 76) (idx := 37) (ci := 6) (k := 4) (by decide +kernel) lf_RX7_37 rfl (fun q hq => by cases hq; exact Or.inl rfl) c50 ?_
    obtain ⟨σ51, eσ51, h⟩ := nm_el h
    refine RN_nmS eσ51 ?_
    refine RN_aload_n (pc := 79) (k := 0) (by decide +kernel) rfl rfl ?_
    refine RN_ldc2 (pc := 80) (idx := 57) (v := 2) (by decide +kernel) kc_RX7_57 ?_
    obtain ⟨c52, h⟩ := ck_el h
    refine RN_putJ (pc := 83) (idx := 41) (ci := 6) (k := 5) (by decide +kernel) lf_RX7_41 rfl (fun q hq => by cases hq; exact Or.inl rfl) c52 ?_
    obtain ⟨σ53, eσ53, h⟩ := nm_el h
    refine RN_nmS eσ53 ?_
    obtain rfl := some_el h
    exact RN_return (by decide +kernel) rfl
def b_X7_weigh_12 : Nat → Nat → Nat → Int32 → Sg → Option Sg
  | 0, _, _, _, _ => none
  | n + 1, v0, v1, v3, σ =>
  ck (okO σ v0 6) <|
  if (gI σ v0 4) ≤ v3 then (
    b_X7_weigh_51 n v0 σ)
  else (
    ck (¬ gR σ v0 2 = 0) <|
    nm (gR σ v0 2) fun r55 =>
    ck (okA σ v1 13 v3) <|
    ck (okW σ r55 13 v3) <|
    nm (pI σ r55 v3.toNatClampNeg (gI σ v1 v3.toNatClampNeg)) fun σ58 =>
    ck (okO σ58 v0 6) <|
    ck (¬ gR σ58 v0 2 = 0) <|
    nm (gR σ58 v0 2) fun r61 =>
    ck (okA σ58 r61 13 v3) <|
    nm (pJ σ58 v0 5 ((gJ σ58 v0 5) + ((gI σ58 r61 v3.toNatClampNeg).toInt64))) fun σ63 =>
    nm (v3 + (1 : Int32)) fun x64 =>
    b_X7_weigh_12 n v0 v1 x64 σ63)
set_option maxRecDepth 20000 in
theorem tb_X7_weigh_12 {G : Gl} {σr : Sg} (v0 : Nat) (v1 : Nat) : ∀ (n : Nat) (v3 : Int32) (σ : Sg), b_X7_weigh_12 n v0 v1 v3 σ = some σr → RN G M_X7_weigh 12 [some (.ref v0), some (.ref v1), none, some (.int v3)] [] σ (.inl none) σr := by
  intro n
  induction n with
  | zero =>
    intro v3 σ h
    exact none_el h
  | succ n ih =>
    intro v3 σ h
    rw [b_X7_weigh_12] at h
    refine RN_iload_n (pc := 12) (k := 3) (by decide +kernel) rfl rfl ?_
    refine RN_aload_n (pc := 13) (k := 0) (by decide +kernel) rfl rfl ?_
    obtain ⟨c37, h⟩ := ck_el h
    refine RN_getI (pc := 14) (idx := 37) (ci := 6) (k := 4) (by decide +kernel) lf_RX7_37 (Or.inl rfl) c37 ?_
    refine RN_icmp_ge (pc := 17) (off := 34) (tgt := 51) (by decide +kernel) (by decide) (fun c38 => ?_) (fun c38 => ?_)
    · replace h := it_t c38 h
      exact RN_weak (l := [some (.ref v0)]) (And.intro rfl trivial) (tb_X7_weigh_51 n v0 σ h)
    · replace h := it_f c38 h
      refine RN_aload_n (pc := 20) (k := 0) (by decide +kernel) rfl rfl ?_
      obtain ⟨c54, h⟩ := ck_el h
      refine RN_getR (pc := 21) (idx := 15) (ci := 6) (k := 2) (by decide +kernel) lf_RX7_15 rfl c37 c54 ?_
      obtain ⟨r55, er55, h⟩ := nm_el h
      refine RN_nmR er55 ?_
      refine RN_iload_n (pc := 24) (k := 3) (by decide +kernel) rfl rfl ?_
      refine RN_aload_n (pc := 25) (k := 1) (by decide +kernel) rfl rfl ?_
      refine RN_iload_n (pc := 26) (k := 3) (by decide +kernel) rfl rfl ?_
      obtain ⟨c56, h⟩ := ck_el h
      refine RN_iald (pc := 27) (by decide +kernel) c56 ?_
      obtain ⟨c57, h⟩ := ck_el h
      refine RN_iast (pc := 28) (by decide +kernel) c57 ?_
      obtain ⟨σ58, eσ58, h⟩ := nm_el h
      refine RN_nmS eσ58 ?_
      refine RN_aload_n (pc := 29) (k := 0) (by decide +kernel) rfl rfl ?_
      refine RN_dup (pc := 30) (by decide +kernel) rfl ?_
      obtain ⟨c59, h⟩ := ck_el h
      refine RN_getJ (pc := 31) (idx := 41) (ci := 6) (k := 5) (by decide +kernel) lf_RX7_41 rfl c59 ?_
      refine RN_aload_n (pc := 34) (k := 0) (by decide +kernel) rfl rfl ?_
      obtain ⟨c60, h⟩ := ck_el h
      refine RN_getR (pc := 35) (idx := 15) (ci := 6) (k := 2) (by decide +kernel) lf_RX7_15 rfl c59 c60 ?_
      obtain ⟨r61, er61, h⟩ := nm_el h
      refine RN_nmR er61 ?_
      refine RN_iload_n (pc := 38) (k := 3) (by decide +kernel) rfl rfl ?_
      obtain ⟨c62, h⟩ := ck_el h
      refine RN_iald (pc := 39) (by decide +kernel) c62 ?_
      refine RN_i2l (pc := 40) (by decide +kernel) ?_
      refine RN_ladd (pc := 41) (by decide +kernel) ?_
      refine RN_putJ (pc := 42) (idx := 41) (ci := 6) (k := 5) (by decide +kernel) lf_RX7_41 rfl (fun q hq => by cases hq; exact Or.inl rfl) c59 ?_
      obtain ⟨σ63, eσ63, h⟩ := nm_el h
      refine RN_nmS eσ63 ?_
      obtain ⟨x64, ex64, h⟩ := nm_el h
      refine RN_iinc (pc := 45) (i := 3) (n := 1) (v := x64) (ls2 := [some (.ref v0), some (.ref v1), none, some (.int x64)]) (by decide +kernel) rfl (by rw [ex64]; rfl) (by decide) rfl ?_
      refine RN_goto (pc := 48) (off := -36) (tgt := 12) (by decide +kernel) (by decide) ?_
      exact RN_weak (l := [some (.ref v0), some (.ref v1), none, some (.int x64)]) (And.intro rfl (And.intro rfl (And.intro rfl trivial))) (ih x64 σ63 h)
def f_X7_weigh (n : Nat) (v0 : Nat) (v1 : Nat) (v2 : Int32) (σ : Sg) : Option Sg :=
  ck (okO σ v0 6) <|
  nm (pI σ v0 4 v2) fun σ34 =>
  ck (okO σ34 v0 6) <|
  nm (pJ σ34 v0 5 (0 : Int64)) fun σ36 =>
  b_X7_weigh_12 n v0 v1 (0 : Int32) σ36
set_option maxRecDepth 20000 in
theorem t_X7_weigh {G : Gl} {σr : Sg} {n : Nat} {v0 : Nat} {v1 : Nat} {v2 : Int32} {σ : Sg} (h : f_X7_weigh n v0 v1 v2 σ = some σr) : MT G M_X7_weigh [.ref v0, .ref v1, .int v2] σ none σr := by
  refine MT_of rfl rfl (Nat.le_of_ble_eq_true rfl) ?_
  show RN G M_X7_weigh 0 [some (.ref v0), some (.ref v1), some (.int v2)] [] σ (.inl none) σr
  unfold f_X7_weigh at h
  refine RN_aload_n (pc := 0) (k := 0) (by decide +kernel) rfl rfl ?_
  refine RN_iload_n (pc := 1) (k := 2) (by decide +kernel) rfl rfl ?_
  obtain ⟨c33, h⟩ := ck_el h
  refine RN_putI (pc := 2) (idx := 37) (ci := 6) (k := 4) (by decide +kernel) lf_RX7_37 rfl (fun q hq => by cases hq; exact Or.inl rfl) c33 ?_
  obtain ⟨σ34, eσ34, h⟩ := nm_el h
  refine RN_nmS eσ34 ?_
  refine RN_aload_n (pc := 5) (k := 0) (by decide +kernel) rfl rfl ?_
  refine RN_lconst (pc := 6) (n := 0) (v := 0) (by decide +kernel) (by decide) ?_
  obtain ⟨c35, h⟩ := ck_el h
  refine RN_putJ (pc := 7) (idx := 41) (ci := 6) (k := 5) (by decide +kernel) lf_RX7_41 rfl (fun q hq => by cases hq; exact Or.inl rfl) c35 ?_
  obtain ⟨σ36, eσ36, h⟩ := nm_el h
  refine RN_nmS eσ36 ?_
  refine RN_iconst (pc := 10) (n := 0) (v := 0) (by decide +kernel) (by decide) ?_
  refine RN_istore_n (pc := 11) (k := 3) (ls2 := [some (.ref v0), some (.ref v1), some (.int v2), some (.int (0 : Int32))]) (by decide +kernel) rfl (by decide) rfl ?_
  exact RN_weak (l := [some (.ref v0), some (.ref v1), none, some (.int (0 : Int32))]) (And.intro rfl (And.intro rfl (And.intro rfl trivial))) (tb_X7_weigh_12 v0 v1 n (0 : Int32) σ36 h)
def b_X7_giveByRests_106 (k48 : Int32 → Sg → Option Sg) (n : Nat) (v0 : Nat) (v1 : Int64) (v3 : Int32) (v4 : Int32) (σ : Sg) : Option Sg :=
  ck (okO σ v0 6) <|
  ck (¬ gR σ v0 0 = 0) <|
  nm (gR σ v0 0) fun r44 =>
  ck (okA σ r44 14 v4) <|
  ck (okW σ r44 14 v4) <|
  nm (pJ σ r44 v4.toNatClampNeg ((gJ σ r44 v4.toNatClampNeg) + (1 : Int64))) fun σ47 =>
  ck (okO σ47 v0 6) <|
  ck (¬ gR σ47 v0 3 = 0) <|
  nm (gR σ47 v0 3) fun r50 =>
  ck (okW σ47 r50 14 v4) <|
  nm (pJ σ47 r50 v4.toNatClampNeg (-1 : Int64)) fun σ52 =>
  nm (v3 + (1 : Int32)) fun x53 =>
  k48 x53 σ52
set_option maxRecDepth 20000 in
theorem tb_X7_giveByRests_106 {G : Gl} {σr : Sg} (n : Nat) (v0 : Nat) (v1 : Int64) (v3 : Int32) (v4 : Int32) (σ : Sg) (k48 : Int32 → Sg → Option Sg) (hk48 : ∀ (c3 : Int32) (τ : Sg), k48 c3 τ = some σr → RN G M_X7_giveByRests 48 [some (.ref v0), some (.long v1), none, some (.int c3)] [] τ (.inl none) σr) (h : b_X7_giveByRests_106 k48 n v0 v1 v3 v4 σ = some σr) : RN G M_X7_giveByRests 106 [some (.ref v0), some (.long v1), none, some (.int v3), some (.int v4)] [] σ (.inl none) σr := by
  unfold b_X7_giveByRests_106 at h
  refine RN_aload_n (pc := 106) (k := 0) (by decide +kernel) rfl rfl ?_
  obtain ⟨c42, h⟩ := ck_el h
  obtain ⟨c43, h⟩ := ck_el h
  refine RN_getR (pc := 107) (idx := 9) (ci := 6) (k := 0) (by decide +kernel) lf_RX7_9 rfl c42 c43 ?_
  obtain ⟨r44, er44, h⟩ := nm_el h
  refine RN_nmR er44 ?_
  refine RN_iload (pc := 110) (i := 4) (by decide +kernel) rfl ?_
  refine RN_dup2_11 (pc := 112) (by decide +kernel) rfl rfl ?_
  obtain ⟨c45, h⟩ := ck_el h
  refine RN_lald (pc := 113) (by decide +kernel) c45 ?_
  refine RN_lconst (pc := 114) (n := 1) (v := 1) (by decide +kernel) (by decide) ?_
  refine RN_ladd (pc := 115) (by decide +kernel) ?_
  obtain ⟨c46, h⟩ := ck_el h
  refine RN_last (pc := 116) (by decide +kernel) c46 ?_
  obtain ⟨σ47, eσ47, h⟩ := nm_el h
  refine RN_nmS eσ47 ?_
  refine RN_aload_n (pc := 117) (k := 0) (by decide +kernel) rfl rfl ?_
  obtain ⟨c48, h⟩ := ck_el h
  obtain ⟨c49, h⟩ := ck_el h
  refine RN_getR (pc := 118) (idx := 19) (ci := 6) (k := 3) (by decide +kernel) lf_RX7_19 rfl c48 c49 ?_
  obtain ⟨r50, er50, h⟩ := nm_el h
  refine RN_nmR er50 ?_
  refine RN_iload (pc := 121) (i := 4) (by decide +kernel) rfl ?_
  refine RN_ldc2 (pc := 123) (idx := 59) (v := -1) (by decide +kernel) kc_RX7_59 ?_
  obtain ⟨c51, h⟩ := ck_el h
  refine RN_last (pc := 126) (by decide +kernel) c51 ?_
  obtain ⟨σ52, eσ52, h⟩ := nm_el h
  refine RN_nmS eσ52 ?_
  obtain ⟨x53, ex53, h⟩ := nm_el h
  refine RN_iinc (pc := 127) (i := 3) (n := 1) (v := x53) (ls2 := [some (.ref v0), some (.long v1), none, some (.int x53), some (.int v4)]) (by decide +kernel) rfl (by rw [ex53]; rfl) (by decide) rfl ?_
  refine RN_goto (pc := 130) (off := -82) (tgt := 48) (by decide +kernel) (by decide) ?_
  exact RN_weak (l := [some (.ref v0), some (.long v1), none, some (.int x53)]) (And.intro rfl (And.intro rfl (And.intro rfl trivial))) (hk48 x53 σ52 h)
def b_X7_giveByRests_100 (k48 : Int32 → Sg → Option Sg) (k69 : Int32 → Int32 → Option Sg) (n : Nat) (v0 : Nat) (v1 : Int64) (v3 : Int32) (v4 : Int32) (v5 : Int32) (σ : Sg) : Option Sg :=
  nm (v5 + (1 : Int32)) fun x60 =>
  k69 v4 x60
set_option maxRecDepth 20000 in
theorem tb_X7_giveByRests_100 {G : Gl} {σr : Sg} (n : Nat) (v0 : Nat) (v1 : Int64) (v3 : Int32) (v4 : Int32) (v5 : Int32) (σ : Sg) (k48 : Int32 → Sg → Option Sg) (hk48 : ∀ (c3 : Int32) (τ : Sg), k48 c3 τ = some σr → RN G M_X7_giveByRests 48 [some (.ref v0), some (.long v1), none, some (.int c3)] [] τ (.inl none) σr) (k69 : Int32 → Int32 → Option Sg) (hk69 : ∀ (c4 : Int32) (c5 : Int32), k69 c4 c5 = some σr → RN G M_X7_giveByRests 69 [some (.ref v0), some (.long v1), none, some (.int v3), some (.int c4), some (.int c5)] [] σ (.inl none) σr) (h : b_X7_giveByRests_100 k48 k69 n v0 v1 v3 v4 v5 σ = some σr) : RN G M_X7_giveByRests 100 [some (.ref v0), some (.long v1), none, some (.int v3), some (.int v4), some (.int v5)] [] σ (.inl none) σr := by
  unfold b_X7_giveByRests_100 at h
  obtain ⟨x60, ex60, h⟩ := nm_el h
  refine RN_iinc (pc := 100) (i := 5) (n := 1) (v := x60) (ls2 := [some (.ref v0), some (.long v1), none, some (.int v3), some (.int v4), some (.int x60)]) (by decide +kernel) rfl (by rw [ex60]; rfl) (by decide) rfl ?_
  refine RN_goto (pc := 103) (off := -34) (tgt := 69) (by decide +kernel) (by decide) ?_
  exact RN_weak (l := [some (.ref v0), some (.long v1), none, some (.int v3), some (.int v4), some (.int x60)]) (And.intro rfl (And.intro rfl (And.intro rfl (And.intro rfl (And.intro rfl trivial))))) (hk69 v4 x60 h)
def b_X7_giveByRests_69 (k48 : Int32 → Sg → Option Sg) : Nat → Nat → Int64 → Int32 → Int32 → Int32 → Sg → Option Sg
  | 0, _, _, _, _, _, _ => none
  | n + 1, v0, v1, v3, v4, v5, σ =>
  ck (okO σ v0 6) <|
  if (gI σ v0 4) ≤ v5 then (
    b_X7_giveByRests_106 k48 n v0 v1 v3 v4 σ)
  else (
    ck (¬ gR σ v0 3 = 0) <|
    nm (gR σ v0 3) fun r55 =>
    ck (okA σ r55 14 v5) <|
    nm (gR σ v0 3) fun r57 =>
    ck (okA σ r57 14 v4) <|
    if (gJ σ r55 v5.toNatClampNeg) ≤ (gJ σ r57 v4.toNatClampNeg) then (
      b_X7_giveByRests_100 k48 (fun c4 c5 => b_X7_giveByRests_69 k48 n v0 v1 v3 c4 c5 σ) n v0 v1 v3 v4 v5 σ)
    else (
      b_X7_giveByRests_100 k48 (fun c4 c5 => b_X7_giveByRests_69 k48 n v0 v1 v3 c4 c5 σ) n v0 v1 v3 v5 v5 σ))
set_option maxRecDepth 20000 in
theorem tb_X7_giveByRests_69 {G : Gl} {σr : Sg} (v0 : Nat) (v1 : Int64) (v3 : Int32) (σ : Sg) (k48 : Int32 → Sg → Option Sg) (hk48 : ∀ (c3 : Int32) (τ : Sg), k48 c3 τ = some σr → RN G M_X7_giveByRests 48 [some (.ref v0), some (.long v1), none, some (.int c3)] [] τ (.inl none) σr) : ∀ (n : Nat) (v4 : Int32) (v5 : Int32), b_X7_giveByRests_69 k48 n v0 v1 v3 v4 v5 σ = some σr → RN G M_X7_giveByRests 69 [some (.ref v0), some (.long v1), none, some (.int v3), some (.int v4), some (.int v5)] [] σ (.inl none) σr := by
  intro n
  induction n with
  | zero =>
    intro v4 v5 h
    exact none_el h
  | succ n ih =>
    intro v4 v5 h
    rw [b_X7_giveByRests_69] at h
    refine RN_iload (pc := 69) (i := 5) (by decide +kernel) rfl ?_
    refine RN_aload_n (pc := 71) (k := 0) (by decide +kernel) rfl rfl ?_
    obtain ⟨c40, h⟩ := ck_el h
    refine RN_getI (pc := 72) (idx := 37) (ci := 6) (k := 4) (by decide +kernel) lf_RX7_37 (Or.inl rfl) c40 ?_
    refine RN_icmp_ge (pc := 75) (off := 31) (tgt := 106) (by decide +kernel) (by decide) (fun c41 => ?_) (fun c41 => ?_)
    · replace h := it_t c41 h
      exact RN_weak (l := [some (.ref v0), some (.long v1), none, some (.int v3), some (.int v4)]) (And.intro rfl (And.intro rfl (And.intro rfl (And.intro rfl trivial)))) (tb_X7_giveByRests_106 n v0 v1 v3 v4 σ k48 hk48 h)
    · replace h := it_f c41 h
      refine RN_aload_n (pc := 78) (k := 0) (by decide +kernel) rfl rfl ?_
      obtain ⟨c54, h⟩ := ck_el h
      refine RN_getR (pc := 79) (idx := 19) (ci := 6) (k := 3) (by decide +kernel) lf_RX7_19 rfl c40 c54 ?_
      obtain ⟨r55, er55, h⟩ := nm_el h
      refine RN_nmR er55 ?_
      refine RN_iload (pc := 82) (i := 5) (by decide +kernel) rfl ?_
      obtain ⟨c56, h⟩ := ck_el h
      refine RN_lald (pc := 84) (by decide +kernel) c56 ?_
      refine RN_aload_n (pc := 85) (k := 0) (by decide +kernel) rfl rfl ?_
      refine RN_getR (pc := 86) (idx := 19) (ci := 6) (k := 3) (by decide +kernel) lf_RX7_19 rfl c40 c54 ?_
      obtain ⟨r57, er57, h⟩ := nm_el h
      refine RN_nmR er57 ?_
      refine RN_iload (pc := 89) (i := 4) (by decide +kernel) rfl ?_
      obtain ⟨c58, h⟩ := ck_el h
      refine RN_lald (pc := 91) (by decide +kernel) c58 ?_
      refine RN_lc_le (pc := 92) (off := 7) (tgt := 100) (by decide +kernel) (by decide +kernel) (by decide) (fun c59 => ?_) (fun c59 => ?_)
      · replace h := it_t c59 h
        exact RN_weak (l := [some (.ref v0), some (.long v1), none, some (.int v3), some (.int v4), some (.int v5)]) (And.intro rfl (And.intro rfl (And.intro rfl (And.intro rfl (And.intro rfl trivial))))) (tb_X7_giveByRests_100 n v0 v1 v3 v4 v5 σ k48 hk48 _ (fun c4 c5 h => ih c4 c5 h) h)
      · replace h := it_f c59 h
        refine RN_iload (pc := 96) (i := 5) (by decide +kernel) rfl ?_
        refine RN_istore (pc := 98) (i := 4) (ls2 := [some (.ref v0), some (.long v1), none, some (.int v3), some (.int v5), some (.int v5)]) (by decide +kernel) (by decide) rfl ?_
        exact RN_weak (l := [some (.ref v0), some (.long v1), none, some (.int v3), some (.int v5), some (.int v5)]) (And.intro rfl (And.intro rfl (And.intro rfl (And.intro rfl (And.intro rfl trivial))))) (tb_X7_giveByRests_100 n v0 v1 v3 v5 v5 σ k48 hk48 _ (fun c4 c5 h => ih c4 c5 h) h)
def b_X7_giveByRests_48 : Nat → Nat → Int64 → Int32 → Sg → Option Sg
  | 0, _, _, _, _ => none
  | n + 1, v0, v1, v3, σ =>
  if v1 ≤ (v3.toInt64) then (
    some σ)
  else (
    ck (okO σ v0 6) <|
    if (gI σ v0 4) ≤ v3 then (
      some σ)
    else (
      b_X7_giveByRests_69 (fun c3 τ => b_X7_giveByRests_48 n v0 v1 c3 τ) n v0 v1 v3 (0 : Int32) (1 : Int32) σ))
set_option maxRecDepth 20000 in
theorem tb_X7_giveByRests_48 {G : Gl} {σr : Sg} (v0 : Nat) (v1 : Int64) : ∀ (n : Nat) (v3 : Int32) (σ : Sg), b_X7_giveByRests_48 n v0 v1 v3 σ = some σr → RN G M_X7_giveByRests 48 [some (.ref v0), some (.long v1), none, some (.int v3)] [] σ (.inl none) σr := by
  intro n
  induction n with
  | zero =>
    intro v3 σ h
    exact none_el h
  | succ n ih =>
    intro v3 σ h
    rw [b_X7_giveByRests_48] at h
    refine RN_iload_n (pc := 48) (k := 3) (by decide +kernel) rfl rfl ?_
    refine RN_i2l (pc := 49) (by decide +kernel) ?_
    refine RN_lload_n (pc := 50) (k := 1) (by decide +kernel) rfl rfl ?_
    refine RN_lc_ge (pc := 51) (off := 81) (tgt := 133) (by decide +kernel) (by decide +kernel) (by decide) (fun c37 => ?_) (fun c37 => ?_)
    · replace h := it_t c37 h
      obtain rfl := some_el h
      exact RN_return (by decide +kernel) rfl
    · replace h := it_f c37 h
      refine RN_iload_n (pc := 55) (k := 3) (by decide +kernel) rfl rfl ?_
      refine RN_aload_n (pc := 56) (k := 0) (by decide +kernel) rfl rfl ?_
      obtain ⟨c38, h⟩ := ck_el h
      refine RN_getI (pc := 57) (idx := 37) (ci := 6) (k := 4) (by decide +kernel) lf_RX7_37 (Or.inl rfl) c38 ?_
      refine RN_icmp_ge (pc := 60) (off := 73) (tgt := 133) (by decide +kernel) (by decide) (fun c39 => ?_) (fun c39 => ?_)
      · replace h := it_t c39 h
        obtain rfl := some_el h
        exact RN_return (by decide +kernel) rfl
      · replace h := it_f c39 h
        refine RN_iconst (pc := 63) (n := 0) (v := 0) (by decide +kernel) (by decide) ?_
        refine RN_istore (pc := 64) (i := 4) (ls2 := [some (.ref v0), some (.long v1), none, some (.int v3), some (.int (0 : Int32))]) (by decide +kernel) (by decide) rfl ?_
        refine RN_iconst (pc := 66) (n := 1) (v := 1) (by decide +kernel) (by decide) ?_
        refine RN_istore (pc := 67) (i := 5) (ls2 := [some (.ref v0), some (.long v1), none, some (.int v3), some (.int (0 : Int32)), some (.int (1 : Int32))]) (by decide +kernel) (by decide) rfl ?_
        exact RN_weak (l := [some (.ref v0), some (.long v1), none, some (.int v3), some (.int (0 : Int32)), some (.int (1 : Int32))]) (And.intro rfl (And.intro rfl (And.intro rfl (And.intro rfl (And.intro rfl trivial))))) (tb_X7_giveByRests_69 v0 v1 v3 σ _ (fun c3 τ h => ih c3 τ h) n (0 : Int32) (1 : Int32) h)
def b_X7_giveByRests_46 (n : Nat) (v0 : Nat) (v1 : Int64) (σ : Sg) : Option Sg :=
  b_X7_giveByRests_48 n v0 v1 (0 : Int32) σ
set_option maxRecDepth 20000 in
theorem tb_X7_giveByRests_46 {G : Gl} {σr : Sg} (n : Nat) (v0 : Nat) (v1 : Int64) (σ : Sg) (h : b_X7_giveByRests_46 n v0 v1 σ = some σr) : RN G M_X7_giveByRests 46 [some (.ref v0), some (.long v1)] [] σ (.inl none) σr := by
  unfold b_X7_giveByRests_46 at h
  refine RN_iconst (pc := 46) (n := 0) (v := 0) (by decide +kernel) (by decide) ?_
  refine RN_istore_n (pc := 47) (k := 3) (ls2 := [some (.ref v0), some (.long v1), none, some (.int (0 : Int32))]) (by decide +kernel) rfl (by decide) rfl ?_
  exact RN_weak (l := [some (.ref v0), some (.long v1), none, some (.int (0 : Int32))]) (And.intro rfl (And.intro rfl (And.intro rfl trivial))) (tb_X7_giveByRests_48 v0 v1 n (0 : Int32) σ h)
def b_X7_giveByRests_2 : Nat → Nat → Int64 → Int32 → Sg → Option Sg
  | 0, _, _, _, _ => none
  | n + 1, v0, v1, v3, σ =>
  ck (okO σ v0 6) <|
  if (gI σ v0 4) ≤ v3 then (
    b_X7_giveByRests_46 n v0 v1 σ)
  else (
    ck (¬ gR σ v0 3 = 0) <|
    nm (gR σ v0 3) fun r62 =>
    ck (¬ gR σ v0 2 = 0) <|
    nm (gR σ v0 2) fun r64 =>
    ck (okA σ r64 13 v3) <|
    ck (¬ gR σ v0 0 = 0) <|
    nm (gR σ v0 0) fun r67 =>
    ck (okA σ r67 14 v3) <|
    ck (okW σ r62 14 v3) <|
    nm (pJ σ r62 v3.toNatClampNeg (((gJ σ v0 6) * ((gI σ r64 v3.toNatClampNeg).toInt64)) - ((gJ σ r67 v3.toNatClampNeg) * (gJ σ v0 5)))) fun σ70 =>
    nm (v3 + (1 : Int32)) fun x71 =>
    b_X7_giveByRests_2 n v0 v1 x71 σ70)
set_option maxRecDepth 20000 in
theorem tb_X7_giveByRests_2 {G : Gl} {σr : Sg} (v0 : Nat) (v1 : Int64) : ∀ (n : Nat) (v3 : Int32) (σ : Sg), b_X7_giveByRests_2 n v0 v1 v3 σ = some σr → RN G M_X7_giveByRests 2 [some (.ref v0), some (.long v1), none, some (.int v3)] [] σ (.inl none) σr := by
  intro n
  induction n with
  | zero =>
    intro v3 σ h
    exact none_el h
  | succ n ih =>
    intro v3 σ h
    rw [b_X7_giveByRests_2] at h
    refine RN_iload_n (pc := 2) (k := 3) (by decide +kernel) rfl rfl ?_
    refine RN_aload_n (pc := 3) (k := 0) (by decide +kernel) rfl rfl ?_
    obtain ⟨c35, h⟩ := ck_el h
    refine RN_getI (pc := 4) (idx := 37) (ci := 6) (k := 4) (by decide +kernel) lf_RX7_37 (Or.inl rfl) c35 ?_
    refine RN_icmp_ge (pc := 7) (off := 39) (tgt := 46) (by decide +kernel) (by decide) (fun c36 => ?_) (fun c36 => ?_)
    · replace h := it_t c36 h
      exact RN_weak (l := [some (.ref v0), some (.long v1)]) (And.intro rfl (And.intro rfl trivial)) (tb_X7_giveByRests_46 n v0 v1 σ h)
    · replace h := it_f c36 h
      refine RN_aload_n (pc := 10) (k := 0) (by decide +kernel) rfl rfl ?_
      obtain ⟨c61, h⟩ := ck_el h
      refine RN_getR (pc := 11) (idx := 19) (ci := 6) (k := 3) (by decide +kernel) lf_RX7_19 rfl c35 c61 ?_
      obtain ⟨r62, er62, h⟩ := nm_el h
      refine RN_nmR er62 ?_
      refine RN_iload_n (pc := 14) (k := 3) (by decide +kernel) rfl rfl ?_
      refine RN_aload_n (pc := 15) (k := 0) (by decide +kernel) rfl rfl ?_
      refine RN_getJ (pc := 16) (idx := 29) (ci := 6) (k := 6) (by decide +kernel) lf_RX7_29 rfl c35 ?_
      refine RN_aload_n (pc := 19) (k := 0) (by decide +kernel) rfl rfl ?_
      obtain ⟨c63, h⟩ := ck_el h
      refine RN_getR (pc := 20) (idx := 15) (ci := 6) (k := 2) (by decide +kernel) lf_RX7_15 rfl c35 c63 ?_
      obtain ⟨r64, er64, h⟩ := nm_el h
      refine RN_nmR er64 ?_
      refine RN_iload_n (pc := 23) (k := 3) (by decide +kernel) rfl rfl ?_
      obtain ⟨c65, h⟩ := ck_el h
      refine RN_iald (pc := 24) (by decide +kernel) c65 ?_
      refine RN_i2l (pc := 25) (by decide +kernel) ?_
      refine RN_lmul (pc := 26) (by decide +kernel) ?_
      refine RN_aload_n (pc := 27) (k := 0) (by decide +kernel) rfl rfl ?_
      obtain ⟨c66, h⟩ := ck_el h
      refine RN_getR (pc := 28) (idx := 9) (ci := 6) (k := 0) (by decide +kernel) lf_RX7_9 rfl c35 c66 ?_
      obtain ⟨r67, er67, h⟩ := nm_el h
      refine RN_nmR er67 ?_
      refine RN_iload_n (pc := 31) (k := 3) (by decide +kernel) rfl rfl ?_
      obtain ⟨c68, h⟩ := ck_el h
      refine RN_lald (pc := 32) (by decide +kernel) c68 ?_
      refine RN_aload_n (pc := 33) (k := 0) (by decide +kernel) rfl rfl ?_
      refine RN_getJ (pc := 34) (idx := 41) (ci := 6) (k := 5) (by decide +kernel) lf_RX7_41 rfl c35 ?_
      refine RN_lmul (pc := 37) (by decide +kernel) ?_
      refine RN_lsub (pc := 38) (by decide +kernel) ?_
      obtain ⟨c69, h⟩ := ck_el h
      refine RN_last (pc := 39) (by decide +kernel) c69 ?_
      obtain ⟨σ70, eσ70, h⟩ := nm_el h
      refine RN_nmS eσ70 ?_
      obtain ⟨x71, ex71, h⟩ := nm_el h
      refine RN_iinc (pc := 40) (i := 3) (n := 1) (v := x71) (ls2 := [some (.ref v0), some (.long v1), none, some (.int x71)]) (by decide +kernel) rfl (by rw [ex71]; rfl) (by decide) rfl ?_
      refine RN_goto (pc := 43) (off := -41) (tgt := 2) (by decide +kernel) (by decide) ?_
      exact RN_weak (l := [some (.ref v0), some (.long v1), none, some (.int x71)]) (And.intro rfl (And.intro rfl (And.intro rfl trivial))) (ih x71 σ70 h)
def f_X7_giveByRests (n : Nat) (v0 : Nat) (v1 : Int64) (σ : Sg) : Option Sg :=
  b_X7_giveByRests_2 n v0 v1 (0 : Int32) σ
set_option maxRecDepth 20000 in
theorem t_X7_giveByRests {G : Gl} {σr : Sg} {n : Nat} {v0 : Nat} {v1 : Int64} {σ : Sg} (h : f_X7_giveByRests n v0 v1 σ = some σr) : MT G M_X7_giveByRests [.ref v0, .long v1] σ none σr := by
  refine MT_of rfl rfl (Nat.le_of_ble_eq_true rfl) ?_
  show RN G M_X7_giveByRests 0 [some (.ref v0), some (.long v1), none] [] σ (.inl none) σr
  unfold f_X7_giveByRests at h
  refine RN_iconst (pc := 0) (n := 0) (v := 0) (by decide +kernel) (by decide) ?_
  refine RN_istore_n (pc := 1) (k := 3) (ls2 := [some (.ref v0), some (.long v1), none, some (.int (0 : Int32))]) (by decide +kernel) rfl (by decide) rfl ?_
  exact RN_weak (l := [some (.ref v0), some (.long v1), none, some (.int (0 : Int32))]) (And.intro rfl (And.intro rfl (And.intro rfl trivial))) (tb_X7_giveByRests_2 v0 v1 n (0 : Int32) σ h)
def b_X7_giveInOrder_45 (k5 : Int64 → Int32 → Sg → Option Sg) (n : Nat) (v0 : Nat) (v3 : Int64) (v5 : Int32) (σ : Sg) : Option Sg :=
  nm (v5 + (1 : Int32)) fun x21 =>
  k5 v3 x21 σ
set_option maxRecDepth 20000 in
theorem tb_X7_giveInOrder_45 {G : Gl} {σr : Sg} (n : Nat) (v0 : Nat) (v3 : Int64) (v5 : Int32) (σ : Sg) (k5 : Int64 → Int32 → Sg → Option Sg) (hk5 : ∀ (c3 : Int64) (c5 : Int32) (τ : Sg), k5 c3 c5 τ = some σr → RN G M_X7_giveInOrder 5 [some (.ref v0), none, none, some (.long c3), none, some (.int c5)] [] τ (.inl none) σr) (h : b_X7_giveInOrder_45 k5 n v0 v3 v5 σ = some σr) : RN G M_X7_giveInOrder 45 [some (.ref v0), none, none, some (.long v3), none, some (.int v5)] [] σ (.inl none) σr := by
  unfold b_X7_giveInOrder_45 at h
  obtain ⟨x21, ex21, h⟩ := nm_el h
  refine RN_iinc (pc := 45) (i := 5) (n := 1) (v := x21) (ls2 := [some (.ref v0), none, none, some (.long v3), none, some (.int x21)]) (by decide +kernel) rfl (by rw [ex21]; rfl) (by decide) rfl ?_
  refine RN_goto (pc := 48) (off := -43) (tgt := 5) (by decide +kernel) (by decide) ?_
  exact RN_weak (l := [some (.ref v0), none, none, some (.long v3), none, some (.int x21)]) (And.intro rfl (And.intro rfl (And.intro rfl trivial))) (hk5 v3 x21 σ h)
def b_X7_giveInOrder_5 : Nat → Nat → Int64 → Int32 → Sg → Option Sg
  | 0, _, _, _, _ => none
  | n + 1, v0, v3, v5, σ =>
  ck (okO σ v0 6) <|
  if (gI σ v0 4) ≤ v5 then (
    some σ)
  else (
    if v3 ≤ (0 : Int64) then (
      some σ)
    else (
      ck (¬ gR σ v0 2 = 0) <|
      nm (gR σ v0 2) fun r18 =>
      ck (okA σ r18 13 v5) <|
      if (gI σ r18 v5.toNatClampNeg) ≤ 0 then (
        b_X7_giveInOrder_45 (fun c3 c5 τ => b_X7_giveInOrder_5 n v0 c3 c5 τ) n v0 v3 v5 σ)
      else (
        ck (¬ gR σ v0 0 = 0) <|
        nm (gR σ v0 0) fun r23 =>
        ck (okA σ r23 14 v5) <|
        ck (okW σ r23 14 v5) <|
        nm (pJ σ r23 v5.toNatClampNeg ((gJ σ r23 v5.toNatClampNeg) + (1 : Int64))) fun σ26 =>
        nm (v3 - (1 : Int64)) fun x27 =>
        b_X7_giveInOrder_45 (fun c3 c5 τ => b_X7_giveInOrder_5 n v0 c3 c5 τ) n v0 x27 v5 σ26)))
set_option maxRecDepth 20000 in
theorem tb_X7_giveInOrder_5 {G : Gl} {σr : Sg} (v0 : Nat) : ∀ (n : Nat) (v3 : Int64) (v5 : Int32) (σ : Sg), b_X7_giveInOrder_5 n v0 v3 v5 σ = some σr → RN G M_X7_giveInOrder 5 [some (.ref v0), none, none, some (.long v3), none, some (.int v5)] [] σ (.inl none) σr := by
  intro n
  induction n with
  | zero =>
    intro v3 v5 σ h
    exact none_el h
  | succ n ih =>
    intro v3 v5 σ h
    rw [b_X7_giveInOrder_5] at h
    refine RN_iload (pc := 5) (i := 5) (by decide +kernel) rfl ?_
    refine RN_aload_n (pc := 7) (k := 0) (by decide +kernel) rfl rfl ?_
    obtain ⟨c14, h⟩ := ck_el h
    refine RN_getI (pc := 8) (idx := 37) (ci := 6) (k := 4) (by decide +kernel) lf_RX7_37 (Or.inl rfl) c14 ?_
    refine RN_icmp_ge (pc := 11) (off := 40) (tgt := 51) (by decide +kernel) (by decide) (fun c15 => ?_) (fun c15 => ?_)
    · replace h := it_t c15 h
      obtain rfl := some_el h
      exact RN_return (by decide +kernel) rfl
    · replace h := it_f c15 h
      refine RN_lload_n (pc := 14) (k := 3) (by decide +kernel) rfl rfl ?_
      refine RN_lconst (pc := 15) (n := 0) (v := 0) (by decide +kernel) (by decide) ?_
      refine RN_lc_le (pc := 16) (off := 34) (tgt := 51) (by decide +kernel) (by decide +kernel) (by decide) (fun c16 => ?_) (fun c16 => ?_)
      · replace h := it_t c16 h
        obtain rfl := some_el h
        exact RN_return (by decide +kernel) rfl
      · replace h := it_f c16 h
        refine RN_aload_n (pc := 20) (k := 0) (by decide +kernel) rfl rfl ?_
        obtain ⟨c17, h⟩ := ck_el h
        refine RN_getR (pc := 21) (idx := 15) (ci := 6) (k := 2) (by decide +kernel) lf_RX7_15 rfl c14 c17 ?_
        obtain ⟨r18, er18, h⟩ := nm_el h
        refine RN_nmR er18 ?_
        refine RN_iload (pc := 24) (i := 5) (by decide +kernel) rfl ?_
        obtain ⟨c19, h⟩ := ck_el h
        refine RN_iald (pc := 26) (by decide +kernel) c19 ?_
        refine RN_if_le (pc := 27) (off := 18) (tgt := 45) (by decide +kernel) (by decide) (fun c20 => ?_) (fun c20 => ?_)
        · replace h := it_t c20 h
          exact RN_weak (l := [some (.ref v0), none, none, some (.long v3), none, some (.int v5)]) (And.intro rfl (And.intro rfl (And.intro rfl trivial))) (tb_X7_giveInOrder_45 n v0 v3 v5 σ _ (fun c3 c5 τ h => ih c3 c5 τ h) h)
        · replace h := it_f c20 h
          refine RN_aload_n (pc := 30) (k := 0) (by decide +kernel) rfl rfl ?_
          obtain ⟨c22, h⟩ := ck_el h
          refine RN_getR (pc := 31) (idx := 9) (ci := 6) (k := 0) (by decide +kernel) lf_RX7_9 rfl c14 c22 ?_
          obtain ⟨r23, er23, h⟩ := nm_el h
          refine RN_nmR er23 ?_
          refine RN_iload (pc := 34) (i := 5) (by decide +kernel) rfl ?_
          refine RN_dup2_11 (pc := 36) (by decide +kernel) rfl rfl ?_
          obtain ⟨c24, h⟩ := ck_el h
          refine RN_lald (pc := 37) (by decide +kernel) c24 ?_
          refine RN_lconst (pc := 38) (n := 1) (v := 1) (by decide +kernel) (by decide) ?_
          refine RN_ladd (pc := 39) (by decide +kernel) ?_
          obtain ⟨c25, h⟩ := ck_el h
          refine RN_last (pc := 40) (by decide +kernel) c25 ?_
          obtain ⟨σ26, eσ26, h⟩ := nm_el h
          refine RN_nmS eσ26 ?_
          refine RN_lload_n (pc := 41) (k := 3) (by decide +kernel) rfl rfl ?_
          refine RN_lconst (pc := 42) (n := 1) (v := 1) (by decide +kernel) (by decide) ?_
          refine RN_lsub (pc := 43) (by decide +kernel) ?_
          obtain ⟨x27, ex27, h⟩ := nm_el h
          refine RN_nmJ ex27 ?_
          refine RN_lstore_n (pc := 44) (k := 3) (ls2 := [some (.ref v0), none, none, some (.long x27), none, some (.int v5)]) (by decide +kernel) rfl (by decide) rfl ?_
          exact RN_weak (l := [some (.ref v0), none, none, some (.long x27), none, some (.int v5)]) (And.intro rfl (And.intro rfl (And.intro rfl trivial))) (tb_X7_giveInOrder_45 n v0 x27 v5 σ26 _ (fun c3 c5 τ h => ih c3 c5 τ h) h)
def f_X7_giveInOrder (n : Nat) (v0 : Nat) (v1 : Int64) (σ : Sg) : Option Sg :=
  b_X7_giveInOrder_5 n v0 v1 (0 : Int32) σ
set_option maxRecDepth 20000 in
theorem t_X7_giveInOrder {G : Gl} {σr : Sg} {n : Nat} {v0 : Nat} {v1 : Int64} {σ : Sg} (h : f_X7_giveInOrder n v0 v1 σ = some σr) : MT G M_X7_giveInOrder [.ref v0, .long v1] σ none σr := by
  refine MT_of rfl rfl (Nat.le_of_ble_eq_true rfl) ?_
  show RN G M_X7_giveInOrder 0 [some (.ref v0), some (.long v1), none] [] σ (.inl none) σr
  unfold f_X7_giveInOrder at h
  refine RN_lload_n (pc := 0) (k := 1) (by decide +kernel) rfl rfl ?_
  refine RN_lstore_n (pc := 1) (k := 3) (ls2 := [some (.ref v0), some (.long v1), none, some (.long v1), none]) (by decide +kernel) rfl (by decide) rfl ?_
  refine RN_iconst (pc := 2) (n := 0) (v := 0) (by decide +kernel) (by decide) ?_
  refine RN_istore (pc := 3) (i := 5) (ls2 := [some (.ref v0), some (.long v1), none, some (.long v1), none, some (.int (0 : Int32))]) (by decide +kernel) (by decide) rfl ?_
  exact RN_weak (l := [some (.ref v0), none, none, some (.long v1), none, some (.int (0 : Int32))]) (And.intro rfl (And.intro rfl (And.intro rfl trivial))) (tb_X7_giveInOrder_5 v0 n v1 (0 : Int32) σ h)
