def f_X0_init (v0 : Nat) (σ : Sg) : Option Sg :=
  nm (sN σ) fun r6 =>
  nm (nw σ 13 12) fun σ7 =>
  ck (okO σ7 v0 0) <|
  ck (¬ r6 = 0) <|
  nm (pR σ7 v0 0 r6) fun σ10 =>
  some σ10
set_option maxRecDepth 20000 in
theorem t_X0_init {G : Gl} {σr : Sg} {v0 : Nat} {σ : Sg} (h : f_X0_init v0 σ = some σr) : MT G M_X0_init [.ref v0] σ none σr := by
  refine MT_of rfl rfl (Nat.le_of_ble_eq_true rfl) ?_
  show RN G M_X0_init 0 [some (.ref v0)] [] σ (.inl none) σr
  unfold f_X0_init at h
  refine RN_aload_n (pc := 0) (k := 0) (by decide +kernel) rfl rfl ?_
  refine RN_objInit (pc := 1) (idx := 3) (by decide +kernel) oi_RX0_3 oi_b oi_c (by decide) (by decide) (Nat.le_of_ble_eq_true rfl) ?_
  refine RN_aload_n (pc := 4) (k := 0) (by decide +kernel) rfl rfl ?_
  refine RN_bipush (pc := 5) (n := 12) (v := 12) (by decide +kernel) (by decide) ?_
  refine RN_newa (pc := 7) (atype := .int) (N := 12) (t := 13) (by decide +kernel) ⟨by decide, by decide, rfl⟩ ac_13 (by decide) (by decide) (by decide) ?_
  obtain ⟨r6, er6, h⟩ := nm_el h
  refine RN_nmR er6 ?_
  obtain ⟨σ7, eσ7, h⟩ := nm_el h
  refine RN_nmS eσ7 ?_
  obtain ⟨c8, h⟩ := ck_el h
  obtain ⟨c9, h⟩ := ck_el h
  refine RN_putR (pc := 9) (idx := 9) (ci := 0) (k := 0) (by decide +kernel) lf_RX0_9 rfl (fun q hq => by cases hq; exact Or.inr ⟨rfl, rfl, rfl⟩) c9 c8 ?_
  obtain ⟨σ10, eσ10, h⟩ := nm_el h
  refine RN_nmS eσ10 ?_
  obtain rfl := some_el h
  exact RN_return (by decide +kernel) rfl
def b_X0_become_28 (n : Nat) (v0 : Nat) (v1 : Nat) (σ : Sg) : Option Sg :=
  ck (okO σ v1 0) <|
  ck (okO σ v0 0) <|
  nm (pI σ v0 1 (gI σ v1 1)) fun σ19 =>
  some σ19
set_option maxRecDepth 20000 in
theorem tb_X0_become_28 {G : Gl} {σr : Sg} (n : Nat) (v0 : Nat) (v1 : Nat) (σ : Sg) (h : b_X0_become_28 n v0 v1 σ = some σr) : RN G M_X0_become 28 [some (.ref v0), some (.ref v1)] [] σ (.inl none) σr := by
  unfold b_X0_become_28 at h
  refine RN_aload_n (pc := 28) (k := 0) (by decide +kernel) rfl rfl ?_
  refine RN_aload_n (pc := 29) (k := 1) (by decide +kernel) rfl rfl ?_
  obtain ⟨c17, h⟩ := ck_el h
  refine RN_getI (pc := 30) (idx := 15) (ci := 0) (k := 1) (by decide +kernel) lf_RX0_15 (Or.inl rfl) c17 ?_
  obtain ⟨c18, h⟩ := ck_el h
  refine RN_putI (pc := 33) (idx := 15) (ci := 0) (k := 1) (by decide +kernel) lf_RX0_15 rfl (fun q hq => by cases hq; exact Or.inl rfl) c18 ?_
  obtain ⟨σ19, eσ19, h⟩ := nm_el h
  refine RN_nmS eσ19 ?_
  obtain rfl := some_el h
  exact RN_return (by decide +kernel) rfl
def b_X0_become_2 : Nat → Nat → Nat → Int32 → Sg → Option Sg
  | 0, _, _, _, _ => none
  | n + 1, v0, v1, v2, σ =>
  ck (okO σ v1 0) <|
  if (gI σ v1 1) ≤ v2 then (
    b_X0_become_28 n v0 v1 σ)
  else (
    ck (okO σ v0 0) <|
    ck (¬ gR σ v0 0 = 0) <|
    nm (gR σ v0 0) fun r22 =>
    ck (¬ gR σ v1 0 = 0) <|
    nm (gR σ v1 0) fun r24 =>
    ck (okA σ r24 13 v2) <|
    ck (okW σ r22 13 v2) <|
    nm (pI σ r22 v2.toNatClampNeg (gI σ r24 v2.toNatClampNeg)) fun σ27 =>
    nm (v2 + (1 : Int32)) fun x28 =>
    b_X0_become_2 n v0 v1 x28 σ27)
set_option maxRecDepth 20000 in
theorem tb_X0_become_2 {G : Gl} {σr : Sg} (v0 : Nat) (v1 : Nat) : ∀ (n : Nat) (v2 : Int32) (σ : Sg), b_X0_become_2 n v0 v1 v2 σ = some σr → RN G M_X0_become 2 [some (.ref v0), some (.ref v1), some (.int v2)] [] σ (.inl none) σr := by
  intro n
  induction n with
  | zero =>
    intro v2 σ h
    exact none_el h
  | succ n ih =>
    intro v2 σ h
    rw [b_X0_become_2] at h
    refine RN_iload_n (pc := 2) (k := 2) (by decide +kernel) rfl rfl ?_
    refine RN_aload_n (pc := 3) (k := 1) (by decide +kernel) rfl rfl ?_
    obtain ⟨c15, h⟩ := ck_el h
    refine RN_getI (pc := 4) (idx := 15) (ci := 0) (k := 1) (by decide +kernel) lf_RX0_15 (Or.inl rfl) c15 ?_
    refine RN_icmp_ge (pc := 7) (off := 21) (tgt := 28) (by decide +kernel) (by decide) (fun c16 => ?_) (fun c16 => ?_)
    · replace h := it_t c16 h
      exact RN_weak (l := [some (.ref v0), some (.ref v1)]) (And.intro rfl (And.intro rfl trivial)) (tb_X0_become_28 n v0 v1 σ h)
    · replace h := it_f c16 h
      refine RN_aload_n (pc := 10) (k := 0) (by decide +kernel) rfl rfl ?_
      obtain ⟨c20, h⟩ := ck_el h
      obtain ⟨c21, h⟩ := ck_el h
      refine RN_getR (pc := 11) (idx := 9) (ci := 0) (k := 0) (by decide +kernel) lf_RX0_9 rfl c20 c21 ?_
      obtain ⟨r22, er22, h⟩ := nm_el h
      refine RN_nmR er22 ?_
      refine RN_iload_n (pc := 14) (k := 2) (by decide +kernel) rfl rfl ?_
      refine RN_aload_n (pc := 15) (k := 1) (by decide +kernel) rfl rfl ?_
      obtain ⟨c23, h⟩ := ck_el h
      refine RN_getR (pc := 16) (idx := 9) (ci := 0) (k := 0) (by decide +kernel) lf_RX0_9 rfl c15 c23 ?_
      obtain ⟨r24, er24, h⟩ := nm_el h
      refine RN_nmR er24 ?_
      refine RN_iload_n (pc := 19) (k := 2) (by decide +kernel) rfl rfl ?_
      obtain ⟨c25, h⟩ := ck_el h
      refine RN_iald (pc := 20) (by decide +kernel) c25 ?_
      obtain ⟨c26, h⟩ := ck_el h
      refine RN_iast (pc := 21) (by decide +kernel) c26 ?_
      obtain ⟨σ27, eσ27, h⟩ := nm_el h
      refine RN_nmS eσ27 ?_
      obtain ⟨x28, ex28, h⟩ := nm_el h
      refine RN_iinc (pc := 22) (i := 2) (n := 1) (v := x28) (ls2 := [some (.ref v0), some (.ref v1), some (.int x28)]) (by decide +kernel) rfl (by rw [ex28]; rfl) (by decide) rfl ?_
      refine RN_goto (pc := 25) (off := -23) (tgt := 2) (by decide +kernel) (by decide) ?_
      exact RN_weak (l := [some (.ref v0), some (.ref v1), some (.int x28)]) (And.intro rfl (And.intro rfl (And.intro rfl trivial))) (ih x28 σ27 h)
def f_X0_become (n : Nat) (v0 : Nat) (v1 : Nat) (σ : Sg) : Option Sg :=
  b_X0_become_2 n v0 v1 (0 : Int32) σ
set_option maxRecDepth 20000 in
theorem t_X0_become {G : Gl} {σr : Sg} {n : Nat} {v0 : Nat} {v1 : Nat} {σ : Sg} (h : f_X0_become n v0 v1 σ = some σr) : MT G M_X0_become [.ref v0, .ref v1] σ none σr := by
  refine MT_of rfl rfl (Nat.le_of_ble_eq_true rfl) ?_
  show RN G M_X0_become 0 [some (.ref v0), some (.ref v1)] [] σ (.inl none) σr
  unfold f_X0_become at h
  refine RN_iconst (pc := 0) (n := 0) (v := 0) (by decide +kernel) (by decide) ?_
  refine RN_istore_n (pc := 1) (k := 2) (ls2 := [some (.ref v0), some (.ref v1), some (.int (0 : Int32))]) (by decide +kernel) rfl (by decide) rfl ?_
  exact RN_weak (l := [some (.ref v0), some (.ref v1), some (.int (0 : Int32))]) (And.intro rfl (And.intro rfl (And.intro rfl trivial))) (tb_X0_become_2 v0 v1 n (0 : Int32) σ h)
def f_X0_becomeOneLine (v0 : Nat) (v1 : Int32) (σ : Sg) : Option Sg :=
  ck (okO σ v0 0) <|
  ck (¬ gR σ v0 0 = 0) <|
  nm (gR σ v0 0) fun r10 =>
  ck (okW σ r10 13 (0 : Int32)) <|
  nm (pI σ r10 (0 : Int32).toNatClampNeg v1) fun σ12 =>
  ck (okO σ12 v0 0) <|
  nm (pI σ12 v0 1 (1 : Int32)) fun σ14 =>
  some σ14
set_option maxRecDepth 20000 in
theorem t_X0_becomeOneLine {G : Gl} {σr : Sg} {v0 : Nat} {v1 : Int32} {σ : Sg} (h : f_X0_becomeOneLine v0 v1 σ = some σr) : MT G M_X0_becomeOneLine [.ref v0, .int v1] σ none σr := by
  refine MT_of rfl rfl (Nat.le_of_ble_eq_true rfl) ?_
  show RN G M_X0_becomeOneLine 0 [some (.ref v0), some (.int v1)] [] σ (.inl none) σr
  unfold f_X0_becomeOneLine at h
  refine RN_aload_n (pc := 0) (k := 0) (by decide +kernel) rfl rfl ?_
  obtain ⟨c8, h⟩ := ck_el h
  obtain ⟨c9, h⟩ := ck_el h
  refine RN_getR (pc := 1) (idx := 9) (ci := 0) (k := 0) (by decide +kernel) lf_RX0_9 rfl c8 c9 ?_
  obtain ⟨r10, er10, h⟩ := nm_el h
  refine RN_nmR er10 ?_
  refine RN_iconst (pc := 4) (n := 0) (v := 0) (by decide +kernel) (by decide) ?_
  refine RN_iload_n (pc := 5) (k := 1) (by decide +kernel) rfl rfl ?_
  obtain ⟨c11, h⟩ := ck_el h
  refine RN_iast (pc := 6) (by decide +kernel) c11 ?_
  obtain ⟨σ12, eσ12, h⟩ := nm_el h
  refine RN_nmS eσ12 ?_
  refine RN_aload_n (pc := 7) (k := 0) (by decide +kernel) rfl rfl ?_
  refine RN_iconst (pc := 8) (n := 1) (v := 1) (by decide +kernel) (by decide) ?_
  obtain ⟨c13, h⟩ := ck_el h
  refine RN_putI (pc := 9) (idx := 15) (ci := 0) (k := 1) (by decide +kernel) lf_RX0_15 rfl (fun q hq => by cases hq; exact Or.inl rfl) c13 ?_
  obtain ⟨σ14, eσ14, h⟩ := nm_el h
  refine RN_nmS eσ14 ?_
  obtain rfl := some_el h
  exact RN_return (by decide +kernel) rfl
def f_X1_init (v0 : Nat) (σ : Sg) : Option Sg :=
  nm (sN σ) fun r25 =>
  nm (nw σ 13 200) fun σ26 =>
  ck (okO σ26 v0 1) <|
  ck (¬ r25 = 0) <|
  nm (pR σ26 v0 0 r25) fun σ29 =>
  nm (sN σ29) fun r30 =>
  nm (nw σ29 13 200) fun σ31 =>
  ck (okO σ31 v0 1) <|
  ck (¬ r30 = 0) <|
  nm (pR σ31 v0 1 r30) fun σ34 =>
  nm (sN σ34) fun r35 =>
  nm (nw σ34 13 200) fun σ36 =>
  ck (okO σ36 v0 1) <|
  ck (¬ r35 = 0) <|
  nm (pR σ36 v0 2 r35) fun σ39 =>
  nm (sN σ39) fun r40 =>
  nm (nw σ39 13 200) fun σ41 =>
  ck (okO σ41 v0 1) <|
  ck (¬ r40 = 0) <|
  nm (pR σ41 v0 3 r40) fun σ44 =>
  ck (okO σ44 v0 1) <|
  nm (pI σ44 v0 4 (1 : Int32)) fun σ46 =>
  ck (okO σ46 v0 1) <|
  nm (pI σ46 v0 5 (1 : Int32)) fun σ48 =>
  some σ48
set_option maxRecDepth 20000 in
theorem t_X1_init {G : Gl} {σr : Sg} {v0 : Nat} {σ : Sg} (h : f_X1_init v0 σ = some σr) : MT G M_X1_init [.ref v0] σ none σr := by
  refine MT_of rfl rfl (Nat.le_of_ble_eq_true rfl) ?_
  show RN G M_X1_init 0 [some (.ref v0)] [] σ (.inl none) σr
  unfold f_X1_init at h
  refine RN_aload_n (pc := 0) (k := 0) (by decide +kernel) rfl rfl ?_
  refine RN_objInit (pc := 1) (idx := 3) (by decide +kernel) oi_RX1_3 oi_b oi_c (by decide) (by decide) (Nat.le_of_ble_eq_true rfl) ?_
  refine RN_aload_n (pc := 4) (k := 0) (by decide +kernel) rfl rfl ?_
  refine RN_sipush (pc := 5) (n := 200) (v := 200) (by decide +kernel) (by decide) ?_
  refine RN_newa (pc := 8) (atype := .int) (N := 200) (t := 13) (by decide +kernel) ⟨by decide, by decide, rfl⟩ ac_13 (by decide) (by decide) (by decide) ?_
  obtain ⟨r25, er25, h⟩ := nm_el h
  refine RN_nmR er25 ?_
  obtain ⟨σ26, eσ26, h⟩ := nm_el h
  refine RN_nmS eσ26 ?_
  obtain ⟨c27, h⟩ := ck_el h
  obtain ⟨c28, h⟩ := ck_el h
  refine RN_putR (pc := 10) (idx := 9) (ci := 1) (k := 0) (by decide +kernel) lf_RX1_9 rfl (fun q hq => by cases hq; exact Or.inr ⟨rfl, rfl, rfl⟩) c28 c27 ?_
  obtain ⟨σ29, eσ29, h⟩ := nm_el h
  refine RN_nmS eσ29 ?_
  refine RN_aload_n (pc := 13) (k := 0) (by decide +kernel) rfl rfl ?_
  refine RN_sipush (pc := 14) (n := 200) (v := 200) (by decide +kernel) (by decide) ?_
  refine RN_newa (pc := 17) (atype := .int) (N := 200) (t := 13) (by decide +kernel) ⟨by decide, by decide, rfl⟩ ac_13 (by decide) (by decide) (by decide) ?_
  obtain ⟨r30, er30, h⟩ := nm_el h
  refine RN_nmR er30 ?_
  obtain ⟨σ31, eσ31, h⟩ := nm_el h
  refine RN_nmS eσ31 ?_
  obtain ⟨c32, h⟩ := ck_el h
  obtain ⟨c33, h⟩ := ck_el h
  refine RN_putR (pc := 19) (idx := 15) (ci := 1) (k := 1) (by decide +kernel) lf_RX1_15 rfl (fun q hq => by cases hq; exact Or.inr ⟨rfl, rfl, rfl⟩) c33 c32 ?_
  obtain ⟨σ34, eσ34, h⟩ := nm_el h
  refine RN_nmS eσ34 ?_
  refine RN_aload_n (pc := 22) (k := 0) (by decide +kernel) rfl rfl ?_
  refine RN_sipush (pc := 23) (n := 200) (v := 200) (by decide +kernel) (by decide) ?_
  refine RN_newa (pc := 26) (atype := .int) (N := 200) (t := 13) (by decide +kernel) ⟨by decide, by decide, rfl⟩ ac_13 (by decide) (by decide) (by decide) ?_
  obtain ⟨r35, er35, h⟩ := nm_el h
  refine RN_nmR er35 ?_
  obtain ⟨σ36, eσ36, h⟩ := nm_el h
  refine RN_nmS eσ36 ?_
  obtain ⟨c37, h⟩ := ck_el h
  obtain ⟨c38, h⟩ := ck_el h
  refine RN_putR (pc := 28) (idx := 18) (ci := 1) (k := 2) (by decide +kernel) lf_RX1_18 rfl (fun q hq => by cases hq; exact Or.inl rfl) c38 c37 ?_
  obtain ⟨σ39, eσ39, h⟩ := nm_el h
  refine RN_nmS eσ39 ?_
  refine RN_aload_n (pc := 31) (k := 0) (by decide +kernel) rfl rfl ?_
  refine RN_sipush (pc := 32) (n := 200) (v := 200) (by decide +kernel) (by decide) ?_
  refine RN_newa (pc := 35) (atype := .int) (N := 200) (t := 13) (by decide +kernel) ⟨by decide, by decide, rfl⟩ ac_13 (by decide) (by decide) (by decide) ?_
  obtain ⟨r40, er40, h⟩ := nm_el h
  refine RN_nmR er40 ?_
  obtain ⟨σ41, eσ41, h⟩ := nm_el h
  refine RN_nmS eσ41 ?_
  obtain ⟨c42, h⟩ := ck_el h
  obtain ⟨c43, h⟩ := ck_el h
  refine RN_putR (pc := 37) (idx := 21) (ci := 1) (k := 3) (by decide +kernel) lf_RX1_21 rfl (fun q hq => by cases hq; exact Or.inl rfl) c43 c42 ?_
  obtain ⟨σ44, eσ44, h⟩ := nm_el h
  refine RN_nmS eσ44 ?_
  refine RN_aload_n (pc := 40) (k := 0) (by decide +kernel) rfl rfl ?_
  refine RN_iconst (pc := 41) (n := 1) (v := 1) (by decide +kernel) (by decide) ?_
  obtain ⟨c45, h⟩ := ck_el h
  refine RN_putI (pc := 42) (idx := 24) (ci := 1) (k := 4) (by decide +kernel) lf_RX1_24 rfl (fun q hq => by cases hq; exact Or.inl rfl) c45 ?_
  obtain ⟨σ46, eσ46, h⟩ := nm_el h
  refine RN_nmS eσ46 ?_
  refine RN_aload_n (pc := 45) (k := 0) (by decide +kernel) rfl rfl ?_
  refine RN_iconst (pc := 46) (n := 1) (v := 1) (by decide +kernel) (by decide) ?_
  obtain ⟨c47, h⟩ := ck_el h
  refine RN_putI (pc := 47) (idx := 28) (ci := 1) (k := 5) (by decide +kernel) lf_RX1_28 rfl (fun q hq => by cases hq; exact Or.inl rfl) c47 ?_
  obtain ⟨σ48, eσ48, h⟩ := nm_el h
  refine RN_nmS eσ48 ?_
  obtain rfl := some_el h
  exact RN_return (by decide +kernel) rfl
def b_X3_rounding_189 (v4 : Int64) (v9 : Int64) (v13 : Int32) : Option Int64 :=
  if v13 = 0 then (
    some (v9 * v4))
  else (
    some ((v9 + (1 : Int64)) * v4))
set_option maxRecDepth 20000 in
theorem tb_X3_rounding_189 {G : Gl} {xr : Int64} {σ : Sg} (v4 : Int64) (v9 : Int64) (v13 : Int32) (h : b_X3_rounding_189 v4 v9 v13 = some xr) : RN G M_X3_rounding 189 [none, none, none, none, some (.long v4), none, none, none, none, some (.long v9), none, none, none, some (.int v13)] [] σ (.inl (some (.long xr))) σ := by
  unfold b_X3_rounding_189 at h
  refine RN_iload (pc := 189) (i := 13) (by decide +kernel) rfl ?_
  refine RN_if_eq (pc := 191) (off := 13) (tgt := 204) (by decide +kernel) (by decide) (fun c19 => ?_) (fun c19 => ?_)
  · replace h := it_t c19 h
    refine RN_lload (pc := 204) (i := 9) (by decide +kernel) rfl ?_
    refine RN_lload (pc := 206) (i := 4) (by decide +kernel) rfl ?_
    refine RN_lmul (pc := 208) (by decide +kernel) ?_
    obtain rfl := some_el h
    exact RN_lreturn (by decide +kernel) rfl
  · replace h := it_f c19 h
    refine RN_lload (pc := 194) (i := 9) (by decide +kernel) rfl ?_
    refine RN_lconst (pc := 196) (n := 1) (v := 1) (by decide +kernel) (by decide) ?_
    refine RN_ladd (pc := 197) (by decide +kernel) ?_
    refine RN_lload (pc := 198) (i := 4) (by decide +kernel) rfl ?_
    refine RN_lmul (pc := 200) (by decide +kernel) ?_
    refine RN_goto (pc := 201) (off := 8) (tgt := 209) (by decide +kernel) (by decide) ?_
    obtain rfl := some_el h
    exact RN_lreturn (by decide +kernel) rfl
def b_X3_rounding_149 (v4 : Int64) (v9 : Int64) (s0 : Int32) : Option Int64 :=
  b_X3_rounding_189 v4 v9 s0
set_option maxRecDepth 20000 in
theorem tb_X3_rounding_149 {G : Gl} {xr : Int64} {σ : Sg} (v4 : Int64) (v9 : Int64) (s0 : Int32) (h : b_X3_rounding_149 v4 v9 s0 = some xr) : RN G M_X3_rounding 149 [none, none, none, none, some (.long v4), none, none, none, none, some (.long v9)] [.int s0] σ (.inl (some (.long xr))) σ := by
  unfold b_X3_rounding_149 at h
  refine RN_istore (pc := 149) (i := 13) (ls2 := [none, none, none, none, some (.long v4), none, none, none, none, some (.long v9), none, none, none, some (.int s0)]) (by decide +kernel) (by decide) rfl ?_
  refine RN_goto (pc := 151) (off := 38) (tgt := 189) (by decide +kernel) (by decide) ?_
  exact RN_weak (l := [none, none, none, none, some (.long v4), none, none, none, none, some (.long v9), none, none, none, some (.int s0)]) (And.intro rfl (And.intro rfl (And.intro rfl trivial))) (tb_X3_rounding_189 v4 v9 s0 h)
def b_X3_rounding_138 (v0 : Int64) (v4 : Int64) (v9 : Int64) : Option Int64 :=
  if v0 ≤ (0 : Int64) then (
    b_X3_rounding_149 v4 v9 (0 : Int32))
  else (
    b_X3_rounding_149 v4 v9 (1 : Int32))
set_option maxRecDepth 20000 in
theorem tb_X3_rounding_138 {G : Gl} {xr : Int64} {σ : Sg} (v0 : Int64) (v4 : Int64) (v9 : Int64) (h : b_X3_rounding_138 v0 v4 v9 = some xr) : RN G M_X3_rounding 138 [some (.long v0), none, none, none, some (.long v4), none, none, none, none, some (.long v9)] [] σ (.inl (some (.long xr))) σ := by
  unfold b_X3_rounding_138 at h
  refine RN_lload_n (pc := 138) (k := 0) (by decide +kernel) rfl rfl ?_
  refine RN_lconst (pc := 139) (n := 0) (v := 0) (by decide +kernel) (by decide) ?_
  refine RN_lc_le (pc := 140) (off := 7) (tgt := 148) (by decide +kernel) (by decide +kernel) (by decide) (fun c18 => ?_) (fun c18 => ?_)
  · replace h := it_t c18 h
    refine RN_iconst (pc := 148) (n := 0) (v := 0) (by decide +kernel) (by decide) ?_
    exact RN_weak (l := [none, none, none, none, some (.long v4), none, none, none, none, some (.long v9)]) (And.intro rfl (And.intro rfl trivial)) (tb_X3_rounding_149 v4 v9 (0 : Int32) h)
  · replace h := it_f c18 h
    refine RN_iconst (pc := 144) (n := 1) (v := 1) (by decide +kernel) (by decide) ?_
    refine RN_goto (pc := 145) (off := 4) (tgt := 149) (by decide +kernel) (by decide) ?_
    exact RN_weak (l := [none, none, none, none, some (.long v4), none, none, none, none, some (.long v9)]) (And.intro rfl (And.intro rfl trivial)) (tb_X3_rounding_149 v4 v9 (1 : Int32) h)
def b_X3_rounding_187 (v4 : Int64) (v9 : Int64) (s0 : Int32) : Option Int64 :=
  b_X3_rounding_189 v4 v9 s0
set_option maxRecDepth 20000 in
theorem tb_X3_rounding_187 {G : Gl} {xr : Int64} {σ : Sg} (v4 : Int64) (v9 : Int64) (s0 : Int32) (h : b_X3_rounding_187 v4 v9 s0 = some xr) : RN G M_X3_rounding 187 [none, none, none, none, some (.long v4), none, none, none, none, some (.long v9)] [.int s0] σ (.inl (some (.long xr))) σ := by
  unfold b_X3_rounding_187 at h
  refine RN_istore (pc := 187) (i := 13) (ls2 := [none, none, none, none, some (.long v4), none, none, none, none, some (.long v9), none, none, none, some (.int s0)]) (by decide +kernel) (by decide) rfl ?_
  exact RN_weak (l := [none, none, none, none, some (.long v4), none, none, none, none, some (.long v9), none, none, none, some (.int s0)]) (And.intro rfl (And.intro rfl (And.intro rfl trivial))) (tb_X3_rounding_189 v4 v9 s0 h)
def b_X3_rounding_171 (v4 : Int64) (v9 : Int64) (s0 : Int32) : Option Int64 :=
  b_X3_rounding_189 v4 v9 s0
set_option maxRecDepth 20000 in
theorem tb_X3_rounding_171 {G : Gl} {xr : Int64} {σ : Sg} (v4 : Int64) (v9 : Int64) (s0 : Int32) (h : b_X3_rounding_171 v4 v9 s0 = some xr) : RN G M_X3_rounding 171 [none, none, none, none, some (.long v4), none, none, none, none, some (.long v9)] [.int s0] σ (.inl (some (.long xr))) σ := by
  unfold b_X3_rounding_171 at h
  refine RN_istore (pc := 171) (i := 13) (ls2 := [none, none, none, none, some (.long v4), none, none, none, none, some (.long v9), none, none, none, some (.int s0)]) (by decide +kernel) (by decide) rfl ?_
  refine RN_goto (pc := 173) (off := 16) (tgt := 189) (by decide +kernel) (by decide) ?_
  exact RN_weak (l := [none, none, none, none, some (.long v4), none, none, none, none, some (.long v9), none, none, none, some (.int s0)]) (And.intro rfl (And.intro rfl (And.intro rfl trivial))) (tb_X3_rounding_189 v4 v9 s0 h)
def b_X3_rounding_122 (v4 : Int64) (v9 : Int64) (s0 : Int32) : Option Int64 :=
  b_X3_rounding_189 v4 v9 s0
set_option maxRecDepth 20000 in
theorem tb_X3_rounding_122 {G : Gl} {xr : Int64} {σ : Sg} (v4 : Int64) (v9 : Int64) (s0 : Int32) (h : b_X3_rounding_122 v4 v9 s0 = some xr) : RN G M_X3_rounding 122 [none, none, none, none, some (.long v4), none, none, none, none, some (.long v9)] [.int s0] σ (.inl (some (.long xr))) σ := by
  unfold b_X3_rounding_122 at h
  refine RN_istore (pc := 122) (i := 13) (ls2 := [none, none, none, none, some (.long v4), none, none, none, none, some (.long v9), none, none, none, some (.int s0)]) (by decide +kernel) (by decide) rfl ?_
  refine RN_goto (pc := 124) (off := 65) (tgt := 189) (by decide +kernel) (by decide) ?_
  exact RN_weak (l := [none, none, none, none, some (.long v4), none, none, none, none, some (.long v9), none, none, none, some (.int s0)]) (And.intro rfl (And.intro rfl (And.intro rfl trivial))) (tb_X3_rounding_189 v4 v9 s0 h)
def b_X3_rounding_100 (v0 : Int64) (v4 : Int64) (v6 : Int32) (v9 : Int64) : Option Int64 :=
  if v6 = (1 : Int32) then (
    ck (¬ (2 : Int64) = 0) <|
    if (v9 - v9 / (2 : Int64) * (2 : Int64)) = (0 : Int64) then (
      b_X3_rounding_122 v4 v9 (0 : Int32))
    else (
      b_X3_rounding_122 v4 v9 (1 : Int32)))
  else (
    if v6 = 0 then (
      b_X3_rounding_138 v0 v4 v9)
    else (
      if v6 = (3 : Int32) then (
        b_X3_rounding_138 v0 v4 v9)
      else (
        if v6 = (2 : Int32) then (
          if (0 : Int64) ≤ v0 then (
            b_X3_rounding_171 v4 v9 (0 : Int32))
          else (
            b_X3_rounding_171 v4 v9 (1 : Int32)))
        else (
          if v6 = (5 : Int32) then (
            b_X3_rounding_187 v4 v9 (1 : Int32))
          else (
            b_X3_rounding_187 v4 v9 (0 : Int32))))))
set_option maxRecDepth 20000 in
theorem tb_X3_rounding_100 {G : Gl} {xr : Int64} {σ : Sg} (v0 : Int64) (v4 : Int64) (v6 : Int32) (v9 : Int64) (h : b_X3_rounding_100 v0 v4 v6 v9 = some xr) : RN G M_X3_rounding 100 [some (.long v0), none, none, none, some (.long v4), none, some (.int v6), none, none, some (.long v9)] [] σ (.inl (some (.long xr))) σ := by
  unfold b_X3_rounding_100 at h
  refine RN_iload (pc := 100) (i := 6) (by decide +kernel) rfl ?_
  refine RN_iconst (pc := 102) (n := 1) (v := 1) (by decide +kernel) (by decide) ?_
  refine RN_icmp_ne (pc := 103) (off := 24) (tgt := 127) (by decide +kernel) (by decide) (fun c16 => ?_) (fun c16 => ?_)
  · replace h := it_f c16 h
    refine RN_iload (pc := 127) (i := 6) (by decide +kernel) rfl ?_
    refine RN_if_eq (pc := 129) (off := 9) (tgt := 138) (by decide +kernel) (by decide) (fun c17 => ?_) (fun c17 => ?_)
    · replace h := it_t c17 h
      exact RN_weak (l := [some (.long v0), none, none, none, some (.long v4), none, none, none, none, some (.long v9)]) (And.intro rfl (And.intro rfl (And.intro rfl trivial))) (tb_X3_rounding_138 v0 v4 v9 h)
    · replace h := it_f c17 h
      refine RN_iload (pc := 132) (i := 6) (by decide +kernel) rfl ?_
      refine RN_iconst (pc := 134) (n := 3) (v := 3) (by decide +kernel) (by decide) ?_
      refine RN_icmp_ne (pc := 135) (off := 19) (tgt := 154) (by decide +kernel) (by decide) (fun c20 => ?_) (fun c20 => ?_)
      · replace h := it_f c20 h
        refine RN_iload (pc := 154) (i := 6) (by decide +kernel) rfl ?_
        refine RN_iconst (pc := 156) (n := 2) (v := 2) (by decide +kernel) (by decide) ?_
        refine RN_icmp_ne (pc := 157) (off := 19) (tgt := 176) (by decide +kernel) (by decide) (fun c21 => ?_) (fun c21 => ?_)
        · replace h := it_f c21 h
          refine RN_iload (pc := 176) (i := 6) (by decide +kernel) rfl ?_
          refine RN_iconst (pc := 178) (n := 5) (v := 5) (by decide +kernel) (by decide) ?_
          refine RN_icmp_ne (pc := 179) (off := 7) (tgt := 186) (by decide +kernel) (by decide) (fun c22 => ?_) (fun c22 => ?_)
          · replace h := it_f c22 h
            refine RN_iconst (pc := 186) (n := 0) (v := 0) (by decide +kernel) (by decide) ?_
            exact RN_weak (l := [none, none, none, none, some (.long v4), none, none, none, none, some (.long v9)]) (And.intro rfl (And.intro rfl trivial)) (tb_X3_rounding_187 v4 v9 (0 : Int32) h)
          · replace h := it_t c22 h
            refine RN_iconst (pc := 182) (n := 1) (v := 1) (by decide +kernel) (by decide) ?_
            refine RN_goto (pc := 183) (off := 4) (tgt := 187) (by decide +kernel) (by decide) ?_
            exact RN_weak (l := [none, none, none, none, some (.long v4), none, none, none, none, some (.long v9)]) (And.intro rfl (And.intro rfl trivial)) (tb_X3_rounding_187 v4 v9 (1 : Int32) h)
        · replace h := it_t c21 h
          refine RN_lload_n (pc := 160) (k := 0) (by decide +kernel) rfl rfl ?_
          refine RN_lconst (pc := 161) (n := 0) (v := 0) (by decide +kernel) (by decide) ?_
          refine RN_lc_ge (pc := 162) (off := 7) (tgt := 170) (by decide +kernel) (by decide +kernel) (by decide) (fun c23 => ?_) (fun c23 => ?_)
          · replace h := it_t c23 h
            refine RN_iconst (pc := 170) (n := 0) (v := 0) (by decide +kernel) (by decide) ?_
            exact RN_weak (l := [none, none, none, none, some (.long v4), none, none, none, none, some (.long v9)]) (And.intro rfl (And.intro rfl trivial)) (tb_X3_rounding_171 v4 v9 (0 : Int32) h)
          · replace h := it_f c23 h
            refine RN_iconst (pc := 166) (n := 1) (v := 1) (by decide +kernel) (by decide) ?_
            refine RN_goto (pc := 167) (off := 4) (tgt := 171) (by decide +kernel) (by decide) ?_
            exact RN_weak (l := [none, none, none, none, some (.long v4), none, none, none, none, some (.long v9)]) (And.intro rfl (And.intro rfl trivial)) (tb_X3_rounding_171 v4 v9 (1 : Int32) h)
      · replace h := it_t c20 h
        exact RN_weak (l := [some (.long v0), none, none, none, some (.long v4), none, none, none, none, some (.long v9)]) (And.intro rfl (And.intro rfl (And.intro rfl trivial))) (tb_X3_rounding_138 v0 v4 v9 h)
  · replace h := it_t c16 h
    refine RN_lload (pc := 106) (i := 9) (by decide +kernel) rfl ?_
    refine RN_ldc2 (pc := 108) (idx := 9) (v := 2) (by decide +kernel) kc_RX3_9 ?_
    obtain ⟨c24, h⟩ := ck_el h
    refine RN_lrem (pc := 111) (by decide +kernel) c24 ?_
    refine RN_lconst (pc := 112) (n := 0) (v := 0) (by decide +kernel) (by decide) ?_
    refine RN_lc_eq (pc := 113) (off := 7) (tgt := 121) (by decide +kernel) (by decide +kernel) (by decide) (fun c25 => ?_) (fun c25 => ?_)
    · replace h := it_t c25 h
      refine RN_iconst (pc := 121) (n := 0) (v := 0) (by decide +kernel) (by decide) ?_
      exact RN_weak (l := [none, none, none, none, some (.long v4), none, none, none, none, some (.long v9)]) (And.intro rfl (And.intro rfl trivial)) (tb_X3_rounding_122 v4 v9 (0 : Int32) h)
    · replace h := it_f c25 h
      refine RN_iconst (pc := 117) (n := 1) (v := 1) (by decide +kernel) (by decide) ?_
      refine RN_goto (pc := 118) (off := 4) (tgt := 122) (by decide +kernel) (by decide) ?_
      exact RN_weak (l := [none, none, none, none, some (.long v4), none, none, none, none, some (.long v9)]) (And.intro rfl (And.intro rfl trivial)) (tb_X3_rounding_122 v4 v9 (1 : Int32) h)
def b_X3_rounding_95 (v4 : Int64) (v9 : Int64) (s0 : Int32) : Option Int64 :=
  b_X3_rounding_189 v4 v9 s0
set_option maxRecDepth 20000 in
theorem tb_X3_rounding_95 {G : Gl} {xr : Int64} {σ : Sg} (v4 : Int64) (v9 : Int64) (s0 : Int32) (h : b_X3_rounding_95 v4 v9 s0 = some xr) : RN G M_X3_rounding 95 [none, none, none, none, some (.long v4), none, none, none, none, some (.long v9)] [.int s0] σ (.inl (some (.long xr))) σ := by
  unfold b_X3_rounding_95 at h
  refine RN_istore (pc := 95) (i := 13) (ls2 := [none, none, none, none, some (.long v4), none, none, none, none, some (.long v9), none, none, none, some (.int s0)]) (by decide +kernel) (by decide) rfl ?_
  refine RN_goto (pc := 97) (off := 92) (tgt := 189) (by decide +kernel) (by decide) ?_
  exact RN_weak (l := [none, none, none, none, some (.long v4), none, none, none, none, some (.long v9), none, none, none, some (.int s0)]) (And.intro rfl (And.intro rfl (And.intro rfl trivial))) (tb_X3_rounding_189 v4 v9 s0 h)
def b_X3_rounding_47 (v0 : Int64) (v4 : Int64) (v6 : Int32) (v7 : Int64) (v9 : Int64) (v11 : Int64) : Option Int64 :=
  if v11 = (0 : Int64) then (
    some (v9 * v4))
  else (
    if (1 : Int32) < v6 then (
      b_X3_rounding_100 v0 v4 v6 v9)
    else (
      if ((2 : Int64) * v11) = v7 then (
        b_X3_rounding_100 v0 v4 v6 v9)
      else (
        if ((2 : Int64) * v11) ≤ v7 then (
          b_X3_rounding_95 v4 v9 (0 : Int32))
        else (
          b_X3_rounding_95 v4 v9 (1 : Int32)))))
set_option maxRecDepth 20000 in
theorem tb_X3_rounding_47 {G : Gl} {xr : Int64} {σ : Sg} (v0 : Int64) (v4 : Int64) (v6 : Int32) (v7 : Int64) (v9 : Int64) (v11 : Int64) (h : b_X3_rounding_47 v0 v4 v6 v7 v9 v11 = some xr) : RN G M_X3_rounding 47 [some (.long v0), none, none, none, some (.long v4), none, some (.int v6), some (.long v7), none, some (.long v9), none, some (.long v11)] [] σ (.inl (some (.long xr))) σ := by
  unfold b_X3_rounding_47 at h
  refine RN_lload (pc := 47) (i := 11) (by decide +kernel) rfl ?_
  refine RN_lconst (pc := 49) (n := 0) (v := 0) (by decide +kernel) (by decide) ?_
  refine RN_lc_ne (pc := 50) (off := 9) (tgt := 60) (by decide +kernel) (by decide +kernel) (by decide) (fun c14 => ?_) (fun c14 => ?_)
  · replace h := it_f c14 h
    refine RN_iload (pc := 60) (i := 6) (by decide +kernel) rfl ?_
    refine RN_iconst (pc := 62) (n := 1) (v := 1) (by decide +kernel) (by decide) ?_
    refine RN_icmp_gt (pc := 63) (off := 37) (tgt := 100) (by decide +kernel) (by decide) (fun c15 => ?_) (fun c15 => ?_)
    · replace h := it_t c15 h
      exact RN_weak (l := [some (.long v0), none, none, none, some (.long v4), none, some (.int v6), none, none, some (.long v9)]) (And.intro rfl (And.intro rfl (And.intro rfl (And.intro rfl trivial)))) (tb_X3_rounding_100 v0 v4 v6 v9 h)
    · replace h := it_f c15 h
      refine RN_ldc2 (pc := 66) (idx := 9) (v := 2) (by decide +kernel) kc_RX3_9 ?_
      refine RN_lload (pc := 69) (i := 11) (by decide +kernel) rfl ?_
      refine RN_lmul (pc := 71) (by decide +kernel) ?_
      refine RN_lload (pc := 72) (i := 7) (by decide +kernel) rfl ?_
      refine RN_lc_eq (pc := 74) (off := 25) (tgt := 100) (by decide +kernel) (by decide +kernel) (by decide) (fun c26 => ?_) (fun c26 => ?_)
      · replace h := it_t c26 h
        exact RN_weak (l := [some (.long v0), none, none, none, some (.long v4), none, some (.int v6), none, none, some (.long v9)]) (And.intro rfl (And.intro rfl (And.intro rfl (And.intro rfl trivial)))) (tb_X3_rounding_100 v0 v4 v6 v9 h)
      · replace h := it_f c26 h
        refine RN_ldc2 (pc := 78) (idx := 9) (v := 2) (by decide +kernel) kc_RX3_9 ?_
        refine RN_lload (pc := 81) (i := 11) (by decide +kernel) rfl ?_
        refine RN_lmul (pc := 83) (by decide +kernel) ?_
        refine RN_lload (pc := 84) (i := 7) (by decide +kernel) rfl ?_
        refine RN_lc_le (pc := 86) (off := 7) (tgt := 94) (by decide +kernel) (by decide +kernel) (by decide) (fun c27 => ?_) (fun c27 => ?_)
        · replace h := it_t c27 h
          refine RN_iconst (pc := 94) (n := 0) (v := 0) (by decide +kernel) (by decide) ?_
          exact RN_weak (l := [none, none, none, none, some (.long v4), none, none, none, none, some (.long v9)]) (And.intro rfl (And.intro rfl trivial)) (tb_X3_rounding_95 v4 v9 (0 : Int32) h)
        · replace h := it_f c27 h
          refine RN_iconst (pc := 90) (n := 1) (v := 1) (by decide +kernel) (by decide) ?_
          refine RN_goto (pc := 91) (off := 4) (tgt := 95) (by decide +kernel) (by decide) ?_
          exact RN_weak (l := [none, none, none, none, some (.long v4), none, none, none, none, some (.long v9)]) (And.intro rfl (And.intro rfl trivial)) (tb_X3_rounding_95 v4 v9 (1 : Int32) h)
  · replace h := it_t c14 h
    refine RN_lload (pc := 54) (i := 9) (by decide +kernel) rfl ?_
    refine RN_lload (pc := 56) (i := 4) (by decide +kernel) rfl ?_
    refine RN_lmul (pc := 58) (by decide +kernel) ?_
    obtain rfl := some_el h
    exact RN_lreturn (by decide +kernel) rfl
def f_X3_rounding (v0 : Int64) (v2 : Int64) (v4 : Int64) (v6 : Int32) : Option Int64 :=
  nm (v2 * v4) fun x8 =>
  if (0 : Int64) < x8 then (
    ck (¬ x8 = 0) <|
    nm (v0 / x8) fun x11 =>
    nm (v0 - v0 / x8 * x8) fun x12 =>
    if (0 : Int64) ≤ x12 then (
      b_X3_rounding_47 v0 v4 v6 x8 x11 x12)
    else (
      nm (x12 + x8) fun x28 =>
      nm (x11 - (1 : Int64)) fun x29 =>
      b_X3_rounding_47 v0 v4 v6 x8 x29 x28))
  else (
    some (0 : Int64))
set_option maxRecDepth 20000 in
theorem t_X3_rounding {G : Gl} {xr : Int64} {v0 : Int64} {v2 : Int64} {v4 : Int64} {v6 : Int32} {σ : Sg} (h : f_X3_rounding v0 v2 v4 v6 = some xr) : MT G M_X3_rounding [.long v0, .long v2, .long v4, .int v6] σ (some (.long xr)) σ := by
  refine MT_of rfl rfl (Nat.le_of_ble_eq_true rfl) ?_
  show RN G M_X3_rounding 0 [some (.long v0), none, some (.long v2), none, some (.long v4), none, some (.int v6)] [] σ (.inl (some (.long xr))) σ
  unfold f_X3_rounding at h
  refine RN_lload_n (pc := 0) (k := 2) (by decide +kernel) rfl rfl ?_
  refine RN_lload (pc := 1) (i := 4) (by decide +kernel) rfl ?_
  refine RN_lmul (pc := 3) (by decide +kernel) ?_
  obtain ⟨x8, ex8, h⟩ := nm_el h
  refine RN_nmJ ex8 ?_
  refine RN_lstore (pc := 4) (i := 7) (ls2 := [some (.long v0), none, some (.long v2), none, some (.long v4), none, some (.int v6), some (.long x8), none]) (by decide +kernel) (by decide) rfl ?_
  refine RN_lload (pc := 6) (i := 7) (by decide +kernel) rfl ?_
  refine RN_lconst (pc := 8) (n := 0) (v := 0) (by decide +kernel) (by decide) ?_
  refine RN_lc_gt (pc := 9) (off := 5) (tgt := 15) (by decide +kernel) (by decide +kernel) (by decide) (fun c9 => ?_) (fun c9 => ?_)
  · replace h := it_t c9 h
    refine RN_lload_n (pc := 15) (k := 0) (by decide +kernel) rfl rfl ?_
    refine RN_lload (pc := 16) (i := 7) (by decide +kernel) rfl ?_
    obtain ⟨c10, h⟩ := ck_el h
    refine RN_ldiv (pc := 18) (by decide +kernel) c10 ?_
    obtain ⟨x11, ex11, h⟩ := nm_el h
    refine RN_nmJ ex11 ?_
    refine RN_lstore (pc := 19) (i := 9) (ls2 := [some (.long v0), none, some (.long v2), none, some (.long v4), none, some (.int v6), some (.long x8), none, some (.long x11), none]) (by decide +kernel) (by decide) rfl ?_
    refine RN_lload_n (pc := 21) (k := 0) (by decide +kernel) rfl rfl ?_
    refine RN_lload (pc := 22) (i := 7) (by decide +kernel) rfl ?_
    refine RN_lrem (pc := 24) (by decide +kernel) c10 ?_
    obtain ⟨x12, ex12, h⟩ := nm_el h
    refine RN_nmJ ex12 ?_
    refine RN_lstore (pc := 25) (i := 11) (ls2 := [some (.long v0), none, some (.long v2), none, some (.long v4), none, some (.int v6), some (.long x8), none, some (.long x11), none, some (.long x12), none]) (by decide +kernel) (by decide) rfl ?_
    refine RN_lload (pc := 27) (i := 11) (by decide +kernel) rfl ?_
    refine RN_lconst (pc := 29) (n := 0) (v := 0) (by decide +kernel) (by decide) ?_
    refine RN_lc_ge (pc := 30) (off := 16) (tgt := 47) (by decide +kernel) (by decide +kernel) (by decide) (fun c13 => ?_) (fun c13 => ?_)
    · replace h := it_t c13 h
      exact RN_weak (l := [some (.long v0), none, none, none, some (.long v4), none, some (.int v6), some (.long x8), none, some (.long x11), none, some (.long x12)]) (And.intro rfl (And.intro rfl (And.intro rfl (And.intro rfl (And.intro rfl (And.intro rfl trivial)))))) (tb_X3_rounding_47 v0 v4 v6 x8 x11 x12 h)
    · replace h := it_f c13 h
      refine RN_lload (pc := 34) (i := 11) (by decide +kernel) rfl ?_
      refine RN_lload (pc := 36) (i := 7) (by decide +kernel) rfl ?_
      refine RN_ladd (pc := 38) (by decide +kernel) ?_
      obtain ⟨x28, ex28, h⟩ := nm_el h
      refine RN_nmJ ex28 ?_
      refine RN_lstore (pc := 39) (i := 11) (ls2 := [some (.long v0), none, some (.long v2), none, some (.long v4), none, some (.int v6), some (.long x8), none, some (.long x11), none, some (.long x28), none]) (by decide +kernel) (by decide) rfl ?_
      refine RN_lload (pc := 41) (i := 9) (by decide +kernel) rfl ?_
      refine RN_lconst (pc := 43) (n := 1) (v := 1) (by decide +kernel) (by decide) ?_
      refine RN_lsub (pc := 44) (by decide +kernel) ?_
      obtain ⟨x29, ex29, h⟩ := nm_el h
      refine RN_nmJ ex29 ?_
      refine RN_lstore (pc := 45) (i := 9) (ls2 := [some (.long v0), none, some (.long v2), none, some (.long v4), none, some (.int v6), some (.long x8), none, some (.long x29), none, some (.long x28), none]) (by decide +kernel) (by decide) rfl ?_
      exact RN_weak (l := [some (.long v0), none, none, none, some (.long v4), none, some (.int v6), some (.long x8), none, some (.long x29), none, some (.long x28)]) (And.intro rfl (And.intro rfl (And.intro rfl (And.intro rfl (And.intro rfl (And.intro rfl trivial)))))) (tb_X3_rounding_47 v0 v4 v6 x8 x29 x28 h)
  · replace h := it_f c9 h
    refine RN_lconst (pc := 13) (n := 0) (v := 0) (by decide +kernel) (by decide) ?_
    obtain rfl := some_el h
    exact RN_lreturn (by decide +kernel) rfl
def b_X1_measure_104 (k30 : Int32 → Sg → Option Sg) (n : Nat) (v0 : Nat) (v1 : Int32) (v3 : Int32) (v4 : Int32) (v5 : Int32) (v6 : Int32) (s0 : Int32) (s1 : Int32) (s2 : Nat) (σ : Sg) : Option Sg :=
  ck (okW σ s2 13 s1) <|
  nm (pI σ s2 s1.toNatClampNeg s0) fun σ46 =>
  nm (v6 + (1 : Int32)) fun x47 =>
  k30 x47 σ46
set_option maxRecDepth 20000 in
theorem tb_X1_measure_104 {G : Gl} {σr : Sg} (n : Nat) (v0 : Nat) (v1 : Int32) (v3 : Int32) (v4 : Int32) (v5 : Int32) (v6 : Int32) (s0 : Int32) (s1 : Int32) (s2 : Nat) (σ : Sg) (k30 : Int32 → Sg → Option Sg) (hk30 : ∀ (c6 : Int32) (τ : Sg), k30 c6 τ = some σr → RN G M_X1_measure 30 [some (.ref v0), some (.int v1), none, some (.int v3), some (.int v4), some (.int v5), some (.int c6)] [] τ (.inl none) σr) (h : b_X1_measure_104 k30 n v0 v1 v3 v4 v5 v6 s0 s1 s2 σ = some σr) : RN G M_X1_measure 104 [some (.ref v0), some (.int v1), none, some (.int v3), some (.int v4), some (.int v5), some (.int v6)] [.int s0, .int s1, .ref s2] σ (.inl none) σr := by
  unfold b_X1_measure_104 at h
  obtain ⟨c45, h⟩ := ck_el h
  refine RN_iast (pc := 104) (by decide +kernel) c45 ?_
  obtain ⟨σ46, eσ46, h⟩ := nm_el h
  refine RN_nmS eσ46 ?_
  obtain ⟨x47, ex47, h⟩ := nm_el h
  refine RN_iinc (pc := 105) (i := 6) (n := 1) (v := x47) (ls2 := [some (.ref v0), some (.int v1), none, some (.int v3), some (.int v4), some (.int v5), some (.int x47)]) (by decide +kernel) rfl (by rw [ex47]; rfl) (by decide) rfl ?_
  refine RN_goto (pc := 108) (off := -78) (tgt := 30) (by decide +kernel) (by decide) ?_
  exact RN_weak (l := [some (.ref v0), some (.int v1), none, some (.int v3), some (.int v4), some (.int v5), some (.int x47)]) (And.intro rfl (And.intro rfl (And.intro rfl (And.intro rfl (And.intro rfl (And.intro rfl trivial)))))) (hk30 x47 σ46 h)
def b_X1_measure_30 : Nat → Nat → Int32 → Int32 → Int32 → Int32 → Int32 → Sg → Option Sg
  | 0, _, _, _, _, _, _, _ => none
  | n + 1, v0, v1, v3, v4, v5, v6, σ =>
  ck (okO σ v0 1) <|
  if (gI σ v0 4) ≤ v6 then (
    some σ)
  else (
    nm ((v6.toInt64) * (v1.toInt64)) fun x34 =>
    ck (¬ gR σ v0 0 = 0) <|
    nm (gR σ v0 0) fun r36 =>
    bp (f_X3_rounding x34 ((gI σ v0 5).toInt64) (1 : Int64) v3) fun x38 =>
    ck (okW σ r36 13 v6) <|
    nm (pI σ r36 v6.toNatClampNeg (v5 * (((((gI σ v0 5).toInt64) * x38) - x34).toInt32))) fun σ40 =>
    ck (okO σ40 v0 1) <|
    ck (¬ gR σ40 v0 1 = 0) <|
    nm (gR σ40 v0 1) fun r43 =>
    if v4 < v6 then (
      b_X1_measure_104 (fun c6 τ => b_X1_measure_30 n v0 v1 v3 v4 v5 c6 τ) n v0 v1 v3 v4 v5 v6 (-1000000 : Int32) v6 r43 σ40)
    else (
      ck (¬ gR σ40 v0 0 = 0) <|
      nm (gR σ40 v0 0) fun r49 =>
      ck (okA σ40 r49 13 v6) <|
      b_X1_measure_104 (fun c6 τ => b_X1_measure_30 n v0 v1 v3 v4 v5 c6 τ) n v0 v1 v3 v4 v5 v6 (gI σ40 r49 v6.toNatClampNeg) v6 r43 σ40))
set_option maxRecDepth 20000 in
theorem tb_X1_measure_30 {G : Gl} {σr : Sg} (v0 : Nat) (v1 : Int32) (v3 : Int32) (v4 : Int32) (v5 : Int32) : ∀ (n : Nat) (v6 : Int32) (σ : Sg), b_X1_measure_30 n v0 v1 v3 v4 v5 v6 σ = some σr → RN G M_X1_measure 30 [some (.ref v0), some (.int v1), none, some (.int v3), some (.int v4), some (.int v5), some (.int v6)] [] σ (.inl none) σr := by
  intro n
  induction n with
  | zero =>
    intro v6 σ h
    exact none_el h
  | succ n ih =>
    intro v6 σ h
    rw [b_X1_measure_30] at h
    refine RN_iload (pc := 30) (i := 6) (by decide +kernel) rfl ?_
    refine RN_aload_n (pc := 32) (k := 0) (by decide +kernel) rfl rfl ?_
    obtain ⟨c32, h⟩ := ck_el h
    refine RN_getI (pc := 33) (idx := 24) (ci := 1) (k := 4) (by decide +kernel) lf_RX1_24 (Or.inl rfl) c32 ?_
    refine RN_icmp_ge (pc := 36) (off := 75) (tgt := 111) (by decide +kernel) (by decide) (fun c33 => ?_) (fun c33 => ?_)
    · replace h := it_t c33 h
      obtain rfl := some_el h
      exact RN_return (by decide +kernel) rfl
    · replace h := it_f c33 h
      refine RN_iload (pc := 39) (i := 6) (by decide +kernel) rfl ?_
      refine RN_i2l (pc := 41) (by decide +kernel) ?_
      refine RN_iload_n (pc := 42) (k := 1) (by decide +kernel) rfl rfl ?_
      refine RN_i2l (pc := 43) (by decide +kernel) ?_
      refine RN_lmul (pc := 44) (by decide +kernel) ?_
      obtain ⟨x34, ex34, h⟩ := nm_el h
      refine RN_nmJ ex34 ?_
      refine RN_lstore (pc := 45) (i := 7) (ls2 := [some (.ref v0), some (.int v1), none, some (.int v3), some (.int v4), some (.int v5), some (.int v6), some (.long x34), none]) (by decide +kernel) (by decide) rfl ?_
      refine RN_aload_n (pc := 47) (k := 0) (by decide +kernel) rfl rfl ?_
      obtain ⟨c35, h⟩ := ck_el h
      refine RN_getR (pc := 48) (idx := 9) (ci := 1) (k := 0) (by decide +kernel) lf_RX1_9 rfl c32 c35 ?_
      obtain ⟨r36, er36, h⟩ := nm_el h
      refine RN_nmR er36 ?_
      refine RN_iload (pc := 51) (i := 6) (by decide +kernel) rfl ?_
      refine RN_iload (pc := 53) (i := 5) (by decide +kernel) rfl ?_
      refine RN_aload_n (pc := 55) (k := 0) (by decide +kernel) rfl rfl ?_
      refine RN_getI (pc := 56) (idx := 28) (ci := 1) (k := 5) (by decide +kernel) lf_RX1_28 (Or.inl rfl) c32 ?_
      refine RN_i2l (pc := 59) (by decide +kernel) ?_
      refine RN_lload (pc := 60) (i := 7) (by decide +kernel) rfl ?_
      refine RN_aload_n (pc := 62) (k := 0) (by decide +kernel) rfl rfl ?_
      refine RN_getI (pc := 63) (idx := 28) (ci := 1) (k := 5) (by decide +kernel) lf_RX1_28 (Or.inl rfl) c32 ?_
      refine RN_i2l (pc := 66) (by decide +kernel) ?_
      refine RN_lconst (pc := 67) (n := 1) (v := 1) (by decide +kernel) (by decide) ?_
      refine RN_iload_n (pc := 68) (k := 3) (by decide +kernel) rfl rfl ?_
      obtain ⟨x38, f37, h⟩ := bp_el h
      refine RN_callS (M := M_X1_measure) (pc := 69) (idx := 31) (as := [.long x34, .long ((gI σ v0 5).toInt64), .long (1 : Int64), .int v3]) (st := [.long ((gI σ v0 5).toInt64), .int v5, .int v6, .ref r36]) (t_X3_rounding f37) (by decide +kernel) lk_RX1_31 rfl (Nat.le_of_ble_eq_true rfl) ⟨Nat.le_of_ble_eq_true rfl, Nat.le_of_ble_eq_true rfl⟩ rfl ?_
      show RN G M_X1_measure 72 [some (.ref v0), some (.int v1), none, some (.int v3), some (.int v4), some (.int v5), some (.int v6), some (.long x34), none] [.long x38, .long ((gI σ v0 5).toInt64), .int v5, .int v6, .ref r36] σ _ _
      refine RN_lmul (pc := 72) (by decide +kernel) ?_
      refine RN_lload (pc := 73) (i := 7) (by decide +kernel) rfl ?_
      refine RN_lsub (pc := 75) (by decide +kernel) ?_
      refine RN_l2i (pc := 76) (by decide +kernel) ?_
      refine RN_imul (pc := 77) (by decide +kernel) ?_
      obtain ⟨c39, h⟩ := ck_el h
      refine RN_iast (pc := 78) (by decide +kernel) c39 ?_
      obtain ⟨σ40, eσ40, h⟩ := nm_el h
      refine RN_nmS eσ40 ?_
      refine RN_aload_n (pc := 79) (k := 0) (by decide +kernel) rfl rfl ?_
      obtain ⟨c41, h⟩ := ck_el h
      obtain ⟨c42, h⟩ := ck_el h
      refine RN_getR (pc := 80) (idx := 15) (ci := 1) (k := 1) (by decide +kernel) lf_RX1_15 rfl c41 c42 ?_
      obtain ⟨r43, er43, h⟩ := nm_el h
      refine RN_nmR er43 ?_
      refine RN_iload (pc := 83) (i := 6) (by decide +kernel) rfl ?_
      refine RN_iload (pc := 85) (i := 6) (by decide +kernel) rfl ?_
      refine RN_iload (pc := 87) (i := 4) (by decide +kernel) rfl ?_
      refine RN_icmp_gt (pc := 89) (off := 13) (tgt := 102) (by decide +kernel) (by decide) (fun c44 => ?_) (fun c44 => ?_)
      · replace h := it_t c44 h
        refine RN_ldc (pc := 102) (idx := 37) (v := -1000000) (by decide +kernel) kc_RX1_37 ?_
        exact RN_weak (l := [some (.ref v0), some (.int v1), none, some (.int v3), some (.int v4), some (.int v5), some (.int v6)]) (And.intro rfl (And.intro rfl (And.intro rfl (And.intro rfl (And.intro rfl (And.intro rfl trivial)))))) (tb_X1_measure_104 n v0 v1 v3 v4 v5 v6 (-1000000 : Int32) v6 r43 σ40 _ (fun c6 τ h => ih c6 τ h) h)
      · replace h := it_f c44 h
        refine RN_aload_n (pc := 92) (k := 0) (by decide +kernel) rfl rfl ?_
        obtain ⟨c48, h⟩ := ck_el h
        refine RN_getR (pc := 93) (idx := 9) (ci := 1) (k := 0) (by decide +kernel) lf_RX1_9 rfl c41 c48 ?_
        obtain ⟨r49, er49, h⟩ := nm_el h
        refine RN_nmR er49 ?_
        refine RN_iload (pc := 96) (i := 6) (by decide +kernel) rfl ?_
        obtain ⟨c50, h⟩ := ck_el h
        refine RN_iald (pc := 98) (by decide +kernel) c50 ?_
        refine RN_goto (pc := 99) (off := 5) (tgt := 104) (by decide +kernel) (by decide) ?_
        exact RN_weak (l := [some (.ref v0), some (.int v1), none, some (.int v3), some (.int v4), some (.int v5), some (.int v6)]) (And.intro rfl (And.intro rfl (And.intro rfl (And.intro rfl (And.intro rfl (And.intro rfl trivial)))))) (tb_X1_measure_104 n v0 v1 v3 v4 v5 v6 (gI σ40 r49 v6.toNatClampNeg) v6 r43 σ40 _ (fun c6 τ h => ih c6 τ h) h)
def b_X1_measure_24 (n : Nat) (v0 : Nat) (v1 : Int32) (v3 : Int32) (v4 : Int32) (v5 : Int32) (s0 : Int32) (s1 : Nat) (σ : Sg) : Option Sg :=
  ck (okO σ s1 1) <|
  nm (pI σ s1 4 s0) fun σ31 =>
  b_X1_measure_30 n v0 v1 v3 v4 v5 (0 : Int32) σ31
set_option maxRecDepth 20000 in
theorem tb_X1_measure_24 {G : Gl} {σr : Sg} (n : Nat) (v0 : Nat) (v1 : Int32) (v3 : Int32) (v4 : Int32) (v5 : Int32) (s0 : Int32) (s1 : Nat) (σ : Sg) (h : b_X1_measure_24 n v0 v1 v3 v4 v5 s0 s1 σ = some σr) : RN G M_X1_measure 24 [some (.ref v0), some (.int v1), none, some (.int v3), some (.int v4), some (.int v5)] [.int s0, .ref s1] σ (.inl none) σr := by
  unfold b_X1_measure_24 at h
  obtain ⟨c30, h⟩ := ck_el h
  refine RN_putI (pc := 24) (idx := 24) (ci := 1) (k := 4) (by decide +kernel) lf_RX1_24 rfl (fun q hq => by cases hq; exact Or.inl rfl) c30 ?_
  obtain ⟨σ31, eσ31, h⟩ := nm_el h
  refine RN_nmS eσ31 ?_
  refine RN_iconst (pc := 27) (n := 0) (v := 0) (by decide +kernel) (by decide) ?_
  refine RN_istore (pc := 28) (i := 6) (ls2 := [some (.ref v0), some (.int v1), none, some (.int v3), some (.int v4), some (.int v5), some (.int (0 : Int32))]) (by decide +kernel) (by decide) rfl ?_
  exact RN_weak (l := [some (.ref v0), some (.int v1), none, some (.int v3), some (.int v4), some (.int v5), some (.int (0 : Int32))]) (And.intro rfl (And.intro rfl (And.intro rfl (And.intro rfl (And.intro rfl (And.intro rfl trivial)))))) (tb_X1_measure_30 v0 v1 v3 v4 v5 n (0 : Int32) σ31 h)
def f_X1_measure (n : Nat) (v0 : Nat) (v1 : Int32) (v2 : Int32) (v3 : Int32) (v4 : Int32) (v5 : Int32) (σ : Sg) : Option Sg :=
  ck (okO σ v0 1) <|
  nm (pI σ v0 5 v2) fun σ27 =>
  if v3 = (1 : Int32) then (
    ck (okO σ27 v0 1) <|
    b_X1_measure_24 n v0 v1 v3 v4 v5 ((2 : Int32) * (gI σ27 v0 5)) v0 σ27)
  else (
    ck (okO σ27 v0 1) <|
    b_X1_measure_24 n v0 v1 v3 v4 v5 (gI σ27 v0 5) v0 σ27)
set_option maxRecDepth 20000 in
theorem t_X1_measure {G : Gl} {σr : Sg} {n : Nat} {v0 : Nat} {v1 : Int32} {v2 : Int32} {v3 : Int32} {v4 : Int32} {v5 : Int32} {σ : Sg} (h : f_X1_measure n v0 v1 v2 v3 v4 v5 σ = some σr) : MT G M_X1_measure [.ref v0, .int v1, .int v2, .int v3, .int v4, .int v5] σ none σr := by
  refine MT_of rfl rfl (Nat.le_of_ble_eq_true rfl) ?_
  show RN G M_X1_measure 0 [some (.ref v0), some (.int v1), some (.int v2), some (.int v3), some (.int v4), some (.int v5)] [] σ (.inl none) σr
  unfold f_X1_measure at h
  refine RN_aload_n (pc := 0) (k := 0) (by decide +kernel) rfl rfl ?_
  refine RN_iload_n (pc := 1) (k := 2) (by decide +kernel) rfl rfl ?_
  obtain ⟨c26, h⟩ := ck_el h
  refine RN_putI (pc := 2) (idx := 28) (ci := 1) (k := 5) (by decide +kernel) lf_RX1_28 rfl (fun q hq => by cases hq; exact Or.inl rfl) c26 ?_
  obtain ⟨σ27, eσ27, h⟩ := nm_el h
  refine RN_nmS eσ27 ?_
  refine RN_aload_n (pc := 5) (k := 0) (by decide +kernel) rfl rfl ?_
  refine RN_iload_n (pc := 6) (k := 3) (by decide +kernel) rfl rfl ?_
  refine RN_iconst (pc := 7) (n := 1) (v := 1) (by decide +kernel) (by decide) ?_
  refine RN_icmp_ne (pc := 8) (off := 12) (tgt := 20) (by decide +kernel) (by decide) (fun c28 => ?_) (fun c28 => ?_)
  · replace h := it_f c28 h
    refine RN_aload_n (pc := 20) (k := 0) (by decide +kernel) rfl rfl ?_
    obtain ⟨c29, h⟩ := ck_el h
    refine RN_getI (pc := 21) (idx := 28) (ci := 1) (k := 5) (by decide +kernel) lf_RX1_28 (Or.inl rfl) c29 ?_
    exact RN_weak (l := [some (.ref v0), some (.int v1), none, some (.int v3), some (.int v4), some (.int v5)]) (And.intro rfl (And.intro rfl (And.intro rfl (And.intro rfl (And.intro rfl trivial))))) (tb_X1_measure_24 n v0 v1 v3 v4 v5 (gI σ27 v0 5) v0 σ27 h)
  · replace h := it_t c28 h
    refine RN_iconst (pc := 11) (n := 2) (v := 2) (by decide +kernel) (by decide) ?_
    refine RN_aload_n (pc := 12) (k := 0) (by decide +kernel) rfl rfl ?_
    obtain ⟨c51, h⟩ := ck_el h
    refine RN_getI (pc := 13) (idx := 28) (ci := 1) (k := 5) (by decide +kernel) lf_RX1_28 (Or.inl rfl) c51 ?_
    refine RN_imul (pc := 16) (by decide +kernel) ?_
    refine RN_goto (pc := 17) (off := 7) (tgt := 24) (by decide +kernel) (by decide) ?_
    exact RN_weak (l := [some (.ref v0), some (.int v1), none, some (.int v3), some (.int v4), some (.int v5)]) (And.intro rfl (And.intro rfl (And.intro rfl (And.intro rfl (And.intro rfl trivial))))) (tb_X1_measure_24 n v0 v1 v3 v4 v5 ((2 : Int32) * (gI σ27 v0 5)) v0 σ27 h)
def b_J6_numberOfLeadingZeros_0f7a4_61 (v0 : Int32) (v1 : Int32) : Option Int32 :=
  if v0 < (4 : Int32) then (
    some (v1 - ((v0.toUInt32 >>> ((1 : Int32).toUInt32 &&& Int32.toUInt32 31)).toInt32)))
  else (
    nm (v1 + ((-2) : Int32)) fun x14 =>
    nm ((v0.toUInt32 >>> ((2 : Int32).toUInt32 &&& Int32.toUInt32 31)).toInt32) fun x15 =>
    some (x14 - ((x15.toUInt32 >>> ((1 : Int32).toUInt32 &&& Int32.toUInt32 31)).toInt32)))
set_option maxRecDepth 20000 in
theorem tb_J6_numberOfLeadingZeros_0f7a4_61 {G : Gl} {xr : Int32} {σ : Sg} (v0 : Int32) (v1 : Int32) (h : b_J6_numberOfLeadingZeros_0f7a4_61 v0 v1 = some xr) : RN G M_J6_numberOfLeadingZeros_0f7a4 61 [some (.int v0), some (.int v1)] [] σ (.inl (some (.int xr))) σ := by
  unfold b_J6_numberOfLeadingZeros_0f7a4_61 at h
  refine RN_iload_n (pc := 61) (k := 0) (by decide +kernel) rfl rfl ?_
  refine RN_iconst (pc := 62) (n := 4) (v := 4) (by decide +kernel) (by decide) ?_
  refine RN_icmp_lt (pc := 63) (off := 10) (tgt := 73) (by decide +kernel) (by decide) (fun c13 => ?_) (fun c13 => ?_)
  · replace h := it_t c13 h
    refine RN_iload_n (pc := 73) (k := 1) (by decide +kernel) rfl rfl ?_
    refine RN_iload_n (pc := 74) (k := 0) (by decide +kernel) rfl rfl ?_
    refine RN_iconst (pc := 75) (n := 1) (v := 1) (by decide +kernel) (by decide) ?_
    refine RN_iushr (pc := 76) (by decide +kernel) ?_
    refine RN_isub (pc := 77) (by decide +kernel) ?_
    obtain rfl := some_el h
    exact RN_ireturn (by decide +kernel) rfl
  · replace h := it_f c13 h
    obtain ⟨x14, ex14, h⟩ := nm_el h
    refine RN_iinc (pc := 66) (i := 1) (n := -2) (v := x14) (ls2 := [some (.int v0), some (.int x14)]) (by decide +kernel) rfl (by rw [ex14]; rfl) (by decide) rfl ?_
    refine RN_iload_n (pc := 69) (k := 0) (by decide +kernel) rfl rfl ?_
    refine RN_iconst (pc := 70) (n := 2) (v := 2) (by decide +kernel) (by decide) ?_
    refine RN_iushr (pc := 71) (by decide +kernel) ?_
    obtain ⟨x15, ex15, h⟩ := nm_el h
    refine RN_nmI ex15 ?_
    refine RN_istore_n (pc := 72) (k := 0) (ls2 := [some (.int x15), some (.int x14)]) (by decide +kernel) rfl (by decide) rfl ?_
    refine RN_iload_n (pc := 73) (k := 1) (by decide +kernel) rfl rfl ?_
    refine RN_iload_n (pc := 74) (k := 0) (by decide +kernel) rfl rfl ?_
    refine RN_iconst (pc := 75) (n := 1) (v := 1) (by decide +kernel) (by decide) ?_
    refine RN_iushr (pc := 76) (by decide +kernel) ?_
    refine RN_isub (pc := 77) (by decide +kernel) ?_
    obtain rfl := some_el h
    exact RN_ireturn (by decide +kernel) rfl
def b_J6_numberOfLeadingZeros_0f7a4_48 (v0 : Int32) (v1 : Int32) : Option Int32 :=
  if v0 < (16 : Int32) then (
    b_J6_numberOfLeadingZeros_0f7a4_61 v0 v1)
  else (
    nm (v1 + ((-4) : Int32)) fun x16 =>
    nm ((v0.toUInt32 >>> ((4 : Int32).toUInt32 &&& Int32.toUInt32 31)).toInt32) fun x17 =>
    b_J6_numberOfLeadingZeros_0f7a4_61 x17 x16)
set_option maxRecDepth 20000 in
theorem tb_J6_numberOfLeadingZeros_0f7a4_48 {G : Gl} {xr : Int32} {σ : Sg} (v0 : Int32) (v1 : Int32) (h : b_J6_numberOfLeadingZeros_0f7a4_48 v0 v1 = some xr) : RN G M_J6_numberOfLeadingZeros_0f7a4 48 [some (.int v0), some (.int v1)] [] σ (.inl (some (.int xr))) σ := by
  unfold b_J6_numberOfLeadingZeros_0f7a4_48 at h
  refine RN_iload_n (pc := 48) (k := 0) (by decide +kernel) rfl rfl ?_
  refine RN_bipush (pc := 49) (n := 16) (v := 16) (by decide +kernel) (by decide) ?_
  refine RN_icmp_lt (pc := 51) (off := 10) (tgt := 61) (by decide +kernel) (by decide) (fun c12 => ?_) (fun c12 => ?_)
  · replace h := it_t c12 h
    exact RN_weak (l := [some (.int v0), some (.int v1)]) (And.intro rfl (And.intro rfl trivial)) (tb_J6_numberOfLeadingZeros_0f7a4_61 v0 v1 h)
  · replace h := it_f c12 h
    obtain ⟨x16, ex16, h⟩ := nm_el h
    refine RN_iinc (pc := 54) (i := 1) (n := -4) (v := x16) (ls2 := [some (.int v0), some (.int x16)]) (by decide +kernel) rfl (by rw [ex16]; rfl) (by decide) rfl ?_
    refine RN_iload_n (pc := 57) (k := 0) (by decide +kernel) rfl rfl ?_
    refine RN_iconst (pc := 58) (n := 4) (v := 4) (by decide +kernel) (by decide) ?_
    refine RN_iushr (pc := 59) (by decide +kernel) ?_
    obtain ⟨x17, ex17, h⟩ := nm_el h
    refine RN_nmI ex17 ?_
    refine RN_istore_n (pc := 60) (k := 0) (ls2 := [some (.int x17), some (.int x16)]) (by decide +kernel) rfl (by decide) rfl ?_
    exact RN_weak (l := [some (.int x17), some (.int x16)]) (And.intro rfl (And.intro rfl trivial)) (tb_J6_numberOfLeadingZeros_0f7a4_61 x17 x16 h)
def b_J6_numberOfLeadingZeros_0f7a4_33 (v0 : Int32) (v1 : Int32) : Option Int32 :=
  if v0 < (256 : Int32) then (
    b_J6_numberOfLeadingZeros_0f7a4_48 v0 v1)
  else (
    nm (v1 + ((-8) : Int32)) fun x18 =>
    nm ((v0.toUInt32 >>> ((8 : Int32).toUInt32 &&& Int32.toUInt32 31)).toInt32) fun x19 =>
    b_J6_numberOfLeadingZeros_0f7a4_48 x19 x18)
set_option maxRecDepth 20000 in
theorem tb_J6_numberOfLeadingZeros_0f7a4_33 {G : Gl} {xr : Int32} {σ : Sg} (v0 : Int32) (v1 : Int32) (h : b_J6_numberOfLeadingZeros_0f7a4_33 v0 v1 = some xr) : RN G M_J6_numberOfLeadingZeros_0f7a4 33 [some (.int v0), some (.int v1)] [] σ (.inl (some (.int xr))) σ := by
  unfold b_J6_numberOfLeadingZeros_0f7a4_33 at h
  refine RN_iload_n (pc := 33) (k := 0) (by decide +kernel) rfl rfl ?_
  refine RN_sipush (pc := 34) (n := 256) (v := 256) (by decide +kernel) (by decide) ?_
  refine RN_icmp_lt (pc := 37) (off := 11) (tgt := 48) (by decide +kernel) (by decide) (fun c11 => ?_) (fun c11 => ?_)
  · replace h := it_t c11 h
    exact RN_weak (l := [some (.int v0), some (.int v1)]) (And.intro rfl (And.intro rfl trivial)) (tb_J6_numberOfLeadingZeros_0f7a4_48 v0 v1 h)
  · replace h := it_f c11 h
    obtain ⟨x18, ex18, h⟩ := nm_el h
    refine RN_iinc (pc := 40) (i := 1) (n := -8) (v := x18) (ls2 := [some (.int v0), some (.int x18)]) (by decide +kernel) rfl (by rw [ex18]; rfl) (by decide) rfl ?_
    refine RN_iload_n (pc := 43) (k := 0) (by decide +kernel) rfl rfl ?_
    refine RN_bipush (pc := 44) (n := 8) (v := 8) (by decide +kernel) (by decide) ?_
    refine RN_iushr (pc := 46) (by decide +kernel) ?_
    obtain ⟨x19, ex19, h⟩ := nm_el h
    refine RN_nmI ex19 ?_
    refine RN_istore_n (pc := 47) (k := 0) (ls2 := [some (.int x19), some (.int x18)]) (by decide +kernel) rfl (by decide) rfl ?_
    exact RN_weak (l := [some (.int x19), some (.int x18)]) (And.intro rfl (And.intro rfl trivial)) (tb_J6_numberOfLeadingZeros_0f7a4_48 x19 x18 h)
def f_J6_numberOfLeadingZeros_0f7a4 (v0 : Int32) : Option Int32 :=
  if 0 < v0 then (
    if v0 < (65536 : Int32) then (
      b_J6_numberOfLeadingZeros_0f7a4_33 v0 (31 : Int32))
    else (
      nm ((31 : Int32) + ((-16) : Int32)) fun x20 =>
      nm ((v0.toUInt32 >>> ((16 : Int32).toUInt32 &&& Int32.toUInt32 31)).toInt32) fun x21 =>
      b_J6_numberOfLeadingZeros_0f7a4_33 x21 x20))
  else (
    if v0 = 0 then (
      some (32 : Int32))
    else (
      some (0 : Int32)))
set_option maxRecDepth 20000 in
theorem t_J6_numberOfLeadingZeros_0f7a4 {G : Gl} {xr : Int32} {v0 : Int32} {σ : Sg} (h : f_J6_numberOfLeadingZeros_0f7a4 v0 = some xr) : MT G M_J6_numberOfLeadingZeros_0f7a4 [.int v0] σ (some (.int xr)) σ := by
  refine MT_ofF (by decide +kernel) rfl (Nat.le_of_ble_eq_true rfl) ?_
  show RN G M_J6_numberOfLeadingZeros_0f7a4 0 [some (.int v0)] [] σ (.inl (some (.int xr))) σ
  unfold f_J6_numberOfLeadingZeros_0f7a4 at h
  refine RN_iload_n (pc := 0) (k := 0) (by decide +kernel) rfl rfl ?_
  refine RN_if_gt (pc := 1) (off := 14) (tgt := 15) (by decide +kernel) (by decide) (fun c9 => ?_) (fun c9 => ?_)
  · replace h := it_t c9 h
    refine RN_bipush (pc := 15) (n := 31) (v := 31) (by decide +kernel) (by decide) ?_
    refine RN_istore_n (pc := 17) (k := 1) (ls2 := [some (.int v0), some (.int (31 : Int32))]) (by decide +kernel) rfl (by decide) rfl ?_
    refine RN_iload_n (pc := 18) (k := 0) (by decide +kernel) rfl rfl ?_
    refine RN_ldcw (pc := 19) (idx := 264) (v := 65536) (by decide +kernel) kc_RJ6_264 ?_
    refine RN_icmp_lt (pc := 22) (off := 11) (tgt := 33) (by decide +kernel) (by decide) (fun c10 => ?_) (fun c10 => ?_)
    · replace h := it_t c10 h
      exact RN_weak (l := [some (.int v0), some (.int (31 : Int32))]) (And.intro rfl (And.intro rfl trivial)) (tb_J6_numberOfLeadingZeros_0f7a4_33 v0 (31 : Int32) h)
    · replace h := it_f c10 h
      obtain ⟨x20, ex20, h⟩ := nm_el h
      refine RN_iinc (pc := 25) (i := 1) (n := -16) (v := x20) (ls2 := [some (.int v0), some (.int x20)]) (by decide +kernel) rfl (by rw [ex20]; rfl) (by decide) rfl ?_
      refine RN_iload_n (pc := 28) (k := 0) (by decide +kernel) rfl rfl ?_
      refine RN_bipush (pc := 29) (n := 16) (v := 16) (by decide +kernel) (by decide) ?_
      refine RN_iushr (pc := 31) (by decide +kernel) ?_
      obtain ⟨x21, ex21, h⟩ := nm_el h
      refine RN_nmI ex21 ?_
      refine RN_istore_n (pc := 32) (k := 0) (ls2 := [some (.int x21), some (.int x20)]) (by decide +kernel) rfl (by decide) rfl ?_
      exact RN_weak (l := [some (.int x21), some (.int x20)]) (And.intro rfl (And.intro rfl trivial)) (tb_J6_numberOfLeadingZeros_0f7a4_33 x21 x20 h)
  · replace h := it_f c9 h
    refine RN_iload_n (pc := 4) (k := 0) (by decide +kernel) rfl rfl ?_
    refine RN_if_ne (pc := 5) (off := 8) (tgt := 13) (by decide +kernel) (by decide) (fun c22 => ?_) (fun c22 => ?_)
    · replace h := it_f c22 h
      refine RN_iconst (pc := 13) (n := 0) (v := 0) (by decide +kernel) (by decide) ?_
      obtain rfl := some_el h
      exact RN_ireturn (by decide +kernel) rfl
    · replace h := it_t c22 h
      refine RN_bipush (pc := 8) (n := 32) (v := 32) (by decide +kernel) (by decide) ?_
      refine RN_goto (pc := 10) (off := 4) (tgt := 14) (by decide +kernel) (by decide) ?_
      obtain rfl := some_el h
      exact RN_ireturn (by decide +kernel) rfl
def f_J6_highestOneBit_0f7a4 (v0 : Int32) : Option Int32 :=
  bp (f_J6_numberOfLeadingZeros_0f7a4 v0) fun x4 =>
  some (v0 &&& (((-2147483648 : Int32).toUInt32 >>> (x4.toUInt32 &&& Int32.toUInt32 31)).toInt32))
set_option maxRecDepth 20000 in
theorem t_J6_highestOneBit_0f7a4 {G : Gl} {xr : Int32} {v0 : Int32} {σ : Sg} (h : f_J6_highestOneBit_0f7a4 v0 = some xr) : MT G M_J6_highestOneBit_0f7a4 [.int v0] σ (some (.int xr)) σ := by
  refine MT_ofF (by decide +kernel) rfl (Nat.le_of_ble_eq_true rfl) ?_
  show RN G M_J6_highestOneBit_0f7a4 0 [some (.int v0)] [] σ (.inl (some (.int xr))) σ
  unfold f_J6_highestOneBit_0f7a4 at h
  refine RN_iload_n (pc := 0) (k := 0) (by decide +kernel) rfl rfl ?_
  refine RN_ldc (pc := 1) (idx := 127) (v := -2147483648) (by decide +kernel) kc_RJ6_127 ?_
  refine RN_iload_n (pc := 3) (k := 0) (by decide +kernel) rfl rfl ?_
  obtain ⟨x4, f3, h⟩ := bp_el h
  refine RN_callS (M := M_J6_highestOneBit_0f7a4) (pc := 4) (idx := 51) (as := [.int v0]) (st := [.int (-2147483648 : Int32), .int v0]) (t_J6_numberOfLeadingZeros_0f7a4 f3) (by decide +kernel) lk_RJ6_51 rfl (Nat.le_of_ble_eq_true rfl) ⟨Nat.le_of_ble_eq_true rfl, Nat.le_of_ble_eq_true rfl⟩ rfl ?_
  show RN G M_J6_highestOneBit_0f7a4 7 [some (.int v0)] [.int x4, .int (-2147483648 : Int32), .int v0] σ _ _
  refine RN_iushr (pc := 7) (by decide +kernel) ?_
  refine RN_iand (pc := 8) (by decide +kernel) ?_
  obtain rfl := some_el h
  exact RN_ireturn (by decide +kernel) rfl
def b_X1_joinFrom_77 (k5 : Int32 → Int32 → Sg → Option Sg) (n : Nat) (v0 : Nat) (v1 : Int32) (v2 : Nat) (v4 : Int32) (s0 : Int32) (σ : Sg) : Option Sg :=
  nm (v4 + (1 : Int32)) fun x29 =>
  k5 s0 x29 σ
set_option maxRecDepth 20000 in
theorem tb_X1_joinFrom_77 {G : Gl} {σr : Sg} (n : Nat) (v0 : Nat) (v1 : Int32) (v2 : Nat) (v4 : Int32) (s0 : Int32) (σ : Sg) (k5 : Int32 → Int32 → Sg → Option Sg) (hk5 : ∀ (c3 : Int32) (c4 : Int32) (τ : Sg), k5 c3 c4 τ = some σr → RN G M_X1_joinFrom 5 [some (.ref v0), some (.int v1), some (.ref v2), some (.int c3), some (.int c4)] [] τ (.inl none) σr) (h : b_X1_joinFrom_77 k5 n v0 v1 v2 v4 s0 σ = some σr) : RN G M_X1_joinFrom 77 [some (.ref v0), some (.int v1), some (.ref v2), none, some (.int v4)] [.int s0] σ (.inl none) σr := by
  unfold b_X1_joinFrom_77 at h
  refine RN_istore_n (pc := 77) (k := 3) (ls2 := [some (.ref v0), some (.int v1), some (.ref v2), some (.int s0), some (.int v4)]) (by decide +kernel) rfl (by decide) rfl ?_
  obtain ⟨x29, ex29, h⟩ := nm_el h
  refine RN_iinc (pc := 78) (i := 4) (n := 1) (v := x29) (ls2 := [some (.ref v0), some (.int v1), some (.ref v2), some (.int s0), some (.int x29)]) (by decide +kernel) rfl (by rw [ex29]; rfl) (by decide) rfl ?_
  refine RN_goto (pc := 81) (off := -76) (tgt := 5) (by decide +kernel) (by decide) ?_
  exact RN_weak (l := [some (.ref v0), some (.int v1), some (.ref v2), some (.int s0), some (.int x29)]) (And.intro rfl (And.intro rfl (And.intro rfl (And.intro rfl (And.intro rfl trivial))))) (hk5 s0 x29 σ h)
def b_X1_joinFrom_60 (k5 : Int32 → Int32 → Sg → Option Sg) (n : Nat) (v0 : Nat) (v1 : Int32) (v2 : Nat) (v3 : Int32) (v4 : Int32) (σ : Sg) : Option Sg :=
  ck (okO σ v0 1) <|
  if (gI σ v0 4) ≤ (v3 + (1 : Int32)) then (
    b_X1_joinFrom_77 k5 n v0 v1 v2 v4 (0 : Int32) σ)
  else (
    b_X1_joinFrom_77 k5 n v0 v1 v2 v4 (v3 + (1 : Int32)) σ)
set_option maxRecDepth 20000 in
theorem tb_X1_joinFrom_60 {G : Gl} {σr : Sg} (n : Nat) (v0 : Nat) (v1 : Int32) (v2 : Nat) (v3 : Int32) (v4 : Int32) (σ : Sg) (k5 : Int32 → Int32 → Sg → Option Sg) (hk5 : ∀ (c3 : Int32) (c4 : Int32) (τ : Sg), k5 c3 c4 τ = some σr → RN G M_X1_joinFrom 5 [some (.ref v0), some (.int v1), some (.ref v2), some (.int c3), some (.int c4)] [] τ (.inl none) σr) (h : b_X1_joinFrom_60 k5 n v0 v1 v2 v3 v4 σ = some σr) : RN G M_X1_joinFrom 60 [some (.ref v0), some (.int v1), some (.ref v2), some (.int v3), some (.int v4)] [] σ (.inl none) σr := by
  unfold b_X1_joinFrom_60 at h
  refine RN_iload_n (pc := 60) (k := 3) (by decide +kernel) rfl rfl ?_
  refine RN_iconst (pc := 61) (n := 1) (v := 1) (by decide +kernel) (by decide) ?_
  refine RN_iadd (pc := 62) (by decide +kernel) ?_
  refine RN_aload_n (pc := 63) (k := 0) (by decide +kernel) rfl rfl ?_
  obtain ⟨c27, h⟩ := ck_el h
  refine RN_getI (pc := 64) (idx := 24) (ci := 1) (k := 4) (by decide +kernel) lf_RX1_24 (Or.inl rfl) c27 ?_
  refine RN_icmp_ge (pc := 67) (off := 9) (tgt := 76) (by decide +kernel) (by decide) (fun c28 => ?_) (fun c28 => ?_)
  · replace h := it_t c28 h
    refine RN_iconst (pc := 76) (n := 0) (v := 0) (by decide +kernel) (by decide) ?_
    exact RN_weak (l := [some (.ref v0), some (.int v1), some (.ref v2), none, some (.int v4)]) (And.intro rfl (And.intro rfl (And.intro rfl (And.intro rfl trivial)))) (tb_X1_joinFrom_77 n v0 v1 v2 v4 (0 : Int32) σ k5 hk5 h)
  · replace h := it_f c28 h
    refine RN_iload_n (pc := 70) (k := 3) (by decide +kernel) rfl rfl ?_
    refine RN_iconst (pc := 71) (n := 1) (v := 1) (by decide +kernel) (by decide) ?_
    refine RN_iadd (pc := 72) (by decide +kernel) ?_
    refine RN_goto (pc := 73) (off := 4) (tgt := 77) (by decide +kernel) (by decide) ?_
    exact RN_weak (l := [some (.ref v0), some (.int v1), some (.ref v2), none, some (.int v4)]) (And.intro rfl (And.intro rfl (And.intro rfl (And.intro rfl trivial)))) (tb_X1_joinFrom_77 n v0 v1 v2 v4 (v3 + (1 : Int32)) σ k5 hk5 h)
def b_X1_joinFrom_5 : Nat → Nat → Int32 → Nat → Int32 → Int32 → Sg → Option Sg
  | 0, _, _, _, _, _, _ => none
  | n + 1, v0, v1, v2, v3, v4, σ =>
  ck (okO σ v0 1) <|
  if (gI σ v0 4) ≤ v4 then (
    some σ)
  else (
    ck (okA σ v2 13 v4) <|
    if (gI σ v2 v4.toNatClampNeg) = (-1000000 : Int32) then (
      b_X1_joinFrom_60 (fun c3 c4 τ => b_X1_joinFrom_5 n v0 v1 v2 c3 c4 τ) n v0 v1 v2 v3 v4 σ)
    else (
      ck (¬ gR σ v0 2 = 0) <|
      nm (gR σ v0 2) fun r31 =>
      ck (okA σ r31 13 v1) <|
      ck (¬ gR σ v0 3 = 0) <|
      nm (gR σ v0 3) fun r34 =>
      ck (okA σ r34 13 v3) <|
      if ((gI σ r31 v1.toNatClampNeg) + (gI σ v2 v4.toNatClampNeg)) ≤ (gI σ r34 v3.toNatClampNeg) then (
        b_X1_joinFrom_60 (fun c3 c4 τ => b_X1_joinFrom_5 n v0 v1 v2 c3 c4 τ) n v0 v1 v2 v3 v4 σ)
      else (
        nm (gR σ v0 3) fun r37 =>
        nm (gR σ v0 2) fun r38 =>
        ck (okA σ r38 13 v1) <|
        ck (okW σ r37 13 v3) <|
        nm (pI σ r37 v3.toNatClampNeg ((gI σ r38 v1.toNatClampNeg) + (gI σ v2 v4.toNatClampNeg))) fun σ41 =>
        b_X1_joinFrom_60 (fun c3 c4 τ => b_X1_joinFrom_5 n v0 v1 v2 c3 c4 τ) n v0 v1 v2 v3 v4 σ41)))
set_option maxRecDepth 20000 in
theorem tb_X1_joinFrom_5 {G : Gl} {σr : Sg} (v0 : Nat) (v1 : Int32) (v2 : Nat) : ∀ (n : Nat) (v3 : Int32) (v4 : Int32) (σ : Sg), b_X1_joinFrom_5 n v0 v1 v2 v3 v4 σ = some σr → RN G M_X1_joinFrom 5 [some (.ref v0), some (.int v1), some (.ref v2), some (.int v3), some (.int v4)] [] σ (.inl none) σr := by
  intro n
  induction n with
  | zero =>
    intro v3 v4 σ h
    exact none_el h
  | succ n ih =>
    intro v3 v4 σ h
    rw [b_X1_joinFrom_5] at h
    refine RN_iload (pc := 5) (i := 4) (by decide +kernel) rfl ?_
    refine RN_aload_n (pc := 7) (k := 0) (by decide +kernel) rfl rfl ?_
    obtain ⟨c23, h⟩ := ck_el h
    refine RN_getI (pc := 8) (idx := 24) (ci := 1) (k := 4) (by decide +kernel) lf_RX1_24 (Or.inl rfl) c23 ?_
    refine RN_icmp_ge (pc := 11) (off := 73) (tgt := 84) (by decide +kernel) (by decide) (fun c24 => ?_) (fun c24 => ?_)
    · replace h := it_t c24 h
      obtain rfl := some_el h
      exact RN_return (by decide +kernel) rfl
    · replace h := it_f c24 h
      refine RN_aload_n (pc := 14) (k := 2) (by decide +kernel) rfl rfl ?_
      refine RN_iload (pc := 15) (i := 4) (by decide +kernel) rfl ?_
      obtain ⟨c25, h⟩ := ck_el h
      refine RN_iald (pc := 17) (by decide +kernel) c25 ?_
      refine RN_ldc (pc := 18) (idx := 37) (v := -1000000) (by decide +kernel) kc_RX1_37 ?_
      refine RN_icmp_eq (pc := 20) (off := 40) (tgt := 60) (by decide +kernel) (by decide) (fun c26 => ?_) (fun c26 => ?_)
      · replace h := it_t c26 h
        exact RN_weak (l := [some (.ref v0), some (.int v1), some (.ref v2), some (.int v3), some (.int v4)]) (And.intro rfl (And.intro rfl (And.intro rfl (And.intro rfl (And.intro rfl trivial))))) (tb_X1_joinFrom_60 n v0 v1 v2 v3 v4 σ _ (fun c3 c4 τ h => ih c3 c4 τ h) h)
      · replace h := it_f c26 h
        refine RN_aload_n (pc := 23) (k := 0) (by decide +kernel) rfl rfl ?_
        obtain ⟨c30, h⟩ := ck_el h
        refine RN_getR (pc := 24) (idx := 18) (ci := 1) (k := 2) (by decide +kernel) lf_RX1_18 rfl c23 c30 ?_
        obtain ⟨r31, er31, h⟩ := nm_el h
        refine RN_nmR er31 ?_
        refine RN_iload_n (pc := 27) (k := 1) (by decide +kernel) rfl rfl ?_
        obtain ⟨c32, h⟩ := ck_el h
        refine RN_iald (pc := 28) (by decide +kernel) c32 ?_
        refine RN_aload_n (pc := 29) (k := 2) (by decide +kernel) rfl rfl ?_
        refine RN_iload (pc := 30) (i := 4) (by decide +kernel) rfl ?_
        refine RN_iald (pc := 32) (by decide +kernel) c25 ?_
        refine RN_iadd (pc := 33) (by decide +kernel) ?_
        refine RN_aload_n (pc := 34) (k := 0) (by decide +kernel) rfl rfl ?_
        obtain ⟨c33, h⟩ := ck_el h
        refine RN_getR (pc := 35) (idx := 21) (ci := 1) (k := 3) (by decide +kernel) lf_RX1_21 rfl c23 c33 ?_
        obtain ⟨r34, er34, h⟩ := nm_el h
        refine RN_nmR er34 ?_
        refine RN_iload_n (pc := 38) (k := 3) (by decide +kernel) rfl rfl ?_
        obtain ⟨c35, h⟩ := ck_el h
        refine RN_iald (pc := 39) (by decide +kernel) c35 ?_
        refine RN_icmp_le (pc := 40) (off := 20) (tgt := 60) (by decide +kernel) (by decide) (fun c36 => ?_) (fun c36 => ?_)
        · replace h := it_t c36 h
          exact RN_weak (l := [some (.ref v0), some (.int v1), some (.ref v2), some (.int v3), some (.int v4)]) (And.intro rfl (And.intro rfl (And.intro rfl (And.intro rfl (And.intro rfl trivial))))) (tb_X1_joinFrom_60 n v0 v1 v2 v3 v4 σ _ (fun c3 c4 τ h => ih c3 c4 τ h) h)
        · replace h := it_f c36 h
          refine RN_aload_n (pc := 43) (k := 0) (by decide +kernel) rfl rfl ?_
          refine RN_getR (pc := 44) (idx := 21) (ci := 1) (k := 3) (by decide +kernel) lf_RX1_21 rfl c23 c33 ?_
          obtain ⟨r37, er37, h⟩ := nm_el h
          refine RN_nmR er37 ?_
          refine RN_iload_n (pc := 47) (k := 3) (by decide +kernel) rfl rfl ?_
          refine RN_aload_n (pc := 48) (k := 0) (by decide +kernel) rfl rfl ?_
          refine RN_getR (pc := 49) (idx := 18) (ci := 1) (k := 2) (by decide +kernel) lf_RX1_18 rfl c23 c30 ?_
          obtain ⟨r38, er38, h⟩ := nm_el h
          refine RN_nmR er38 ?_
          refine RN_iload_n (pc := 52) (k := 1) (by decide +kernel) rfl rfl ?_
          obtain ⟨c39, h⟩ := ck_el h
          refine RN_iald (pc := 53) (by decide +kernel) c39 ?_
          refine RN_aload_n (pc := 54) (k := 2) (by decide +kernel) rfl rfl ?_
          refine RN_iload (pc := 55) (i := 4) (by decide +kernel) rfl ?_
          refine RN_iald (pc := 57) (by decide +kernel) c25 ?_
          refine RN_iadd (pc := 58) (by decide +kernel) ?_
          obtain ⟨c40, h⟩ := ck_el h
          refine RN_iast (pc := 59) (by decide +kernel) c40 ?_
          obtain ⟨σ41, eσ41, h⟩ := nm_el h
          refine RN_nmS eσ41 ?_
          exact RN_weak (l := [some (.ref v0), some (.int v1), some (.ref v2), some (.int v3), some (.int v4)]) (And.intro rfl (And.intro rfl (And.intro rfl (And.intro rfl (And.intro rfl trivial))))) (tb_X1_joinFrom_60 n v0 v1 v2 v3 v4 σ41 _ (fun c3 c4 τ h => ih c3 c4 τ h) h)
def f_X1_joinFrom (n : Nat) (v0 : Nat) (v1 : Int32) (v2 : Nat) (σ : Sg) : Option Sg :=
  b_X1_joinFrom_5 n v0 v1 v2 v1 (0 : Int32) σ
set_option maxRecDepth 20000 in
theorem t_X1_joinFrom {G : Gl} {σr : Sg} {n : Nat} {v0 : Nat} {v1 : Int32} {v2 : Nat} {σ : Sg} (h : f_X1_joinFrom n v0 v1 v2 σ = some σr) : MT G M_X1_joinFrom [.ref v0, .int v1, .ref v2] σ none σr := by
  refine MT_of rfl rfl (Nat.le_of_ble_eq_true rfl) ?_
  show RN G M_X1_joinFrom 0 [some (.ref v0), some (.int v1), some (.ref v2)] [] σ (.inl none) σr
  unfold f_X1_joinFrom at h
  refine RN_iload_n (pc := 0) (k := 1) (by decide +kernel) rfl rfl ?_
  refine RN_istore_n (pc := 1) (k := 3) (ls2 := [some (.ref v0), some (.int v1), some (.ref v2), some (.int v1)]) (by decide +kernel) rfl (by decide) rfl ?_
  refine RN_iconst (pc := 2) (n := 0) (v := 0) (by decide +kernel) (by decide) ?_
  refine RN_istore (pc := 3) (i := 4) (ls2 := [some (.ref v0), some (.int v1), some (.ref v2), some (.int v1), some (.int (0 : Int32))]) (by decide +kernel) (by decide) rfl ?_
  exact RN_weak (l := [some (.ref v0), some (.int v1), some (.ref v2), some (.int v1), some (.int (0 : Int32))]) (And.intro rfl (And.intro rfl (And.intro rfl (And.intro rfl (And.intro rfl trivial))))) (tb_X1_joinFrom_5 v0 v1 v2 n v1 (0 : Int32) σ h)
def b_X1_joinWith_57 (n : Nat) (v0 : Nat) (σ : Sg) : Option Sg :=
  ck (okO σ v0 1) <|
  ck (¬ gR σ v0 2 = 0) <|
  nm (gR σ v0 2) fun r33 =>
  ck (¬ gR σ v0 3 = 0) <|
  nm (gR σ v0 3) fun r35 =>
  ck (¬ r35 = 0) <|
  nm (pR σ v0 2 r35) fun σ37 =>
  ck (okO σ37 v0 1) <|
  ck (¬ r33 = 0) <|
  nm (pR σ37 v0 3 r33) fun σ40 =>
  some σ40
set_option maxRecDepth 20000 in
theorem tb_X1_joinWith_57 {G : Gl} {σr : Sg} (n : Nat) (v0 : Nat) (σ : Sg) (h : b_X1_joinWith_57 n v0 σ = some σr) : RN G M_X1_joinWith 57 [some (.ref v0)] [] σ (.inl none) σr := by
  unfold b_X1_joinWith_57 at h
  refine RN_aload_n (pc := 57) (k := 0) (by decide +kernel) rfl rfl ?_
  obtain ⟨c31, h⟩ := ck_el h
  obtain ⟨c32, h⟩ := ck_el h
  refine RN_getR (pc := 58) (idx := 18) (ci := 1) (k := 2) (by decide +kernel) lf_RX1_18 rfl c31 c32 ?_
  obtain ⟨r33, er33, h⟩ := nm_el h
  refine RN_nmR er33 ?_
  refine RN_astore_n (pc := 61) (k := 2) (ls2 := [some (.ref v0), none, some (.ref r33)]) (by decide +kernel) rfl (by decide) rfl ?_
  refine RN_aload_n (pc := 62) (k := 0) (by decide +kernel) rfl rfl ?_
  refine RN_aload_n (pc := 63) (k := 0) (by decide +kernel) rfl rfl ?_
  obtain ⟨c34, h⟩ := ck_el h
  refine RN_getR (pc := 64) (idx := 21) (ci := 1) (k := 3) (by decide +kernel) lf_RX1_21 rfl c31 c34 ?_
  obtain ⟨r35, er35, h⟩ := nm_el h
  refine RN_nmR er35 ?_
  obtain ⟨c36, h⟩ := ck_el h
  refine RN_putR (pc := 67) (idx := 18) (ci := 1) (k := 2) (by decide +kernel) lf_RX1_18 rfl (fun q hq => by cases hq; exact Or.inl rfl) c36 c31 ?_
  obtain ⟨σ37, eσ37, h⟩ := nm_el h
  refine RN_nmS eσ37 ?_
  refine RN_aload_n (pc := 70) (k := 0) (by decide +kernel) rfl rfl ?_
  refine RN_aload_n (pc := 71) (k := 2) (by decide +kernel) rfl rfl ?_
  obtain ⟨c38, h⟩ := ck_el h
  obtain ⟨c39, h⟩ := ck_el h
  refine RN_putR (pc := 72) (idx := 21) (ci := 1) (k := 3) (by decide +kernel) lf_RX1_21 rfl (fun q hq => by cases hq; exact Or.inl rfl) c39 c38 ?_
  obtain ⟨σ40, eσ40, h⟩ := nm_el h
  refine RN_nmS eσ40 ?_
  obtain rfl := some_el h
  exact RN_return (by decide +kernel) rfl
def b_X1_joinWith_51 (k26 : Int32 → Sg → Option Sg) (n : Nat) (v0 : Nat) (v1 : Nat) (v2 : Int32) (σ : Sg) : Option Sg :=
  nm (v2 + (1 : Int32)) fun x45 =>
  k26 x45 σ
set_option maxRecDepth 20000 in
theorem tb_X1_joinWith_51 {G : Gl} {σr : Sg} (n : Nat) (v0 : Nat) (v1 : Nat) (v2 : Int32) (σ : Sg) (k26 : Int32 → Sg → Option Sg) (hk26 : ∀ (c2 : Int32) (τ : Sg), k26 c2 τ = some σr → RN G M_X1_joinWith 26 [some (.ref v0), some (.ref v1), some (.int c2)] [] τ (.inl none) σr) (h : b_X1_joinWith_51 k26 n v0 v1 v2 σ = some σr) : RN G M_X1_joinWith 51 [some (.ref v0), some (.ref v1), some (.int v2)] [] σ (.inl none) σr := by
  unfold b_X1_joinWith_51 at h
  obtain ⟨x45, ex45, h⟩ := nm_el h
  refine RN_iinc (pc := 51) (i := 2) (n := 1) (v := x45) (ls2 := [some (.ref v0), some (.ref v1), some (.int x45)]) (by decide +kernel) rfl (by rw [ex45]; rfl) (by decide) rfl ?_
  refine RN_goto (pc := 54) (off := -28) (tgt := 26) (by decide +kernel) (by decide) ?_
  exact RN_weak (l := [some (.ref v0), some (.ref v1), some (.int x45)]) (And.intro rfl (And.intro rfl (And.intro rfl trivial))) (hk26 x45 σ h)
def b_X1_joinWith_26 : Nat → Nat → Nat → Int32 → Sg → Option Sg
  | 0, _, _, _, _ => none
  | n + 1, v0, v1, v2, σ =>
  ck (okO σ v0 1) <|
  if (gI σ v0 4) ≤ v2 then (
    b_X1_joinWith_57 n v0 σ)
  else (
    ck (¬ gR σ v0 2 = 0) <|
    nm (gR σ v0 2) fun r42 =>
    ck (okA σ r42 13 v2) <|
    if (gI σ r42 v2.toNatClampNeg) = (-1000000 : Int32) then (
      b_X1_joinWith_51 (fun c2 τ => b_X1_joinWith_26 n v0 v1 c2 τ) n v0 v1 v2 σ)
    else (
      bp (f_X1_joinFrom n v0 v2 v1 σ) fun σ47 =>
      b_X1_joinWith_51 (fun c2 τ => b_X1_joinWith_26 n v0 v1 c2 τ) n v0 v1 v2 σ47))
set_option maxRecDepth 20000 in
theorem tb_X1_joinWith_26 {G : Gl} {σr : Sg} (v0 : Nat) (v1 : Nat) : ∀ (n : Nat) (v2 : Int32) (σ : Sg), b_X1_joinWith_26 n v0 v1 v2 σ = some σr → RN G M_X1_joinWith 26 [some (.ref v0), some (.ref v1), some (.int v2)] [] σ (.inl none) σr := by
  intro n
  induction n with
  | zero =>
    intro v2 σ h
    exact none_el h
  | succ n ih =>
    intro v2 σ h
    rw [b_X1_joinWith_26] at h
    refine RN_iload_n (pc := 26) (k := 2) (by decide +kernel) rfl rfl ?_
    refine RN_aload_n (pc := 27) (k := 0) (by decide +kernel) rfl rfl ?_
    obtain ⟨c29, h⟩ := ck_el h
    refine RN_getI (pc := 28) (idx := 24) (ci := 1) (k := 4) (by decide +kernel) lf_RX1_24 (Or.inl rfl) c29 ?_
    refine RN_icmp_ge (pc := 31) (off := 26) (tgt := 57) (by decide +kernel) (by decide) (fun c30 => ?_) (fun c30 => ?_)
    · replace h := it_t c30 h
      exact RN_weak (l := [some (.ref v0)]) (And.intro rfl trivial) (tb_X1_joinWith_57 n v0 σ h)
    · replace h := it_f c30 h
      refine RN_aload_n (pc := 34) (k := 0) (by decide +kernel) rfl rfl ?_
      obtain ⟨c41, h⟩ := ck_el h
      refine RN_getR (pc := 35) (idx := 18) (ci := 1) (k := 2) (by decide +kernel) lf_RX1_18 rfl c29 c41 ?_
      obtain ⟨r42, er42, h⟩ := nm_el h
      refine RN_nmR er42 ?_
      refine RN_iload_n (pc := 38) (k := 2) (by decide +kernel) rfl rfl ?_
      obtain ⟨c43, h⟩ := ck_el h
      refine RN_iald (pc := 39) (by decide +kernel) c43 ?_
      refine RN_ldc (pc := 40) (idx := 37) (v := -1000000) (by decide +kernel) kc_RX1_37 ?_
      refine RN_icmp_eq (pc := 42) (off := 9) (tgt := 51) (by decide +kernel) (by decide) (fun c44 => ?_) (fun c44 => ?_)
      · replace h := it_t c44 h
        exact RN_weak (l := [some (.ref v0), some (.ref v1), some (.int v2)]) (And.intro rfl (And.intro rfl (And.intro rfl trivial))) (tb_X1_joinWith_51 n v0 v1 v2 σ _ (fun c2 τ h => ih c2 τ h) h)
      · replace h := it_f c44 h
        refine RN_aload_n (pc := 45) (k := 0) (by decide +kernel) rfl rfl ?_
        refine RN_iload_n (pc := 46) (k := 2) (by decide +kernel) rfl rfl ?_
        refine RN_aload_n (pc := 47) (k := 1) (by decide +kernel) rfl rfl ?_
        obtain ⟨σ47, f46, h⟩ := bp_el h
        refine RN_callV (M := M_X1_joinWith) (pc := 48) (idx := 60) (as := [.int v2, .ref v1]) (st := []) (t_X1_joinFrom f46) (by decide +kernel) lk_RX1_60 rfl ⟨by decide, fun q hq => by cases hq; rfl⟩ c29 (Nat.le_of_ble_eq_true rfl) ⟨Nat.le_of_ble_eq_true rfl, Nat.le_of_ble_eq_true rfl⟩ rfl ?_
        show RN G M_X1_joinWith 51 [some (.ref v0), some (.ref v1), some (.int v2)] [] σ47 _ _
        exact RN_weak (l := [some (.ref v0), some (.ref v1), some (.int v2)]) (And.intro rfl (And.intro rfl (And.intro rfl trivial))) (tb_X1_joinWith_51 n v0 v1 v2 σ47 _ (fun c2 τ h => ih c2 τ h) h)
def b_X1_joinWith_24 (n : Nat) (v0 : Nat) (v1 : Nat) (σ : Sg) : Option Sg :=
  b_X1_joinWith_26 n v0 v1 (0 : Int32) σ
set_option maxRecDepth 20000 in
theorem tb_X1_joinWith_24 {G : Gl} {σr : Sg} (n : Nat) (v0 : Nat) (v1 : Nat) (σ : Sg) (h : b_X1_joinWith_24 n v0 v1 σ = some σr) : RN G M_X1_joinWith 24 [some (.ref v0), some (.ref v1)] [] σ (.inl none) σr := by
  unfold b_X1_joinWith_24 at h
  refine RN_iconst (pc := 24) (n := 0) (v := 0) (by decide +kernel) (by decide) ?_
  refine RN_istore_n (pc := 25) (k := 2) (ls2 := [some (.ref v0), some (.ref v1), some (.int (0 : Int32))]) (by decide +kernel) rfl (by decide) rfl ?_
  exact RN_weak (l := [some (.ref v0), some (.ref v1), some (.int (0 : Int32))]) (And.intro rfl (And.intro rfl (And.intro rfl trivial))) (tb_X1_joinWith_26 v0 v1 n (0 : Int32) σ h)
def b_X1_joinWith_2 : Nat → Nat → Nat → Int32 → Sg → Option Sg
  | 0, _, _, _, _ => none
  | n + 1, v0, v1, v2, σ =>
  ck (okO σ v0 1) <|
  if (gI σ v0 4) ≤ v2 then (
    b_X1_joinWith_24 n v0 v1 σ)
  else (
    ck (¬ gR σ v0 3 = 0) <|
    nm (gR σ v0 3) fun r49 =>
    ck (okW σ r49 13 v2) <|
    nm (pI σ r49 v2.toNatClampNeg (-1000000 : Int32)) fun σ51 =>
    nm (v2 + (1 : Int32)) fun x52 =>
    b_X1_joinWith_2 n v0 v1 x52 σ51)
set_option maxRecDepth 20000 in
theorem tb_X1_joinWith_2 {G : Gl} {σr : Sg} (v0 : Nat) (v1 : Nat) : ∀ (n : Nat) (v2 : Int32) (σ : Sg), b_X1_joinWith_2 n v0 v1 v2 σ = some σr → RN G M_X1_joinWith 2 [some (.ref v0), some (.ref v1), some (.int v2)] [] σ (.inl none) σr := by
  intro n
  induction n with
  | zero =>
    intro v2 σ h
    exact none_el h
  | succ n ih =>
    intro v2 σ h
    rw [b_X1_joinWith_2] at h
    refine RN_iload_n (pc := 2) (k := 2) (by decide +kernel) rfl rfl ?_
    refine RN_aload_n (pc := 3) (k := 0) (by decide +kernel) rfl rfl ?_
    obtain ⟨c27, h⟩ := ck_el h
    refine RN_getI (pc := 4) (idx := 24) (ci := 1) (k := 4) (by decide +kernel) lf_RX1_24 (Or.inl rfl) c27 ?_
    refine RN_icmp_ge (pc := 7) (off := 17) (tgt := 24) (by decide +kernel) (by decide) (fun c28 => ?_) (fun c28 => ?_)
    · replace h := it_t c28 h
      exact RN_weak (l := [some (.ref v0), some (.ref v1)]) (And.intro rfl (And.intro rfl trivial)) (tb_X1_joinWith_24 n v0 v1 σ h)
    · replace h := it_f c28 h
      refine RN_aload_n (pc := 10) (k := 0) (by decide +kernel) rfl rfl ?_
      obtain ⟨c48, h⟩ := ck_el h
      refine RN_getR (pc := 11) (idx := 21) (ci := 1) (k := 3) (by decide +kernel) lf_RX1_21 rfl c27 c48 ?_
      obtain ⟨r49, er49, h⟩ := nm_el h
      refine RN_nmR er49 ?_
      refine RN_iload_n (pc := 14) (k := 2) (by decide +kernel) rfl rfl ?_
      refine RN_ldc (pc := 15) (idx := 37) (v := -1000000) (by decide +kernel) kc_RX1_37 ?_
      obtain ⟨c50, h⟩ := ck_el h
      refine RN_iast (pc := 17) (by decide +kernel) c50 ?_
      obtain ⟨σ51, eσ51, h⟩ := nm_el h
      refine RN_nmS eσ51 ?_
      obtain ⟨x52, ex52, h⟩ := nm_el h
      refine RN_iinc (pc := 18) (i := 2) (n := 1) (v := x52) (ls2 := [some (.ref v0), some (.ref v1), some (.int x52)]) (by decide +kernel) rfl (by rw [ex52]; rfl) (by decide) rfl ?_
      refine RN_goto (pc := 21) (off := -19) (tgt := 2) (by decide +kernel) (by decide) ?_
      exact RN_weak (l := [some (.ref v0), some (.ref v1), some (.int x52)]) (And.intro rfl (And.intro rfl (And.intro rfl trivial))) (ih x52 σ51 h)
def f_X1_joinWith (n : Nat) (v0 : Nat) (v1 : Nat) (σ : Sg) : Option Sg :=
  b_X1_joinWith_2 n v0 v1 (0 : Int32) σ
set_option maxRecDepth 20000 in
theorem t_X1_joinWith {G : Gl} {σr : Sg} {n : Nat} {v0 : Nat} {v1 : Nat} {σ : Sg} (h : f_X1_joinWith n v0 v1 σ = some σr) : MT G M_X1_joinWith [.ref v0, .ref v1] σ none σr := by
  refine MT_of rfl rfl (Nat.le_of_ble_eq_true rfl) ?_
  show RN G M_X1_joinWith 0 [some (.ref v0), some (.ref v1)] [] σ (.inl none) σr
  unfold f_X1_joinWith at h
  refine RN_iconst (pc := 0) (n := 0) (v := 0) (by decide +kernel) (by decide) ?_
  refine RN_istore_n (pc := 1) (k := 2) (ls2 := [some (.ref v0), some (.ref v1), some (.int (0 : Int32))]) (by decide +kernel) rfl (by decide) rfl ?_
  exact RN_weak (l := [some (.ref v0), some (.ref v1), some (.int (0 : Int32))]) (And.intro rfl (And.intro rfl (And.intro rfl trivial))) (tb_X1_joinWith_2 v0 v1 n (0 : Int32) σ h)
def f_J9_max_7cf53 (v0 : Int32) (v1 : Int32) : Option Int32 :=
  if v0 < v1 then (
    some v1)
  else (
    some v0)
set_option maxRecDepth 20000 in
theorem t_J9_max_7cf53 {G : Gl} {xr : Int32} {v0 : Int32} {v1 : Int32} {σ : Sg} (h : f_J9_max_7cf53 v0 v1 = some xr) : MT G M_J9_max_7cf53 [.int v0, .int v1] σ (some (.int xr)) σ := by
  refine MT_ofF (by decide +kernel) rfl (Nat.le_of_ble_eq_true rfl) ?_
  show RN G M_J9_max_7cf53 0 [some (.int v0), some (.int v1)] [] σ (.inl (some (.int xr))) σ
  unfold f_J9_max_7cf53 at h
  refine RN_iload_n (pc := 0) (k := 0) (by decide +kernel) rfl rfl ?_
  refine RN_iload_n (pc := 1) (k := 1) (by decide +kernel) rfl rfl ?_
  refine RN_icmp_lt (pc := 2) (off := 7) (tgt := 9) (by decide +kernel) (by decide) (fun c1 => ?_) (fun c1 => ?_)
  · replace h := it_t c1 h
    refine RN_iload_n (pc := 9) (k := 1) (by decide +kernel) rfl rfl ?_
    obtain rfl := some_el h
    exact RN_ireturn (by decide +kernel) rfl
  · replace h := it_f c1 h
    refine RN_iload_n (pc := 5) (k := 0) (by decide +kernel) rfl rfl ?_
    refine RN_goto (pc := 6) (off := 4) (tgt := 10) (by decide +kernel) (by decide) ?_
    obtain rfl := some_el h
    exact RN_ireturn (by decide +kernel) rfl
def b_X1_greatest_105 (n : Nat) (v0 : Nat) (v2 : Int32) (σ : Sg) : Option (Int32 × Sg) :=
  ck (okO σ v0 1) <|
  if (gI σ v0 5) ≤ 0 then (
    some ((0 : Int32), σ))
  else (
    ck (¬ (gI σ v0 5) = 0) <|
    some (v2 / (gI σ v0 5), σ))
set_option maxRecDepth 20000 in
theorem tb_X1_greatest_105 {G : Gl} {xr : Int32} {σr : Sg} (n : Nat) (v0 : Nat) (v2 : Int32) (σ : Sg) (h : b_X1_greatest_105 n v0 v2 σ = some (xr, σr)) : RN G M_X1_greatest 105 [some (.ref v0), none, some (.int v2)] [] σ (.inl (some (.int xr))) σr := by
  unfold b_X1_greatest_105 at h
  refine RN_aload_n (pc := 105) (k := 0) (by decide +kernel) rfl rfl ?_
  obtain ⟨c53, h⟩ := ck_el h
  refine RN_getI (pc := 106) (idx := 28) (ci := 1) (k := 5) (by decide +kernel) lf_RX1_28 (Or.inl rfl) c53 ?_
  refine RN_if_le (pc := 109) (off := 12) (tgt := 121) (by decide +kernel) (by decide) (fun c54 => ?_) (fun c54 => ?_)
  · replace h := it_t c54 h
    refine RN_iconst (pc := 121) (n := 0) (v := 0) (by decide +kernel) (by decide) ?_
    obtain ⟨rfl, rfl⟩ := some_el2 h
    exact RN_ireturn (by decide +kernel) rfl
  · replace h := it_f c54 h
    refine RN_iload_n (pc := 112) (k := 2) (by decide +kernel) rfl rfl ?_
    refine RN_aload_n (pc := 113) (k := 0) (by decide +kernel) rfl rfl ?_
    refine RN_getI (pc := 114) (idx := 28) (ci := 1) (k := 5) (by decide +kernel) lf_RX1_28 (Or.inl rfl) c53 ?_
    obtain ⟨c55, h⟩ := ck_el h
    refine RN_idiv (pc := 117) (by decide +kernel) c55 ?_
    refine RN_goto (pc := 118) (off := 4) (tgt := 122) (by decide +kernel) (by decide) ?_
    obtain ⟨rfl, rfl⟩ := some_el2 h
    exact RN_ireturn (by decide +kernel) rfl
def b_X1_greatest_99 (k62 : Int32 → Int32 → Option (Int32 × Sg)) (n : Nat) (v0 : Nat) (v2 : Int32) (v3 : Int32) (σ : Sg) : Option (Int32 × Sg) :=
  nm (v3 + (1 : Int32)) fun x60 =>
  k62 v2 x60
set_option maxRecDepth 20000 in
theorem tb_X1_greatest_99 {G : Gl} {xr : Int32} {σr : Sg} (n : Nat) (v0 : Nat) (v2 : Int32) (v3 : Int32) (σ : Sg) (k62 : Int32 → Int32 → Option (Int32 × Sg)) (hk62 : ∀ (c2 : Int32) (c3 : Int32), k62 c2 c3 = some (xr, σr) → RN G M_X1_greatest 62 [some (.ref v0), none, some (.int c2), some (.int c3)] [] σ (.inl (some (.int xr))) σr) (h : b_X1_greatest_99 k62 n v0 v2 v3 σ = some (xr, σr)) : RN G M_X1_greatest 99 [some (.ref v0), none, some (.int v2), some (.int v3)] [] σ (.inl (some (.int xr))) σr := by
  unfold b_X1_greatest_99 at h
  obtain ⟨x60, ex60, h⟩ := nm_el h
  refine RN_iinc (pc := 99) (i := 3) (n := 1) (v := x60) (ls2 := [some (.ref v0), none, some (.int v2), some (.int x60)]) (by decide +kernel) rfl (by rw [ex60]; rfl) (by decide) rfl ?_
  refine RN_goto (pc := 102) (off := -40) (tgt := 62) (by decide +kernel) (by decide) ?_
  exact RN_weak (l := [some (.ref v0), none, some (.int v2), some (.int x60)]) (And.intro rfl (And.intro rfl (And.intro rfl trivial))) (hk62 v2 x60 h)
def b_X1_greatest_62 : Nat → Nat → Int32 → Int32 → Sg → Option (Int32 × Sg)
  | 0, _, _, _, _ => none
  | n + 1, v0, v2, v3, σ =>
  ck (okO σ v0 1) <|
  if (gI σ v0 4) ≤ v3 then (
    b_X1_greatest_105 n v0 v2 σ)
  else (
    ck (¬ gR σ v0 2 = 0) <|
    nm (gR σ v0 2) fun r57 =>
    ck (okA σ r57 13 v3) <|
    if (gI σ r57 v3.toNatClampNeg) = (-1000000 : Int32) then (
      b_X1_greatest_99 (fun c2 c3 => b_X1_greatest_62 n v0 c2 c3 σ) n v0 v2 v3 σ)
    else (
      nm (gR σ v0 2) fun r61 =>
      ck (okA σ r61 13 v3) <|
      ck (¬ gR σ v0 0 = 0) <|
      nm (gR σ v0 0) fun r64 =>
      ck (okA σ r64 13 v3) <|
      bp (f_J9_max_7cf53 v2 ((gI σ r61 v3.toNatClampNeg) - (gI σ r64 v3.toNatClampNeg))) fun x67 =>
      b_X1_greatest_99 (fun c2 c3 => b_X1_greatest_62 n v0 c2 c3 σ) n v0 x67 v3 σ))
set_option maxRecDepth 20000 in
theorem tb_X1_greatest_62 {G : Gl} {xr : Int32} {σr : Sg} (v0 : Nat) (σ : Sg) : ∀ (n : Nat) (v2 : Int32) (v3 : Int32), b_X1_greatest_62 n v0 v2 v3 σ = some (xr, σr) → RN G M_X1_greatest 62 [some (.ref v0), none, some (.int v2), some (.int v3)] [] σ (.inl (some (.int xr))) σr := by
  intro n
  induction n with
  | zero =>
    intro v2 v3 h
    exact none_el h
  | succ n ih =>
    intro v2 v3 h
    rw [b_X1_greatest_62] at h
    refine RN_iload_n (pc := 62) (k := 3) (by decide +kernel) rfl rfl ?_
    refine RN_aload_n (pc := 63) (k := 0) (by decide +kernel) rfl rfl ?_
    obtain ⟨c51, h⟩ := ck_el h
    refine RN_getI (pc := 64) (idx := 24) (ci := 1) (k := 4) (by decide +kernel) lf_RX1_24 (Or.inl rfl) c51 ?_
    refine RN_icmp_ge (pc := 67) (off := 38) (tgt := 105) (by decide +kernel) (by decide) (fun c52 => ?_) (fun c52 => ?_)
    · replace h := it_t c52 h
      exact RN_weak (l := [some (.ref v0), none, some (.int v2)]) (And.intro rfl (And.intro rfl trivial)) (tb_X1_greatest_105 n v0 v2 σ h)
    · replace h := it_f c52 h
      refine RN_aload_n (pc := 70) (k := 0) (by decide +kernel) rfl rfl ?_
      obtain ⟨c56, h⟩ := ck_el h
      refine RN_getR (pc := 71) (idx := 18) (ci := 1) (k := 2) (by decide +kernel) lf_RX1_18 rfl c51 c56 ?_
      obtain ⟨r57, er57, h⟩ := nm_el h
      refine RN_nmR er57 ?_
      refine RN_iload_n (pc := 74) (k := 3) (by decide +kernel) rfl rfl ?_
      obtain ⟨c58, h⟩ := ck_el h
      refine RN_iald (pc := 75) (by decide +kernel) c58 ?_
      refine RN_ldc (pc := 76) (idx := 37) (v := -1000000) (by decide +kernel) kc_RX1_37 ?_
      refine RN_icmp_eq (pc := 78) (off := 21) (tgt := 99) (by decide +kernel) (by decide) (fun c59 => ?_) (fun c59 => ?_)
      · replace h := it_t c59 h
        exact RN_weak (l := [some (.ref v0), none, some (.int v2), some (.int v3)]) (And.intro rfl (And.intro rfl (And.intro rfl trivial))) (tb_X1_greatest_99 n v0 v2 v3 σ _ (fun c2 c3 h => ih c2 c3 h) h)
      · replace h := it_f c59 h
        refine RN_iload_n (pc := 81) (k := 2) (by decide +kernel) rfl rfl ?_
        refine RN_aload_n (pc := 82) (k := 0) (by decide +kernel) rfl rfl ?_
        refine RN_getR (pc := 83) (idx := 18) (ci := 1) (k := 2) (by decide +kernel) lf_RX1_18 rfl c51 c56 ?_
        obtain ⟨r61, er61, h⟩ := nm_el h
        refine RN_nmR er61 ?_
        refine RN_iload_n (pc := 86) (k := 3) (by decide +kernel) rfl rfl ?_
        obtain ⟨c62, h⟩ := ck_el h
        refine RN_iald (pc := 87) (by decide +kernel) c62 ?_
        refine RN_aload_n (pc := 88) (k := 0) (by decide +kernel) rfl rfl ?_
        obtain ⟨c63, h⟩ := ck_el h
        refine RN_getR (pc := 89) (idx := 9) (ci := 1) (k := 0) (by decide +kernel) lf_RX1_9 rfl c51 c63 ?_
        obtain ⟨r64, er64, h⟩ := nm_el h
        refine RN_nmR er64 ?_
        refine RN_iload_n (pc := 92) (k := 3) (by decide +kernel) rfl rfl ?_
        obtain ⟨c65, h⟩ := ck_el h
        refine RN_iald (pc := 93) (by decide +kernel) c65 ?_
        refine RN_isub (pc := 94) (by decide +kernel) ?_
        obtain ⟨x67, f66, h⟩ := bp_el h
        refine RN_callS (M := M_X1_greatest) (pc := 95) (idx := 54) (as := [.int v2, .int ((gI σ r61 v3.toNatClampNeg) - (gI σ r64 v3.toNatClampNeg))]) (st := []) (t_J9_max_7cf53 f66) (by decide +kernel) lk_RX1_54 rfl (Nat.le_of_ble_eq_true rfl) ⟨Nat.le_of_ble_eq_true rfl, Nat.le_of_ble_eq_true rfl⟩ rfl ?_
        show RN G M_X1_greatest 98 [some (.ref v0), none, some (.int v2), some (.int v3)] [.int x67] σ _ _
        refine RN_istore_n (pc := 98) (k := 2) (ls2 := [some (.ref v0), none, some (.int x67), some (.int v3)]) (by decide +kernel) rfl (by decide) rfl ?_
        exact RN_weak (l := [some (.ref v0), none, some (.int x67), some (.int v3)]) (And.intro rfl (And.intro rfl (And.intro rfl trivial))) (tb_X1_greatest_99 n v0 x67 v3 σ _ (fun c2 c3 h => ih c2 c3 h) h)
def b_X1_greatest_57 (n : Nat) (v0 : Nat) (σ : Sg) : Option (Int32 × Sg) :=
  b_X1_greatest_62 n v0 (-1000000 : Int32) (0 : Int32) σ
set_option maxRecDepth 20000 in
theorem tb_X1_greatest_57 {G : Gl} {xr : Int32} {σr : Sg} (n : Nat) (v0 : Nat) (σ : Sg) (h : b_X1_greatest_57 n v0 σ = some (xr, σr)) : RN G M_X1_greatest 57 [some (.ref v0)] [] σ (.inl (some (.int xr))) σr := by
  unfold b_X1_greatest_57 at h
  refine RN_ldc (pc := 57) (idx := 37) (v := -1000000) (by decide +kernel) kc_RX1_37 ?_
  refine RN_istore_n (pc := 59) (k := 2) (ls2 := [some (.ref v0), none, some (.int (-1000000 : Int32))]) (by decide +kernel) rfl (by decide) rfl ?_
  refine RN_iconst (pc := 60) (n := 0) (v := 0) (by decide +kernel) (by decide) ?_
  refine RN_istore_n (pc := 61) (k := 3) (ls2 := [some (.ref v0), none, some (.int (-1000000 : Int32)), some (.int (0 : Int32))]) (by decide +kernel) rfl (by decide) rfl ?_
  exact RN_weak (l := [some (.ref v0), none, some (.int (-1000000 : Int32)), some (.int (0 : Int32))]) (And.intro rfl (And.intro rfl (And.intro rfl trivial))) (tb_X1_greatest_62 v0 σ n (-1000000 : Int32) (0 : Int32) h)
def b_X1_greatest_50 (k24 : Int32 → Sg → Option (Int32 × Sg)) (n : Nat) (v0 : Nat) (v1 : Int32) (v2 : Int32) (σ : Sg) : Option (Int32 × Sg) :=
  nm (v2 >>> ((1 : Int32) &&& 31)) fun x74 =>
  k24 x74 σ
set_option maxRecDepth 20000 in
theorem tb_X1_greatest_50 {G : Gl} {xr : Int32} {σr : Sg} (n : Nat) (v0 : Nat) (v1 : Int32) (v2 : Int32) (σ : Sg) (k24 : Int32 → Sg → Option (Int32 × Sg)) (hk24 : ∀ (c2 : Int32) (τ : Sg), k24 c2 τ = some (xr, σr) → RN G M_X1_greatest 24 [some (.ref v0), some (.int v1), some (.int c2)] [] τ (.inl (some (.int xr))) σr) (h : b_X1_greatest_50 k24 n v0 v1 v2 σ = some (xr, σr)) : RN G M_X1_greatest 50 [some (.ref v0), some (.int v1), some (.int v2)] [] σ (.inl (some (.int xr))) σr := by
  unfold b_X1_greatest_50 at h
  refine RN_iload_n (pc := 50) (k := 2) (by decide +kernel) rfl rfl ?_
  refine RN_iconst (pc := 51) (n := 1) (v := 1) (by decide +kernel) (by decide) ?_
  refine RN_ishr (pc := 52) (by decide +kernel) ?_
  obtain ⟨x74, ex74, h⟩ := nm_el h
  refine RN_nmI ex74 ?_
  refine RN_istore_n (pc := 53) (k := 2) (ls2 := [some (.ref v0), some (.int v1), some (.int x74)]) (by decide +kernel) rfl (by decide) rfl ?_
  refine RN_goto (pc := 54) (off := -30) (tgt := 24) (by decide +kernel) (by decide) ?_
  exact RN_weak (l := [some (.ref v0), some (.int v1), some (.int x74)]) (And.intro rfl (And.intro rfl (And.intro rfl trivial))) (hk24 x74 σ h)
def b_X1_greatest_24 : Nat → Nat → Int32 → Int32 → Sg → Option (Int32 × Sg)
  | 0, _, _, _, _ => none
  | n + 1, v0, v1, v2, σ =>
  if v2 ≤ 0 then (
    b_X1_greatest_57 n v0 σ)
  else (
    ck (okO σ v0 1) <|
    ck (¬ gR σ v0 2 = 0) <|
    nm (gR σ v0 2) fun r70 =>
    bp (f_X1_joinWith n v0 r70 σ) fun σ72 =>
    if (v1 &&& v2) = 0 then (
      b_X1_greatest_50 (fun c2 τ => b_X1_greatest_24 n v0 v1 c2 τ) n v0 v1 v2 σ72)
    else (
      ck (okO σ72 v0 1) <|
      ck (¬ gR σ72 v0 1 = 0) <|
      nm (gR σ72 v0 1) fun r77 =>
      bp (f_X1_joinWith n v0 r77 σ72) fun σ79 =>
      b_X1_greatest_50 (fun c2 τ => b_X1_greatest_24 n v0 v1 c2 τ) n v0 v1 v2 σ79))
set_option maxRecDepth 20000 in
theorem tb_X1_greatest_24 {G : Gl} {xr : Int32} {σr : Sg} (v0 : Nat) (v1 : Int32) : ∀ (n : Nat) (v2 : Int32) (σ : Sg), b_X1_greatest_24 n v0 v1 v2 σ = some (xr, σr) → RN G M_X1_greatest 24 [some (.ref v0), some (.int v1), some (.int v2)] [] σ (.inl (some (.int xr))) σr := by
  intro n
  induction n with
  | zero =>
    intro v2 σ h
    exact none_el h
  | succ n ih =>
    intro v2 σ h
    rw [b_X1_greatest_24] at h
    refine RN_iload_n (pc := 24) (k := 2) (by decide +kernel) rfl rfl ?_
    refine RN_if_le (pc := 25) (off := 32) (tgt := 57) (by decide +kernel) (by decide) (fun c50 => ?_) (fun c50 => ?_)
    · replace h := it_t c50 h
      exact RN_weak (l := [some (.ref v0)]) (And.intro rfl trivial) (tb_X1_greatest_57 n v0 σ h)
    · replace h := it_f c50 h
      refine RN_aload_n (pc := 28) (k := 0) (by decide +kernel) rfl rfl ?_
      refine RN_aload_n (pc := 29) (k := 0) (by decide +kernel) rfl rfl ?_
      obtain ⟨c68, h⟩ := ck_el h
      obtain ⟨c69, h⟩ := ck_el h
      refine RN_getR (pc := 30) (idx := 18) (ci := 1) (k := 2) (by decide +kernel) lf_RX1_18 rfl c68 c69 ?_
      obtain ⟨r70, er70, h⟩ := nm_el h
      refine RN_nmR er70 ?_
      obtain ⟨σ72, f71, h⟩ := bp_el h
      refine RN_callV (M := M_X1_greatest) (pc := 33) (idx := 50) (as := [.ref r70]) (st := []) (t_X1_joinWith f71) (by decide +kernel) lk_RX1_50 rfl ⟨by decide, fun q hq => by cases hq; rfl⟩ c68 (Nat.le_of_ble_eq_true rfl) ⟨Nat.le_of_ble_eq_true rfl, Nat.le_of_ble_eq_true rfl⟩ rfl ?_
      show RN G M_X1_greatest 36 [some (.ref v0), some (.int v1), some (.int v2)] [] σ72 _ _
      refine RN_iload_n (pc := 36) (k := 1) (by decide +kernel) rfl rfl ?_
      refine RN_iload_n (pc := 37) (k := 2) (by decide +kernel) rfl rfl ?_
      refine RN_iand (pc := 38) (by decide +kernel) ?_
      refine RN_if_eq (pc := 39) (off := 11) (tgt := 50) (by decide +kernel) (by decide) (fun c73 => ?_) (fun c73 => ?_)
      · replace h := it_t c73 h
        exact RN_weak (l := [some (.ref v0), some (.int v1), some (.int v2)]) (And.intro rfl (And.intro rfl (And.intro rfl trivial))) (tb_X1_greatest_50 n v0 v1 v2 σ72 _ (fun c2 τ h => ih c2 τ h) h)
      · replace h := it_f c73 h
        refine RN_aload_n (pc := 42) (k := 0) (by decide +kernel) rfl rfl ?_
        refine RN_aload_n (pc := 43) (k := 0) (by decide +kernel) rfl rfl ?_
        obtain ⟨c75, h⟩ := ck_el h
        obtain ⟨c76, h⟩ := ck_el h
        refine RN_getR (pc := 44) (idx := 15) (ci := 1) (k := 1) (by decide +kernel) lf_RX1_15 rfl c75 c76 ?_
        obtain ⟨r77, er77, h⟩ := nm_el h
        refine RN_nmR er77 ?_
        obtain ⟨σ79, f78, h⟩ := bp_el h
        refine RN_callV (M := M_X1_greatest) (pc := 47) (idx := 50) (as := [.ref r77]) (st := []) (t_X1_joinWith f78) (by decide +kernel) lk_RX1_50 rfl ⟨by decide, fun q hq => by cases hq; rfl⟩ c75 (Nat.le_of_ble_eq_true rfl) ⟨Nat.le_of_ble_eq_true rfl, Nat.le_of_ble_eq_true rfl⟩ rfl ?_
        show RN G M_X1_greatest 50 [some (.ref v0), some (.int v1), some (.int v2)] [] σ79 _ _
        exact RN_weak (l := [some (.ref v0), some (.int v1), some (.int v2)]) (And.intro rfl (And.intro rfl (And.intro rfl trivial))) (tb_X1_greatest_50 n v0 v1 v2 σ79 _ (fun c2 τ h => ih c2 τ h) h)
def f_X1_greatest (n : Nat) (v0 : Nat) (v1 : Int32) (σ : Sg) : Option (Int32 × Sg) :=
  ck (okO σ v0 1) <|
  ck (¬ gR σ v0 1 = 0) <|
  nm (gR σ v0 1) fun r42 =>
  ck (¬ gR σ v0 2 = 0) <|
  nm (gR σ v0 2) fun r44 =>
  ck (okC σ 13 r42 (0 : Int32) r44 (0 : Int32) (gI σ v0 4)) <|
  nm (cpI σ r42 (0 : Int32).toNatClampNeg r44 (0 : Int32).toNatClampNeg (gI σ v0 4).toNatClampNeg) fun σ46 =>
  bp (f_J6_highestOneBit_0f7a4 v1) fun x48 =>
  nm (x48 >>> ((1 : Int32) &&& 31)) fun x49 =>
  b_X1_greatest_24 n v0 v1 x49 σ46
set_option maxRecDepth 20000 in
theorem t_X1_greatest {G : Gl} {xr : Int32} {σr : Sg} {n : Nat} {v0 : Nat} {v1 : Int32} {σ : Sg} (h : f_X1_greatest n v0 v1 σ = some (xr, σr)) : MT G M_X1_greatest [.ref v0, .int v1] σ (some (.int xr)) σr := by
  refine MT_of rfl rfl (Nat.le_of_ble_eq_true rfl) ?_
  show RN G M_X1_greatest 0 [some (.ref v0), some (.int v1)] [] σ (.inl (some (.int xr))) σr
  unfold f_X1_greatest at h
  refine RN_aload_n (pc := 0) (k := 0) (by decide +kernel) rfl rfl ?_
  obtain ⟨c40, h⟩ := ck_el h
  obtain ⟨c41, h⟩ := ck_el h
  refine RN_getR (pc := 1) (idx := 15) (ci := 1) (k := 1) (by decide +kernel) lf_RX1_15 rfl c40 c41 ?_
  obtain ⟨r42, er42, h⟩ := nm_el h
  refine RN_nmR er42 ?_
  refine RN_iconst (pc := 4) (n := 0) (v := 0) (by decide +kernel) (by decide) ?_
  refine RN_aload_n (pc := 5) (k := 0) (by decide +kernel) rfl rfl ?_
  obtain ⟨c43, h⟩ := ck_el h
  refine RN_getR (pc := 6) (idx := 18) (ci := 1) (k := 2) (by decide +kernel) lf_RX1_18 rfl c40 c43 ?_
  obtain ⟨r44, er44, h⟩ := nm_el h
  refine RN_nmR er44 ?_
  refine RN_iconst (pc := 9) (n := 0) (v := 0) (by decide +kernel) (by decide) ?_
  refine RN_aload_n (pc := 10) (k := 0) (by decide +kernel) rfl rfl ?_
  refine RN_getI (pc := 11) (idx := 24) (ci := 1) (k := 4) (by decide +kernel) lf_RX1_24 (Or.inl rfl) c40 ?_
  obtain ⟨c45, h⟩ := ck_el h
  refine RN_copyI (pc := 14) (idx := 38) (by decide +kernel) na_RX1_38 na_cp_n na_cp_s na_sys (by decide) (by decide) (Nat.le_of_ble_eq_true rfl) c45 ?_
  obtain ⟨σ46, eσ46, h⟩ := nm_el h
  refine RN_nmS eσ46 ?_
  refine RN_iload_n (pc := 17) (k := 1) (by decide +kernel) rfl rfl ?_
  obtain ⟨x48, f47, h⟩ := bp_el h
  refine RN_callS (M := M_X1_greatest) (pc := 18) (idx := 44) (as := [.int v1]) (st := []) (t_J6_highestOneBit_0f7a4 f47) (by decide +kernel) lk_RX1_44 rfl (Nat.le_of_ble_eq_true rfl) ⟨Nat.le_of_ble_eq_true rfl, Nat.le_of_ble_eq_true rfl⟩ rfl ?_
  show RN G M_X1_greatest 21 [some (.ref v0), some (.int v1)] [.int x48] σ46 _ _
  refine RN_iconst (pc := 21) (n := 1) (v := 1) (by decide +kernel) (by decide) ?_
  refine RN_ishr (pc := 22) (by decide +kernel) ?_
  obtain ⟨x49, ex49, h⟩ := nm_el h
  refine RN_nmI ex49 ?_
  refine RN_istore_n (pc := 23) (k := 2) (ls2 := [some (.ref v0), some (.int v1), some (.int x49)]) (by decide +kernel) rfl (by decide) rfl ?_
  exact RN_weak (l := [some (.ref v0), some (.int v1), some (.int x49)]) (And.intro rfl (And.intro rfl (And.intro rfl trivial))) (tb_X1_greatest_24 v0 v1 n x49 σ46 h)
def f_X4_init (v0 : Nat) (σ : Sg) : Option Sg :=
  nm (sN σ) fun r6 =>
  nm (nw σ 14 8) fun σ7 =>
  ck (okO σ7 v0 3) <|
  ck (¬ r6 = 0) <|
  nm (pR σ7 v0 0 r6) fun σ10 =>
  some σ10
set_option maxRecDepth 20000 in
theorem t_X4_init {G : Gl} {σr : Sg} {v0 : Nat} {σ : Sg} (h : f_X4_init v0 σ = some σr) : MT G M_X4_init [.ref v0] σ none σr := by
  refine MT_of rfl rfl (Nat.le_of_ble_eq_true rfl) ?_
  show RN G M_X4_init 0 [some (.ref v0)] [] σ (.inl none) σr
  unfold f_X4_init at h
  refine RN_aload_n (pc := 0) (k := 0) (by decide +kernel) rfl rfl ?_
  refine RN_objInit (pc := 1) (idx := 3) (by decide +kernel) oi_RX4_3 oi_b oi_c (by decide) (by decide) (Nat.le_of_ble_eq_true rfl) ?_
  refine RN_aload_n (pc := 4) (k := 0) (by decide +kernel) rfl rfl ?_
  refine RN_bipush (pc := 5) (n := 8) (v := 8) (by decide +kernel) (by decide) ?_
  refine RN_newa (pc := 7) (atype := .long) (N := 8) (t := 14) (by decide +kernel) ⟨by decide, by decide, rfl⟩ ac_14 (by decide) (by decide) (by decide) ?_
  obtain ⟨r6, er6, h⟩ := nm_el h
  refine RN_nmR er6 ?_
  obtain ⟨σ7, eσ7, h⟩ := nm_el h
  refine RN_nmS eσ7 ?_
  obtain ⟨c8, h⟩ := ck_el h
  obtain ⟨c9, h⟩ := ck_el h
  refine RN_putR (pc := 9) (idx := 9) (ci := 3) (k := 0) (by decide +kernel) lf_RX4_9 rfl (fun q hq => by cases hq; exact Or.inr ⟨rfl, rfl, rfl⟩) c9 c8 ?_
  obtain ⟨σ10, eσ10, h⟩ := nm_el h
  refine RN_nmS eσ10 ?_
  obtain rfl := some_el h
  exact RN_return (by decide +kernel) rfl
