def b_X12_floats_45 : Nat → Nat → Int32 → Int32 → Int32 → Sg → Option Sg
  | 0, _, _, _, _, _ => none
  | n + 1, v0, v1, v2, v3, σ =>
  ck (okO σ v0 11) <|
  ck (¬ gR σ v0 8 = 0) <|
  nm (gR σ v0 8) fun r32 =>
  ck (okA σ r32 13 v1) <|
  if (gI σ r32 v1.toNatClampNeg) ≤ v3 then (
    some σ)
  else (
    bp (f_X12_doesF n v0 (((20 : Int32) * v1) + v3) (FP.i2d v2) σ) fun σ36 =>
    nm (v3 + (1 : Int32)) fun x37 =>
    b_X12_floats_45 n v0 v1 v2 x37 σ36)
set_option maxRecDepth 20000 in
theorem tb_X12_floats_45 {G : Gl} {σr : Sg} (v0 : Nat) (v1 : Int32) (v2 : Int32) : ∀ (n : Nat) (v3 : Int32) (σ : Sg), b_X12_floats_45 n v0 v1 v2 v3 σ = some σr → RN G M_X12_floats 45 [some (.ref v0), some (.int v1), some (.int v2), some (.int v3)] [] σ (.inl none) σr := by
  intro n
  induction n with
  | zero =>
    intro v3 σ h
    exact none_el h
  | succ n ih =>
    intro v3 σ h
    rw [b_X12_floats_45] at h
    refine RN_iload_n (pc := 45) (k := 3) (by decide +kernel) rfl rfl ?_
    refine RN_aload_n (pc := 46) (k := 0) (by decide +kernel) rfl rfl ?_
    obtain ⟨c30, h⟩ := ck_el h
    obtain ⟨c31, h⟩ := ck_el h
    refine RN_getR (pc := 47) (idx := 25) (ci := 11) (k := 8) (by decide +kernel) lf_RX12_25 rfl c30 c31 ?_
    obtain ⟨r32, er32, h⟩ := nm_el h
    refine RN_nmR er32 ?_
    refine RN_iload_n (pc := 50) (k := 1) (by decide +kernel) rfl rfl ?_
    obtain ⟨c33, h⟩ := ck_el h
    refine RN_iald (pc := 51) (by decide +kernel) c33 ?_
    refine RN_icmp_ge (pc := 52) (off := 21) (tgt := 73) (by decide +kernel) (by decide) (fun c34 => ?_) (fun c34 => ?_)
    · replace h := it_t c34 h
      obtain rfl := some_el h
      exact RN_return (by decide +kernel) rfl
    · replace h := it_f c34 h
      refine RN_aload_n (pc := 55) (k := 0) (by decide +kernel) rfl rfl ?_
      refine RN_bipush (pc := 56) (n := 20) (v := 20) (by decide +kernel) (by decide) ?_
      refine RN_iload_n (pc := 58) (k := 1) (by decide +kernel) rfl rfl ?_
      refine RN_imul (pc := 59) (by decide +kernel) ?_
      refine RN_iload_n (pc := 60) (k := 3) (by decide +kernel) rfl rfl ?_
      refine RN_iadd (pc := 61) (by decide +kernel) ?_
      refine RN_iload_n (pc := 62) (k := 2) (by decide +kernel) rfl rfl ?_
      refine RN_i2d (pc := 63) (by decide +kernel) ?_
      obtain ⟨σ36, f35, h⟩ := bp_el h
      refine RN_callV (M := M_X12_floats) (pc := 64) (idx := 344) (as := [.int (((20 : Int32) * v1) + v3), .double (FP.i2d v2)]) (st := []) (t_X12_doesF f35) (by decide +kernel) lk_RX12_344 rfl ⟨by decide, fun q hq => by cases hq; rfl⟩ c30 (Nat.le_of_ble_eq_true rfl) ⟨Nat.le_of_ble_eq_true rfl, Nat.le_of_ble_eq_true rfl⟩ rfl ?_
      show RN G M_X12_floats 67 [some (.ref v0), some (.int v1), some (.int v2), some (.int v3)] [] σ36 _ _
      obtain ⟨x37, ex37, h⟩ := nm_el h
      refine RN_iinc (pc := 67) (i := 3) (n := 1) (v := x37) (ls2 := [some (.ref v0), some (.int v1), some (.int v2), some (.int x37)]) (by decide +kernel) rfl (by rw [ex37]; rfl) (by decide) rfl ?_
      refine RN_goto (pc := 70) (off := -25) (tgt := 45) (by decide +kernel) (by decide) ?_
      exact RN_weak (l := [some (.ref v0), some (.int v1), some (.int v2), some (.int x37)]) (And.intro rfl (And.intro rfl (And.intro rfl (And.intro rfl trivial)))) (ih x37 σ36 h)
def b_X12_floats_43 (n : Nat) (v0 : Nat) (v1 : Int32) (v2 : Int32) (σ : Sg) : Option Sg :=
  b_X12_floats_45 n v0 v1 v2 (0 : Int32) σ
set_option maxRecDepth 20000 in
theorem tb_X12_floats_43 {G : Gl} {σr : Sg} (n : Nat) (v0 : Nat) (v1 : Int32) (v2 : Int32) (σ : Sg) (h : b_X12_floats_43 n v0 v1 v2 σ = some σr) : RN G M_X12_floats 43 [some (.ref v0), some (.int v1), some (.int v2)] [] σ (.inl none) σr := by
  unfold b_X12_floats_43 at h
  refine RN_iconst (pc := 43) (n := 0) (v := 0) (by decide +kernel) (by decide) ?_
  refine RN_istore_n (pc := 44) (k := 3) (ls2 := [some (.ref v0), some (.int v1), some (.int v2), some (.int (0 : Int32))]) (by decide +kernel) rfl (by decide) rfl ?_
  exact RN_weak (l := [some (.ref v0), some (.int v1), some (.int v2), some (.int (0 : Int32))]) (And.intro rfl (And.intro rfl (And.intro rfl (And.intro rfl trivial)))) (tb_X12_floats_45 v0 v1 v2 n (0 : Int32) σ h)
def b_X12_floats_7 : Nat → Nat → Int32 → Int32 → Int32 → Sg → Option Sg
  | 0, _, _, _, _, _ => none
  | n + 1, v0, v1, v2, v3, σ =>
  if (8 : Int32) ≤ v3 then (
    b_X12_floats_43 n v0 v1 v2 σ)
  else (
    ck (okO σ v0 11) <|
    ck (¬ gR σ v0 43 = 0) <|
    nm (gR σ v0 43) fun r40 =>
    ck (okW σ r40 12 v3) <|
    nm (pD σ r40 v3.toNatClampNeg (FP.dconst0)) fun σ42 =>
    ck (okO σ42 v0 11) <|
    ck (¬ gR σ42 v0 44 = 0) <|
    nm (gR σ42 v0 44) fun r45 =>
    ck (okW σ42 r45 12 v3) <|
    nm (pD σ42 r45 v3.toNatClampNeg (FP.dconst0)) fun σ47 =>
    ck (okO σ47 v0 11) <|
    ck (¬ gR σ47 v0 23 = 0) <|
    nm (gR σ47 v0 23) fun r50 =>
    ck (okW σ47 r50 14 ((8 : Int32) + v3)) <|
    nm (pJ σ47 r50 ((8 : Int32) + v3).toNatClampNeg (0 : Int64)) fun σ52 =>
    nm (v3 + (1 : Int32)) fun x53 =>
    b_X12_floats_7 n v0 v1 v2 x53 σ52)
set_option maxRecDepth 20000 in
theorem tb_X12_floats_7 {G : Gl} {σr : Sg} (v0 : Nat) (v1 : Int32) (v2 : Int32) : ∀ (n : Nat) (v3 : Int32) (σ : Sg), b_X12_floats_7 n v0 v1 v2 v3 σ = some σr → RN G M_X12_floats 7 [some (.ref v0), some (.int v1), some (.int v2), some (.int v3)] [] σ (.inl none) σr := by
  intro n
  induction n with
  | zero =>
    intro v3 σ h
    exact none_el h
  | succ n ih =>
    intro v3 σ h
    rw [b_X12_floats_7] at h
    refine RN_iload_n (pc := 7) (k := 3) (by decide +kernel) rfl rfl ?_
    refine RN_bipush (pc := 8) (n := 8) (v := 8) (by decide +kernel) (by decide) ?_
    refine RN_icmp_ge (pc := 10) (off := 33) (tgt := 43) (by decide +kernel) (by decide) (fun c29 => ?_) (fun c29 => ?_)
    · replace h := it_t c29 h
      exact RN_weak (l := [some (.ref v0), some (.int v1), some (.int v2)]) (And.intro rfl (And.intro rfl (And.intro rfl trivial))) (tb_X12_floats_43 n v0 v1 v2 σ h)
    · replace h := it_f c29 h
      refine RN_aload_n (pc := 13) (k := 0) (by decide +kernel) rfl rfl ?_
      obtain ⟨c38, h⟩ := ck_el h
      obtain ⟨c39, h⟩ := ck_el h
      refine RN_getR (pc := 14) (idx := 103) (ci := 11) (k := 43) (by decide +kernel) lf_RX12_103 rfl c38 c39 ?_
      obtain ⟨r40, er40, h⟩ := nm_el h
      refine RN_nmR er40 ?_
      refine RN_iload_n (pc := 17) (k := 3) (by decide +kernel) rfl rfl ?_
      refine RN_dconst0 (pc := 18) (by decide +kernel) ?_
      obtain ⟨c41, h⟩ := ck_el h
      refine RN_dast (pc := 19) (by decide +kernel) c41 ?_
      obtain ⟨σ42, eσ42, h⟩ := nm_el h
      refine RN_nmS eσ42 ?_
      refine RN_aload_n (pc := 20) (k := 0) (by decide +kernel) rfl rfl ?_
      obtain ⟨c43, h⟩ := ck_el h
      obtain ⟨c44, h⟩ := ck_el h
      refine RN_getR (pc := 21) (idx := 107) (ci := 11) (k := 44) (by decide +kernel) lf_RX12_107 rfl c43 c44 ?_
      obtain ⟨r45, er45, h⟩ := nm_el h
      refine RN_nmR er45 ?_
      refine RN_iload_n (pc := 24) (k := 3) (by decide +kernel) rfl rfl ?_
      refine RN_dconst0 (pc := 25) (by decide +kernel) ?_
      obtain ⟨c46, h⟩ := ck_el h
      refine RN_dast (pc := 26) (by decide +kernel) c46 ?_
      obtain ⟨σ47, eσ47, h⟩ := nm_el h
      refine RN_nmS eσ47 ?_
      refine RN_aload_n (pc := 27) (k := 0) (by decide +kernel) rfl rfl ?_
      obtain ⟨c48, h⟩ := ck_el h
      obtain ⟨c49, h⟩ := ck_el h
      refine RN_getR (pc := 28) (idx := 60) (ci := 11) (k := 23) (by decide +kernel) lf_RX12_60 rfl c48 c49 ?_
      obtain ⟨r50, er50, h⟩ := nm_el h
      refine RN_nmR er50 ?_
      refine RN_bipush (pc := 31) (n := 8) (v := 8) (by decide +kernel) (by decide) ?_
      refine RN_iload_n (pc := 33) (k := 3) (by decide +kernel) rfl rfl ?_
      refine RN_iadd (pc := 34) (by decide +kernel) ?_
      refine RN_lconst (pc := 35) (n := 0) (v := 0) (by decide +kernel) (by decide) ?_
      obtain ⟨c51, h⟩ := ck_el h
      refine RN_last (pc := 36) (by decide +kernel) c51 ?_
      obtain ⟨σ52, eσ52, h⟩ := nm_el h
      refine RN_nmS eσ52 ?_
      obtain ⟨x53, ex53, h⟩ := nm_el h
      refine RN_iinc (pc := 37) (i := 3) (n := 1) (v := x53) (ls2 := [some (.ref v0), some (.int v1), some (.int v2), some (.int x53)]) (by decide +kernel) rfl (by rw [ex53]; rfl) (by decide) rfl ?_
      refine RN_goto (pc := 40) (off := -33) (tgt := 7) (by decide +kernel) (by decide) ?_
      exact RN_weak (l := [some (.ref v0), some (.int v1), some (.int v2), some (.int x53)]) (And.intro rfl (And.intro rfl (And.intro rfl (And.intro rfl trivial)))) (ih x53 σ52 h)
def f_X12_floats (n : Nat) (v0 : Nat) (v1 : Int32) (v2 : Int32) (σ : Sg) : Option Sg :=
  ck (okO σ v0 11) <|
  nm (pD σ v0 45 (FP.dconst0)) fun σ28 =>
  b_X12_floats_7 n v0 v1 v2 (0 : Int32) σ28
set_option maxRecDepth 20000 in
theorem t_X12_floats {G : Gl} {σr : Sg} {n : Nat} {v0 : Nat} {v1 : Int32} {v2 : Int32} {σ : Sg} (h : f_X12_floats n v0 v1 v2 σ = some σr) : MT G M_X12_floats [.ref v0, .int v1, .int v2] σ none σr := by
  refine MT_of rfl rfl (Nat.le_of_ble_eq_true rfl) ?_
  show RN G M_X12_floats 0 [some (.ref v0), some (.int v1), some (.int v2)] [] σ (.inl none) σr
  unfold f_X12_floats at h
  refine RN_aload_n (pc := 0) (k := 0) (by decide +kernel) rfl rfl ?_
  refine RN_dconst0 (pc := 1) (by decide +kernel) ?_
  obtain ⟨c27, h⟩ := ck_el h
  refine RN_putD (pc := 2) (idx := 332) (ci := 11) (k := 45) (by decide +kernel) lf_RX12_332 rfl (fun q hq => by cases hq; exact Or.inl rfl) c27 ?_
  obtain ⟨σ28, eσ28, h⟩ := nm_el h
  refine RN_nmS eσ28 ?_
  refine RN_iconst (pc := 5) (n := 0) (v := 0) (by decide +kernel) (by decide) ?_
  refine RN_istore_n (pc := 6) (k := 3) (ls2 := [some (.ref v0), some (.int v1), some (.int v2), some (.int (0 : Int32))]) (by decide +kernel) rfl (by decide) rfl ?_
  exact RN_weak (l := [some (.ref v0), some (.int v1), some (.int v2), some (.int (0 : Int32))]) (And.intro rfl (And.intro rfl (And.intro rfl (And.intro rfl trivial)))) (tb_X12_floats_7 v0 v1 v2 n (0 : Int32) σ28 h)
def b_X12_breaks_98 (n : Nat) (σ : Sg) : Option (Int32 × Sg) :=
  some ((0 : Int32), σ)
set_option maxRecDepth 20000 in
theorem tb_X12_breaks_98 {G : Gl} {xr : Int32} {σr : Sg} (n : Nat) (σ : Sg) (h : b_X12_breaks_98 n σ = some (xr, σr)) : RN G M_X12_breaks 98 [] [] σ (.inl (some (.int xr))) σr := by
  unfold b_X12_breaks_98 at h
  refine RN_iconst (pc := 98) (n := 0) (v := 0) (by decide +kernel) (by decide) ?_
  obtain ⟨rfl, rfl⟩ := some_el2 h
  exact RN_zreturn (by decide +kernel) rfl (Or.inl rfl)
def b_X12_breaks_82 (n : Nat) (v5 : Int32) (v6 : Int64) (σ : Sg) : Option (Int32 × Sg) :=
  if v5 = 0 then (
    if v6 = (0 : Int64) then (
      b_X12_breaks_98 n σ)
    else (
      some ((1 : Int32), σ)))
  else (
    b_X12_breaks_98 n σ)
set_option maxRecDepth 20000 in
theorem tb_X12_breaks_82 {G : Gl} {xr : Int32} {σr : Sg} (n : Nat) (v5 : Int32) (v6 : Int64) (σ : Sg) (h : b_X12_breaks_82 n v5 v6 σ = some (xr, σr)) : RN G M_X12_breaks 82 [none, none, none, none, none, some (.int v5), some (.long v6)] [] σ (.inl (some (.int xr))) σr := by
  unfold b_X12_breaks_82 at h
  refine RN_iload (pc := 82) (i := 5) (by decide +kernel) rfl ?_
  refine RN_if_ne (pc := 84) (off := 14) (tgt := 98) (by decide +kernel) (by decide) (fun c50 => ?_) (fun c50 => ?_)
  · replace h := it_f c50 h
    exact RN_weak (l := []) trivial (tb_X12_breaks_98 n  σ h)
  · replace h := it_t c50 h
    refine RN_lload (pc := 87) (i := 6) (by decide +kernel) rfl ?_
    refine RN_lconst (pc := 89) (n := 0) (v := 0) (by decide +kernel) (by decide) ?_
    refine RN_lc_eq (pc := 90) (off := 7) (tgt := 98) (by decide +kernel) (by decide +kernel) (by decide) (fun c51 => ?_) (fun c51 => ?_)
    · replace h := it_t c51 h
      exact RN_weak (l := []) trivial (tb_X12_breaks_98 n  σ h)
    · replace h := it_f c51 h
      refine RN_iconst (pc := 94) (n := 1) (v := 1) (by decide +kernel) (by decide) ?_
      refine RN_goto (pc := 95) (off := 4) (tgt := 99) (by decide +kernel) (by decide) ?_
      obtain ⟨rfl, rfl⟩ := some_el2 h
      exact RN_zreturn (by decide +kernel) rfl (Or.inr rfl)
def b_X12_breaks_54 : Nat → Nat → Int32 → Int64 → Int32 → Sg → Option (Int32 × Sg)
  | 0, _, _, _, _, _ => none
  | n + 1, v0, v5, v6, v8, σ =>
  if (8 : Int32) ≤ v8 then (
    b_X12_breaks_82 n v5 v6 σ)
  else (
    ck (okO σ v0 11) <|
    ck (¬ gR σ v0 23 = 0) <|
    nm (gR σ v0 23) fun r54 =>
    ck (okA σ r54 14 ((8 : Int32) + v8)) <|
    nm (v6 + (gJ σ r54 ((8 : Int32) + v8).toNatClampNeg)) fun x56 =>
    nm (v8 + (1 : Int32)) fun x57 =>
    b_X12_breaks_54 n v0 v5 x56 x57 σ)
set_option maxRecDepth 20000 in
theorem tb_X12_breaks_54 {G : Gl} {xr : Int32} {σr : Sg} (v0 : Nat) (v5 : Int32) (σ : Sg) : ∀ (n : Nat) (v6 : Int64) (v8 : Int32), b_X12_breaks_54 n v0 v5 v6 v8 σ = some (xr, σr) → RN G M_X12_breaks 54 [some (.ref v0), none, none, none, none, some (.int v5), some (.long v6), none, some (.int v8)] [] σ (.inl (some (.int xr))) σr := by
  intro n
  induction n with
  | zero =>
    intro v6 v8 h
    exact none_el h
  | succ n ih =>
    intro v6 v8 h
    rw [b_X12_breaks_54] at h
    refine RN_iload (pc := 54) (i := 8) (by decide +kernel) rfl ?_
    refine RN_bipush (pc := 56) (n := 8) (v := 8) (by decide +kernel) (by decide) ?_
    refine RN_icmp_ge (pc := 58) (off := 24) (tgt := 82) (by decide +kernel) (by decide) (fun c49 => ?_) (fun c49 => ?_)
    · replace h := it_t c49 h
      exact RN_weak (l := [none, none, none, none, none, some (.int v5), some (.long v6)]) (And.intro rfl (And.intro rfl trivial)) (tb_X12_breaks_82 n v5 v6 σ h)
    · replace h := it_f c49 h
      refine RN_lload (pc := 61) (i := 6) (by decide +kernel) rfl ?_
      refine RN_aload_n (pc := 63) (k := 0) (by decide +kernel) rfl rfl ?_
      obtain ⟨c52, h⟩ := ck_el h
      obtain ⟨c53, h⟩ := ck_el h
      refine RN_getR (pc := 64) (idx := 60) (ci := 11) (k := 23) (by decide +kernel) lf_RX12_60 rfl c52 c53 ?_
      obtain ⟨r54, er54, h⟩ := nm_el h
      refine RN_nmR er54 ?_
      refine RN_bipush (pc := 67) (n := 8) (v := 8) (by decide +kernel) (by decide) ?_
      refine RN_iload (pc := 69) (i := 8) (by decide +kernel) rfl ?_
      refine RN_iadd (pc := 71) (by decide +kernel) ?_
      obtain ⟨c55, h⟩ := ck_el h
      refine RN_lald (pc := 72) (by decide +kernel) c55 ?_
      refine RN_ladd (pc := 73) (by decide +kernel) ?_
      obtain ⟨x56, ex56, h⟩ := nm_el h
      refine RN_nmJ ex56 ?_
      refine RN_lstore (pc := 74) (i := 6) (ls2 := [some (.ref v0), none, none, none, none, some (.int v5), some (.long x56), none, some (.int v8)]) (by decide +kernel) (by decide) rfl ?_
      obtain ⟨x57, ex57, h⟩ := nm_el h
      refine RN_iinc (pc := 76) (i := 8) (n := 1) (v := x57) (ls2 := [some (.ref v0), none, none, none, none, some (.int v5), some (.long x56), none, some (.int x57)]) (by decide +kernel) rfl (by rw [ex57]; rfl) (by decide) rfl ?_
      refine RN_goto (pc := 79) (off := -25) (tgt := 54) (by decide +kernel) (by decide) ?_
      exact RN_weak (l := [some (.ref v0), none, none, none, none, some (.int v5), some (.long x56), none, some (.int x57)]) (And.intro rfl (And.intro rfl (And.intro rfl (And.intro rfl trivial)))) (ih x56 x57 h)
def b_X12_breaks_136 (n : Nat) (σ : Sg) : Option (Int32 × Sg) :=
  some ((0 : Int32), σ)
set_option maxRecDepth 20000 in
theorem tb_X12_breaks_136 {G : Gl} {xr : Int32} {σr : Sg} (n : Nat) (σ : Sg) (h : b_X12_breaks_136 n σ = some (xr, σr)) : RN G M_X12_breaks 136 [] [] σ (.inl (some (.int xr))) σr := by
  unfold b_X12_breaks_136 at h
  refine RN_iconst (pc := 136) (n := 0) (v := 0) (by decide +kernel) (by decide) ?_
  obtain ⟨rfl, rfl⟩ := some_el2 h
  exact RN_zreturn (by decide +kernel) rfl (Or.inl rfl)
def b_X12_breaks_171 (n : Nat) (σ : Sg) : Option (Int32 × Sg) :=
  some ((0 : Int32), σ)
set_option maxRecDepth 20000 in
theorem tb_X12_breaks_171 {G : Gl} {xr : Int32} {σr : Sg} (n : Nat) (σ : Sg) (h : b_X12_breaks_171 n σ = some (xr, σr)) : RN G M_X12_breaks 171 [] [] σ (.inl (some (.int xr))) σr := by
  unfold b_X12_breaks_171 at h
  refine RN_iconst (pc := 171) (n := 0) (v := 0) (by decide +kernel) (by decide) ?_
  obtain ⟨rfl, rfl⟩ := some_el2 h
  exact RN_zreturn (by decide +kernel) rfl (Or.inl rfl)
def b_X12_breaks_189 (n : Nat) (σ : Sg) : Option (Int32 × Sg) :=
  some ((0 : Int32), σ)
set_option maxRecDepth 20000 in
theorem tb_X12_breaks_189 {G : Gl} {xr : Int32} {σr : Sg} (n : Nat) (σ : Sg) (h : b_X12_breaks_189 n σ = some (xr, σr)) : RN G M_X12_breaks 189 [] [] σ (.inl (some (.int xr))) σr := by
  unfold b_X12_breaks_189 at h
  refine RN_iconst (pc := 189) (n := 0) (v := 0) (by decide +kernel) (by decide) ?_
  obtain ⟨rfl, rfl⟩ := some_el2 h
  exact RN_zreturn (by decide +kernel) rfl (Or.inl rfl)
def b_X12_breaks_210 (n : Nat) (σ : Sg) : Option (Int32 × Sg) :=
  some ((0 : Int32), σ)
set_option maxRecDepth 20000 in
theorem tb_X12_breaks_210 {G : Gl} {xr : Int32} {σr : Sg} (n : Nat) (σ : Sg) (h : b_X12_breaks_210 n σ = some (xr, σr)) : RN G M_X12_breaks 210 [] [] σ (.inl (some (.int xr))) σr := by
  unfold b_X12_breaks_210 at h
  refine RN_iconst (pc := 210) (n := 0) (v := 0) (by decide +kernel) (by decide) ?_
  obtain ⟨rfl, rfl⟩ := some_el2 h
  exact RN_zreturn (by decide +kernel) rfl (Or.inl rfl)
def f_X12_breaks (n : Nat) (v0 : Nat) (v1 : Int32) (v2 : Int32) (v3 : Int32) (v4 : Int32) (σ : Sg) : Option (Int32 × Sg) :=
  ck (okO σ v0 11) <|
  bd (f_X12_triesAmount n v0 v1 v4 σ) fun x47 σ46 =>
  if v2 = 0 then (
    b_X12_breaks_54 n v0 x47 (0 : Int64) (0 : Int32) σ46)
  else (
  if v2 = 1 then (
    ck (okO σ46 v0 11) <|
    bp (f_X12_notes n v0 σ46) fun σ61 =>
    ck (okO σ61 v0 11) <|
    bd (f_X12_triesAmount n v0 v1 (-v4) σ61) fun x65 σ64 =>
    if x65 = x47 then (
      if x47 = 0 then (
        ck (okO σ64 v0 11) <|
        bp (f_X12_differs n v0 (-1 : Int64) σ64) fun x70 =>
        if x70 = 0 then (
          b_X12_breaks_136 n σ64)
        else (
          some ((1 : Int32), σ64)))
      else (
        b_X12_breaks_136 n σ64))
    else (
      some ((1 : Int32), σ64)))
  else (
  if v2 = 2 then (
    ck (okO σ46 v0 11) <|
    bp (f_X12_notes n v0 σ46) fun σ75 =>
    ck (okO σ75 v0 11) <|
    bd (f_X12_triesAmount n v0 v3 v4 σ75) fun x79 σ78 =>
    if x79 = x47 then (
      if x47 = 0 then (
        ck (okO σ78 v0 11) <|
        bp (f_X12_differs n v0 (1 : Int64) σ78) fun x84 =>
        if x84 = 0 then (
          b_X12_breaks_171 n σ78)
        else (
          some ((1 : Int32), σ78)))
      else (
        b_X12_breaks_171 n σ78))
    else (
      some ((1 : Int32), σ78)))
  else (
  if v2 = 3 then (
    if x47 = 0 then (
      ck (okO σ46 v0 11) <|
      bp (f_X12_isUnfair n v0 σ46) fun x90 =>
      if x90 = 0 then (
        b_X12_breaks_189 n σ46)
      else (
        some ((1 : Int32), σ46)))
    else (
      b_X12_breaks_189 n σ46))
  else (
  if v2 = 4 then (
    ck (x47 = 0 ∨ x47 = 1) <|
    some (x47, σ46))
  else (
  if v2 = 5 then (
    if x47 = 0 then (
      ck (okO σ46 v0 11) <|
      if (gI σ46 v0 31) ≤ 0 then (
        b_X12_breaks_210 n σ46)
      else (
        some ((1 : Int32), σ46)))
    else (
      b_X12_breaks_210 n σ46))
  else (
    if x47 = 0 then (
      ck (okO σ46 v0 11) <|
      bp (f_X12_notes n v0 σ46) fun σ101 =>
      ck (okO σ101 v0 11) <|
      bp (f_X12_floats n v0 v1 v4 σ101) fun σ104 =>
      ck (okO σ104 v0 11) <|
      bp (f_X12_differs n v0 (1 : Int64) σ104) fun x107 =>
      ck (x107 = 0 ∨ x107 = 1) <|
      some (x107, σ104))
    else (
      some ((0 : Int32), σ46))))))))
set_option maxRecDepth 20000 in
theorem t_X12_breaks {G : Gl} {xr : Int32} {σr : Sg} {n : Nat} {v0 : Nat} {v1 : Int32} {v2 : Int32} {v3 : Int32} {v4 : Int32} {σ : Sg} (h : f_X12_breaks n v0 v1 v2 v3 v4 σ = some (xr, σr)) : MT G M_X12_breaks [.ref v0, .int v1, .int v2, .int v3, .int v4] σ (some (.int xr)) σr := by
  refine MT_of rfl rfl (Nat.le_of_ble_eq_true rfl) ?_
  show RN G M_X12_breaks 0 [some (.ref v0), some (.int v1), some (.int v2), some (.int v3), some (.int v4)] [] σ (.inl (some (.int xr))) σr
  unfold f_X12_breaks at h
  refine RN_aload_n (pc := 0) (k := 0) (by decide +kernel) rfl rfl ?_
  refine RN_iload_n (pc := 1) (k := 1) (by decide +kernel) rfl rfl ?_
  refine RN_iload (pc := 2) (i := 4) (by decide +kernel) rfl ?_
  obtain ⟨c44, h⟩ := ck_el h
  obtain ⟨x47, σ46, f45, h⟩ := bd_el h
  refine RN_callV (M := M_X12_breaks) (pc := 4) (idx := 290) (as := [.int v1, .int v4]) (st := []) (t_X12_triesAmount f45) (by decide +kernel) lk_RX12_290 rfl ⟨by decide, fun q hq => by cases hq; rfl⟩ c44 (Nat.le_of_ble_eq_true rfl) ⟨Nat.le_of_ble_eq_true rfl, Nat.le_of_ble_eq_true rfl⟩ rfl ?_
  show RN G M_X12_breaks 7 [some (.ref v0), some (.int v1), some (.int v2), some (.int v3), some (.int v4)] [.int x47] σ46 _ _
  refine RN_istore (pc := 7) (i := 5) (ls2 := [some (.ref v0), some (.int v1), some (.int v2), some (.int v3), some (.int v4), some (.int x47)]) (by decide +kernel) (by decide) rfl ?_
  refine RN_iload_n (pc := 9) (k := 2) (by decide +kernel) rfl rfl ?_
  by_cases c48 : v2 = 0
  · replace h := it_t c48 h
    refine RN_tsw (pc := 10) (dflt := 202) (lo := 0) (hi := 5) (offs := #[38, 90, 128, 163, 181, 184]) (len := 38) (v := 0) (off := 38) (tgt := 48) c48 (by decide +kernel) (by decide) (by decide) (by decide +kernel) (by decide) ?_
    refine RN_lconst (pc := 48) (n := 0) (v := 0) (by decide +kernel) (by decide) ?_
    refine RN_lstore (pc := 49) (i := 6) (ls2 := [some (.ref v0), some (.int v1), some (.int v2), some (.int v3), some (.int v4), some (.int x47), some (.long (0 : Int64)), none]) (by decide +kernel) (by decide) rfl ?_
    refine RN_iconst (pc := 51) (n := 0) (v := 0) (by decide +kernel) (by decide) ?_
    refine RN_istore (pc := 52) (i := 8) (ls2 := [some (.ref v0), some (.int v1), some (.int v2), some (.int v3), some (.int v4), some (.int x47), some (.long (0 : Int64)), none, some (.int (0 : Int32))]) (by decide +kernel) (by decide) rfl ?_
    exact RN_weak (l := [some (.ref v0), none, none, none, none, some (.int x47), some (.long (0 : Int64)), none, some (.int (0 : Int32))]) (And.intro rfl (And.intro rfl (And.intro rfl (And.intro rfl trivial)))) (tb_X12_breaks_54 v0 x47 σ46 n (0 : Int64) (0 : Int32) h)
  · replace h := it_f c48 h
    by_cases c58 : v2 = 1
    · replace h := it_t c58 h
      refine RN_tsw (pc := 10) (dflt := 202) (lo := 0) (hi := 5) (offs := #[38, 90, 128, 163, 181, 184]) (len := 38) (v := 1) (off := 90) (tgt := 100) c58 (by decide +kernel) (by decide) (by decide) (by decide +kernel) (by decide) ?_
      refine RN_aload_n (pc := 100) (k := 0) (by decide +kernel) rfl rfl ?_
      obtain ⟨c59, h⟩ := ck_el h
      obtain ⟨σ61, f60, h⟩ := bp_el h
      refine RN_callV (M := M_X12_breaks) (pc := 101) (idx := 293) (as := []) (st := []) (t_X12_notes f60) (by decide +kernel) lk_RX12_293 rfl ⟨by decide, fun q hq => by cases hq; rfl⟩ c59 (Nat.le_of_ble_eq_true rfl) ⟨Nat.le_of_ble_eq_true rfl, Nat.le_of_ble_eq_true rfl⟩ rfl ?_
      show RN G M_X12_breaks 104 [some (.ref v0), some (.int v1), some (.int v2), some (.int v3), some (.int v4), some (.int x47)] [] σ61 _ _
      refine RN_aload_n (pc := 104) (k := 0) (by decide +kernel) rfl rfl ?_
      refine RN_iload_n (pc := 105) (k := 1) (by decide +kernel) rfl rfl ?_
      refine RN_iload (pc := 106) (i := 4) (by decide +kernel) rfl ?_
      refine RN_ineg (pc := 108) (by decide +kernel) ?_
      obtain ⟨c62, h⟩ := ck_el h
      obtain ⟨x65, σ64, f63, h⟩ := bd_el h
      refine RN_callV (M := M_X12_breaks) (pc := 109) (idx := 290) (as := [.int v1, .int (-v4)]) (st := []) (t_X12_triesAmount f63) (by decide +kernel) lk_RX12_290 rfl ⟨by decide, fun q hq => by cases hq; rfl⟩ c62 (Nat.le_of_ble_eq_true rfl) ⟨Nat.le_of_ble_eq_true rfl, Nat.le_of_ble_eq_true rfl⟩ rfl ?_
      show RN G M_X12_breaks 112 [some (.ref v0), some (.int v1), some (.int v2), some (.int v3), some (.int v4), some (.int x47)] [.int x65] σ64 _ _
      refine RN_iload (pc := 112) (i := 5) (by decide +kernel) rfl ?_
      refine RN_icmp_ne (pc := 114) (off := 18) (tgt := 132) (by decide +kernel) (by decide) (fun c66 => ?_) (fun c66 => ?_)
      · replace h := it_f c66 h
        refine RN_iconst (pc := 132) (n := 1) (v := 1) (by decide +kernel) (by decide) ?_
        refine RN_goto (pc := 133) (off := 4) (tgt := 137) (by decide +kernel) (by decide) ?_
        obtain ⟨rfl, rfl⟩ := some_el2 h
        exact RN_zreturn (by decide +kernel) rfl (Or.inr rfl)
      · replace h := it_t c66 h
        refine RN_iload (pc := 117) (i := 5) (by decide +kernel) rfl ?_
        refine RN_if_ne (pc := 119) (off := 17) (tgt := 136) (by decide +kernel) (by decide) (fun c67 => ?_) (fun c67 => ?_)
        · replace h := it_f c67 h
          exact RN_weak (l := []) trivial (tb_X12_breaks_136 n  σ64 h)
        · replace h := it_t c67 h
          refine RN_aload_n (pc := 122) (k := 0) (by decide +kernel) rfl rfl ?_
          refine RN_ldc2 (pc := 123) (idx := 296) (v := -1) (by decide +kernel) kc_RX12_296 ?_
          obtain ⟨c68, h⟩ := ck_el h
          obtain ⟨x70, f69, h⟩ := bp_el h
          refine RN_callV (M := M_X12_breaks) (pc := 126) (idx := 298) (as := [.long (-1 : Int64)]) (st := []) (t_X12_differs f69) (by decide +kernel) lk_RX12_298 rfl ⟨by decide, fun q hq => by cases hq; rfl⟩ c68 (Nat.le_of_ble_eq_true rfl) ⟨Nat.le_of_ble_eq_true rfl, Nat.le_of_ble_eq_true rfl⟩ rfl ?_
          show RN G M_X12_breaks 129 [some (.ref v0), some (.int v1), some (.int v2), some (.int v3), some (.int v4), some (.int x47)] [.int x70] σ64 _ _
          refine RN_if_eq (pc := 129) (off := 7) (tgt := 136) (by decide +kernel) (by decide) (fun c71 => ?_) (fun c71 => ?_)
          · replace h := it_t c71 h
            exact RN_weak (l := []) trivial (tb_X12_breaks_136 n  σ64 h)
          · replace h := it_f c71 h
            refine RN_iconst (pc := 132) (n := 1) (v := 1) (by decide +kernel) (by decide) ?_
            refine RN_goto (pc := 133) (off := 4) (tgt := 137) (by decide +kernel) (by decide) ?_
            obtain ⟨rfl, rfl⟩ := some_el2 h
            exact RN_zreturn (by decide +kernel) rfl (Or.inr rfl)
    · replace h := it_f c58 h
      by_cases c72 : v2 = 2
      · replace h := it_t c72 h
        refine RN_tsw (pc := 10) (dflt := 202) (lo := 0) (hi := 5) (offs := #[38, 90, 128, 163, 181, 184]) (len := 38) (v := 2) (off := 128) (tgt := 138) c72 (by decide +kernel) (by decide) (by decide) (by decide +kernel) (by decide) ?_
        refine RN_aload_n (pc := 138) (k := 0) (by decide +kernel) rfl rfl ?_
        obtain ⟨c73, h⟩ := ck_el h
        obtain ⟨σ75, f74, h⟩ := bp_el h
        refine RN_callV (M := M_X12_breaks) (pc := 139) (idx := 293) (as := []) (st := []) (t_X12_notes f74) (by decide +kernel) lk_RX12_293 rfl ⟨by decide, fun q hq => by cases hq; rfl⟩ c73 (Nat.le_of_ble_eq_true rfl) ⟨Nat.le_of_ble_eq_true rfl, Nat.le_of_ble_eq_true rfl⟩ rfl ?_
        show RN G M_X12_breaks 142 [some (.ref v0), some (.int v1), some (.int v2), some (.int v3), some (.int v4), some (.int x47)] [] σ75 _ _
        refine RN_aload_n (pc := 142) (k := 0) (by decide +kernel) rfl rfl ?_
        refine RN_iload_n (pc := 143) (k := 3) (by decide +kernel) rfl rfl ?_
        refine RN_iload (pc := 144) (i := 4) (by decide +kernel) rfl ?_
        obtain ⟨c76, h⟩ := ck_el h
        obtain ⟨x79, σ78, f77, h⟩ := bd_el h
        refine RN_callV (M := M_X12_breaks) (pc := 146) (idx := 290) (as := [.int v3, .int v4]) (st := []) (t_X12_triesAmount f77) (by decide +kernel) lk_RX12_290 rfl ⟨by decide, fun q hq => by cases hq; rfl⟩ c76 (Nat.le_of_ble_eq_true rfl) ⟨Nat.le_of_ble_eq_true rfl, Nat.le_of_ble_eq_true rfl⟩ rfl ?_
        show RN G M_X12_breaks 149 [some (.ref v0), some (.int v1), some (.int v2), some (.int v3), some (.int v4), some (.int x47)] [.int x79] σ78 _ _
        refine RN_iload (pc := 149) (i := 5) (by decide +kernel) rfl ?_
        refine RN_icmp_ne (pc := 151) (off := 16) (tgt := 167) (by decide +kernel) (by decide) (fun c80 => ?_) (fun c80 => ?_)
        · replace h := it_f c80 h
          refine RN_iconst (pc := 167) (n := 1) (v := 1) (by decide +kernel) (by decide) ?_
          refine RN_goto (pc := 168) (off := 4) (tgt := 172) (by decide +kernel) (by decide) ?_
          obtain ⟨rfl, rfl⟩ := some_el2 h
          exact RN_zreturn (by decide +kernel) rfl (Or.inr rfl)
        · replace h := it_t c80 h
          refine RN_iload (pc := 154) (i := 5) (by decide +kernel) rfl ?_
          refine RN_if_ne (pc := 156) (off := 15) (tgt := 171) (by decide +kernel) (by decide) (fun c81 => ?_) (fun c81 => ?_)
          · replace h := it_f c81 h
            exact RN_weak (l := []) trivial (tb_X12_breaks_171 n  σ78 h)
          · replace h := it_t c81 h
            refine RN_aload_n (pc := 159) (k := 0) (by decide +kernel) rfl rfl ?_
            refine RN_lconst (pc := 160) (n := 1) (v := 1) (by decide +kernel) (by decide) ?_
            obtain ⟨c82, h⟩ := ck_el h
            obtain ⟨x84, f83, h⟩ := bp_el h
            refine RN_callV (M := M_X12_breaks) (pc := 161) (idx := 298) (as := [.long (1 : Int64)]) (st := []) (t_X12_differs f83) (by decide +kernel) lk_RX12_298 rfl ⟨by decide, fun q hq => by cases hq; rfl⟩ c82 (Nat.le_of_ble_eq_true rfl) ⟨Nat.le_of_ble_eq_true rfl, Nat.le_of_ble_eq_true rfl⟩ rfl ?_
            show RN G M_X12_breaks 164 [some (.ref v0), some (.int v1), some (.int v2), some (.int v3), some (.int v4), some (.int x47)] [.int x84] σ78 _ _
            refine RN_if_eq (pc := 164) (off := 7) (tgt := 171) (by decide +kernel) (by decide) (fun c85 => ?_) (fun c85 => ?_)
            · replace h := it_t c85 h
              exact RN_weak (l := []) trivial (tb_X12_breaks_171 n  σ78 h)
            · replace h := it_f c85 h
              refine RN_iconst (pc := 167) (n := 1) (v := 1) (by decide +kernel) (by decide) ?_
              refine RN_goto (pc := 168) (off := 4) (tgt := 172) (by decide +kernel) (by decide) ?_
              obtain ⟨rfl, rfl⟩ := some_el2 h
              exact RN_zreturn (by decide +kernel) rfl (Or.inr rfl)
      · replace h := it_f c72 h
        by_cases c86 : v2 = 3
        · replace h := it_t c86 h
          refine RN_tsw (pc := 10) (dflt := 202) (lo := 0) (hi := 5) (offs := #[38, 90, 128, 163, 181, 184]) (len := 38) (v := 3) (off := 163) (tgt := 173) c86 (by decide +kernel) (by decide) (by decide) (by decide +kernel) (by decide) ?_
          refine RN_iload (pc := 173) (i := 5) (by decide +kernel) rfl ?_
          refine RN_if_ne (pc := 175) (off := 14) (tgt := 189) (by decide +kernel) (by decide) (fun c87 => ?_) (fun c87 => ?_)
          · replace h := it_f c87 h
            exact RN_weak (l := []) trivial (tb_X12_breaks_189 n  σ46 h)
          · replace h := it_t c87 h
            refine RN_aload_n (pc := 178) (k := 0) (by decide +kernel) rfl rfl ?_
            obtain ⟨c88, h⟩ := ck_el h
            obtain ⟨x90, f89, h⟩ := bp_el h
            refine RN_callV (M := M_X12_breaks) (pc := 179) (idx := 301) (as := []) (st := []) (t_X12_isUnfair f89) (by decide +kernel) lk_RX12_301 rfl ⟨by decide, fun q hq => by cases hq; rfl⟩ c88 (Nat.le_of_ble_eq_true rfl) ⟨Nat.le_of_ble_eq_true rfl, Nat.le_of_ble_eq_true rfl⟩ rfl ?_
            show RN G M_X12_breaks 182 [some (.ref v0), some (.int v1), some (.int v2), some (.int v3), some (.int v4), some (.int x47)] [.int x90] σ46 _ _
            refine RN_if_eq (pc := 182) (off := 7) (tgt := 189) (by decide +kernel) (by decide) (fun c91 => ?_) (fun c91 => ?_)
            · replace h := it_t c91 h
              exact RN_weak (l := []) trivial (tb_X12_breaks_189 n  σ46 h)
            · replace h := it_f c91 h
              refine RN_iconst (pc := 185) (n := 1) (v := 1) (by decide +kernel) (by decide) ?_
              refine RN_goto (pc := 186) (off := 4) (tgt := 190) (by decide +kernel) (by decide) ?_
              obtain ⟨rfl, rfl⟩ := some_el2 h
              exact RN_zreturn (by decide +kernel) rfl (Or.inr rfl)
        · replace h := it_f c86 h
          by_cases c92 : v2 = 4
          · replace h := it_t c92 h
            refine RN_tsw (pc := 10) (dflt := 202) (lo := 0) (hi := 5) (offs := #[38, 90, 128, 163, 181, 184]) (len := 38) (v := 4) (off := 181) (tgt := 191) c92 (by decide +kernel) (by decide) (by decide) (by decide +kernel) (by decide) ?_
            refine RN_iload (pc := 191) (i := 5) (by decide +kernel) rfl ?_
            obtain ⟨c93, h⟩ := ck_el h
            obtain ⟨rfl, rfl⟩ := some_el2 h
            exact RN_zreturn (by decide +kernel) rfl c93
          · replace h := it_f c92 h
            by_cases c94 : v2 = 5
            · replace h := it_t c94 h
              refine RN_tsw (pc := 10) (dflt := 202) (lo := 0) (hi := 5) (offs := #[38, 90, 128, 163, 181, 184]) (len := 38) (v := 5) (off := 184) (tgt := 194) c94 (by decide +kernel) (by decide) (by decide) (by decide +kernel) (by decide) ?_
              refine RN_iload (pc := 194) (i := 5) (by decide +kernel) rfl ?_
              refine RN_if_ne (pc := 196) (off := 14) (tgt := 210) (by decide +kernel) (by decide) (fun c95 => ?_) (fun c95 => ?_)
              · replace h := it_f c95 h
                exact RN_weak (l := []) trivial (tb_X12_breaks_210 n  σ46 h)
              · replace h := it_t c95 h
                refine RN_aload_n (pc := 199) (k := 0) (by decide +kernel) rfl rfl ?_
                obtain ⟨c96, h⟩ := ck_el h
                refine RN_getI (pc := 200) (idx := 235) (ci := 11) (k := 31) (by decide +kernel) lf_RX12_235 (Or.inl rfl) c96 ?_
                refine RN_if_le (pc := 203) (off := 7) (tgt := 210) (by decide +kernel) (by decide) (fun c97 => ?_) (fun c97 => ?_)
                · replace h := it_t c97 h
                  exact RN_weak (l := []) trivial (tb_X12_breaks_210 n  σ46 h)
                · replace h := it_f c97 h
                  refine RN_iconst (pc := 206) (n := 1) (v := 1) (by decide +kernel) (by decide) ?_
                  refine RN_goto (pc := 207) (off := 4) (tgt := 211) (by decide +kernel) (by decide) ?_
                  obtain ⟨rfl, rfl⟩ := some_el2 h
                  exact RN_zreturn (by decide +kernel) rfl (Or.inr rfl)
            · replace h := it_f c94 h
              refine RN_tableOut (pc := 10) (dflt := 202) (lo := 0) (hi := 5) (offs := #[38, 90, 128, 163, 181, 184]) (len := 38) (tgt := 212) (by decide +kernel) (tsw_s (hi := 4) (hi' := 5) (tsw_s (hi := 3) (hi' := 4) (tsw_s (hi := 2) (hi' := 3) (tsw_s (hi := 1) (hi' := 2) (tsw_s (hi := 0) (hi' := 1) (tsw_s (hi := -1) (hi' := 0) (tsw_0 (0)) (by decide) (by decide) c48) (by decide) (by decide) c58) (by decide) (by decide) c72) (by decide) (by decide) c86) (by decide) (by decide) c92) (by decide) (by decide) c94) (by decide) ?_
              refine RN_iload (pc := 212) (i := 5) (by decide +kernel) rfl ?_
              refine RN_if_eq (pc := 214) (off := 5) (tgt := 219) (by decide +kernel) (by decide) (fun c98 => ?_) (fun c98 => ?_)
              · replace h := it_t c98 h
                refine RN_aload_n (pc := 219) (k := 0) (by decide +kernel) rfl rfl ?_
                obtain ⟨c99, h⟩ := ck_el h
                obtain ⟨σ101, f100, h⟩ := bp_el h
                refine RN_callV (M := M_X12_breaks) (pc := 220) (idx := 293) (as := []) (st := []) (t_X12_notes f100) (by decide +kernel) lk_RX12_293 rfl ⟨by decide, fun q hq => by cases hq; rfl⟩ c99 (Nat.le_of_ble_eq_true rfl) ⟨Nat.le_of_ble_eq_true rfl, Nat.le_of_ble_eq_true rfl⟩ rfl ?_
                show RN G M_X12_breaks 223 [some (.ref v0), some (.int v1), some (.int v2), some (.int v3), some (.int v4), some (.int x47)] [] σ101 _ _
                refine RN_aload_n (pc := 223) (k := 0) (by decide +kernel) rfl rfl ?_
                refine RN_iload_n (pc := 224) (k := 1) (by decide +kernel) rfl rfl ?_
                refine RN_iload (pc := 225) (i := 4) (by decide +kernel) rfl ?_
                obtain ⟨c102, h⟩ := ck_el h
                obtain ⟨σ104, f103, h⟩ := bp_el h
                refine RN_callV (M := M_X12_breaks) (pc := 227) (idx := 305) (as := [.int v1, .int v4]) (st := []) (t_X12_floats f103) (by decide +kernel) lk_RX12_305 rfl ⟨by decide, fun q hq => by cases hq; rfl⟩ c102 (Nat.le_of_ble_eq_true rfl) ⟨Nat.le_of_ble_eq_true rfl, Nat.le_of_ble_eq_true rfl⟩ rfl ?_
                show RN G M_X12_breaks 230 [some (.ref v0), some (.int v1), some (.int v2), some (.int v3), some (.int v4), some (.int x47)] [] σ104 _ _
                refine RN_aload_n (pc := 230) (k := 0) (by decide +kernel) rfl rfl ?_
                refine RN_lconst (pc := 231) (n := 1) (v := 1) (by decide +kernel) (by decide) ?_
                obtain ⟨c105, h⟩ := ck_el h
                obtain ⟨x107, f106, h⟩ := bp_el h
                refine RN_callV (M := M_X12_breaks) (pc := 232) (idx := 298) (as := [.long (1 : Int64)]) (st := []) (t_X12_differs f106) (by decide +kernel) lk_RX12_298 rfl ⟨by decide, fun q hq => by cases hq; rfl⟩ c105 (Nat.le_of_ble_eq_true rfl) ⟨Nat.le_of_ble_eq_true rfl, Nat.le_of_ble_eq_true rfl⟩ rfl ?_
                show RN G M_X12_breaks 235 [some (.ref v0), some (.int v1), some (.int v2), some (.int v3), some (.int v4), some (.int x47)] [.int x107] σ104 _ _
                obtain ⟨c108, h⟩ := ck_el h
                obtain ⟨rfl, rfl⟩ := some_el2 h
                exact RN_zreturn (by decide +kernel) rfl c108
              · replace h := it_f c98 h
                refine RN_iconst (pc := 217) (n := 0) (v := 0) (by decide +kernel) (by decide) ?_
                obtain ⟨rfl, rfl⟩ := some_el2 h
                exact RN_zreturn (by decide +kernel) rfl (Or.inl rfl)
def b_X12_isSpan_40 : Option Int32 :=
  some (0 : Int32)
set_option maxRecDepth 20000 in
theorem tb_X12_isSpan_40 {G : Gl} {xr : Int32} {σ : Sg} (h : b_X12_isSpan_40 = some xr) : RN G M_X12_isSpan 40 [] [] σ (.inl (some (.int xr))) σ := by
  unfold b_X12_isSpan_40 at h
  refine RN_iconst (pc := 40) (n := 0) (v := 0) (by decide +kernel) (by decide) ?_
  obtain rfl := some_el h
  exact RN_zreturn (by decide +kernel) rfl (Or.inl rfl)
def f_X12_isSpan (v0 : Int32) (v1 : Int32) (v2 : Int32) : Option Int32 :=
  bp (f_X12_in v0 (-1000000 : Int32) (1000000 : Int32)) fun x6 =>
  if x6 = 0 then (
    b_X12_isSpan_40)
  else (
    bp (f_X12_in v1 (-1000000 : Int32) (1000000 : Int32)) fun x9 =>
    if x9 = 0 then (
      b_X12_isSpan_40)
    else (
      if v1 < v0 then (
        b_X12_isSpan_40)
      else (
        if v2 < (v1 - v0) then (
          b_X12_isSpan_40)
        else (
          some (1 : Int32)))))
set_option maxRecDepth 20000 in
theorem t_X12_isSpan {G : Gl} {xr : Int32} {v0 : Int32} {v1 : Int32} {v2 : Int32} {σ : Sg} (h : f_X12_isSpan v0 v1 v2 = some xr) : MT G M_X12_isSpan [.int v0, .int v1, .int v2] σ (some (.int xr)) σ := by
  refine MT_of rfl rfl (Nat.le_of_ble_eq_true rfl) ?_
  show RN G M_X12_isSpan 0 [some (.int v0), some (.int v1), some (.int v2)] [] σ (.inl (some (.int xr))) σ
  unfold f_X12_isSpan at h
  refine RN_iload_n (pc := 0) (k := 0) (by decide +kernel) rfl rfl ?_
  refine RN_ldcw (pc := 1) (idx := 348) (v := -1000000) (by decide +kernel) kc_RX12_348 ?_
  refine RN_ldc (pc := 4) (idx := 171) (v := 1000000) (by decide +kernel) kc_RX12_171 ?_
  obtain ⟨x6, f5, h⟩ := bp_el h
  refine RN_callS (M := M_X12_isSpan) (pc := 6) (idx := 159) (as := [.int v0, .int (-1000000 : Int32), .int (1000000 : Int32)]) (st := []) (t_X12_in f5) (by decide +kernel) lk_RX12_159 rfl (Nat.le_of_ble_eq_true rfl) ⟨Nat.le_of_ble_eq_true rfl, Nat.le_of_ble_eq_true rfl⟩ rfl ?_
  show RN G M_X12_isSpan 9 [some (.int v0), some (.int v1), some (.int v2)] [.int x6] σ _ _
  refine RN_if_eq (pc := 9) (off := 31) (tgt := 40) (by decide +kernel) (by decide) (fun c7 => ?_) (fun c7 => ?_)
  · replace h := it_t c7 h
    exact RN_weak (l := []) trivial (tb_X12_isSpan_40  h)
  · replace h := it_f c7 h
    refine RN_iload_n (pc := 12) (k := 1) (by decide +kernel) rfl rfl ?_
    refine RN_ldcw (pc := 13) (idx := 348) (v := -1000000) (by decide +kernel) kc_RX12_348 ?_
    refine RN_ldc (pc := 16) (idx := 171) (v := 1000000) (by decide +kernel) kc_RX12_171 ?_
    obtain ⟨x9, f8, h⟩ := bp_el h
    refine RN_callS (M := M_X12_isSpan) (pc := 18) (idx := 159) (as := [.int v1, .int (-1000000 : Int32), .int (1000000 : Int32)]) (st := []) (t_X12_in f8) (by decide +kernel) lk_RX12_159 rfl (Nat.le_of_ble_eq_true rfl) ⟨Nat.le_of_ble_eq_true rfl, Nat.le_of_ble_eq_true rfl⟩ rfl ?_
    show RN G M_X12_isSpan 21 [some (.int v0), some (.int v1), some (.int v2)] [.int x9] σ _ _
    refine RN_if_eq (pc := 21) (off := 19) (tgt := 40) (by decide +kernel) (by decide) (fun c10 => ?_) (fun c10 => ?_)
    · replace h := it_t c10 h
      exact RN_weak (l := []) trivial (tb_X12_isSpan_40  h)
    · replace h := it_f c10 h
      refine RN_iload_n (pc := 24) (k := 1) (by decide +kernel) rfl rfl ?_
      refine RN_iload_n (pc := 25) (k := 0) (by decide +kernel) rfl rfl ?_
      refine RN_icmp_lt (pc := 26) (off := 14) (tgt := 40) (by decide +kernel) (by decide) (fun c11 => ?_) (fun c11 => ?_)
      · replace h := it_t c11 h
        exact RN_weak (l := []) trivial (tb_X12_isSpan_40  h)
      · replace h := it_f c11 h
        refine RN_iload_n (pc := 29) (k := 1) (by decide +kernel) rfl rfl ?_
        refine RN_iload_n (pc := 30) (k := 0) (by decide +kernel) rfl rfl ?_
        refine RN_isub (pc := 31) (by decide +kernel) ?_
        refine RN_iload_n (pc := 32) (k := 2) (by decide +kernel) rfl rfl ?_
        refine RN_icmp_gt (pc := 33) (off := 7) (tgt := 40) (by decide +kernel) (by decide) (fun c12 => ?_) (fun c12 => ?_)
        · replace h := it_t c12 h
          exact RN_weak (l := []) trivial (tb_X12_isSpan_40  h)
        · replace h := it_f c12 h
          refine RN_iconst (pc := 36) (n := 1) (v := 1) (by decide +kernel) (by decide) ?_
          refine RN_goto (pc := 37) (off := 4) (tgt := 41) (by decide +kernel) (by decide) ?_
          obtain rfl := some_el h
          exact RN_zreturn (by decide +kernel) rfl (Or.inr rfl)
def b_X12_leastOf_4 : Nat → Nat → Int32 → Int32 → Int32 → Int32 → Int32 → Sg → Option (Int32 × Sg)
  | 0, _, _, _, _, _, _, _ => none
  | n + 1, v0, v1, v2, v3, v5, v6, σ =>
  if v5 < v6 then (
    some ((9999999 : Int32), σ))
  else (
    ck (okO σ v0 11) <|
    bd (f_X12_breaks n v0 v1 v2 v3 v6 σ) fun x10 σ9 =>
    if x10 = 0 then (
      nm (v6 + (1 : Int32)) fun x12 =>
      b_X12_leastOf_4 n v0 v1 v2 v3 v5 x12 σ9)
    else (
      some (v6, σ9)))
set_option maxRecDepth 20000 in
theorem tb_X12_leastOf_4 {G : Gl} {xr : Int32} {σr : Sg} (v0 : Nat) (v1 : Int32) (v2 : Int32) (v3 : Int32) (v5 : Int32) : ∀ (n : Nat) (v6 : Int32) (σ : Sg), b_X12_leastOf_4 n v0 v1 v2 v3 v5 v6 σ = some (xr, σr) → RN G M_X12_leastOf 4 [some (.ref v0), some (.int v1), some (.int v2), some (.int v3), none, some (.int v5), some (.int v6)] [] σ (.inl (some (.int xr))) σr := by
  intro n
  induction n with
  | zero =>
    intro v6 σ h
    exact none_el h
  | succ n ih =>
    intro v6 σ h
    rw [b_X12_leastOf_4] at h
    refine RN_iload (pc := 4) (i := 6) (by decide +kernel) rfl ?_
    refine RN_iload (pc := 6) (i := 5) (by decide +kernel) rfl ?_
    refine RN_icmp_gt (pc := 8) (off := 24) (tgt := 32) (by decide +kernel) (by decide) (fun c6 => ?_) (fun c6 => ?_)
    · replace h := it_t c6 h
      refine RN_ldcw (pc := 32) (idx := 353) (v := 9999999) (by decide +kernel) kc_RX12_353 ?_
      obtain ⟨rfl, rfl⟩ := some_el2 h
      exact RN_ireturn (by decide +kernel) rfl
    · replace h := it_f c6 h
      refine RN_aload_n (pc := 11) (k := 0) (by decide +kernel) rfl rfl ?_
      refine RN_iload_n (pc := 12) (k := 1) (by decide +kernel) rfl rfl ?_
      refine RN_iload_n (pc := 13) (k := 2) (by decide +kernel) rfl rfl ?_
      refine RN_iload_n (pc := 14) (k := 3) (by decide +kernel) rfl rfl ?_
      refine RN_iload (pc := 15) (i := 6) (by decide +kernel) rfl ?_
      obtain ⟨c7, h⟩ := ck_el h
      obtain ⟨x10, σ9, f8, h⟩ := bd_el h
      refine RN_callV (M := M_X12_leastOf) (pc := 17) (idx := 349) (as := [.int v1, .int v2, .int v3, .int v6]) (st := []) (t_X12_breaks f8) (by decide +kernel) lk_RX12_349 rfl ⟨by decide, fun q hq => by cases hq; rfl⟩ c7 (Nat.le_of_ble_eq_true rfl) ⟨Nat.le_of_ble_eq_true rfl, Nat.le_of_ble_eq_true rfl⟩ rfl ?_
      show RN G M_X12_leastOf 20 [some (.ref v0), some (.int v1), some (.int v2), some (.int v3), none, some (.int v5), some (.int v6)] [.int x10] σ9 _ _
      refine RN_if_eq (pc := 20) (off := 6) (tgt := 26) (by decide +kernel) (by decide) (fun c11 => ?_) (fun c11 => ?_)
      · replace h := it_t c11 h
        obtain ⟨x12, ex12, h⟩ := nm_el h
        refine RN_iinc (pc := 26) (i := 6) (n := 1) (v := x12) (ls2 := [some (.ref v0), some (.int v1), some (.int v2), some (.int v3), none, some (.int v5), some (.int x12)]) (by decide +kernel) rfl (by rw [ex12]; rfl) (by decide) rfl ?_
        refine RN_goto (pc := 29) (off := -25) (tgt := 4) (by decide +kernel) (by decide) ?_
        exact RN_weak (l := [some (.ref v0), some (.int v1), some (.int v2), some (.int v3), none, some (.int v5), some (.int x12)]) (And.intro rfl (And.intro rfl (And.intro rfl (And.intro rfl (And.intro rfl (And.intro rfl trivial)))))) (ih x12 σ9 h)
      · replace h := it_f c11 h
        refine RN_iload (pc := 23) (i := 6) (by decide +kernel) rfl ?_
        obtain ⟨rfl, rfl⟩ := some_el2 h
        exact RN_ireturn (by decide +kernel) rfl
def f_X12_leastOf (n : Nat) (v0 : Nat) (v1 : Int32) (v2 : Int32) (v3 : Int32) (v4 : Int32) (v5 : Int32) (σ : Sg) : Option (Int32 × Sg) :=
  b_X12_leastOf_4 n v0 v1 v2 v3 v5 v4 σ
set_option maxRecDepth 20000 in
theorem t_X12_leastOf {G : Gl} {xr : Int32} {σr : Sg} {n : Nat} {v0 : Nat} {v1 : Int32} {v2 : Int32} {v3 : Int32} {v4 : Int32} {v5 : Int32} {σ : Sg} (h : f_X12_leastOf n v0 v1 v2 v3 v4 v5 σ = some (xr, σr)) : MT G M_X12_leastOf [.ref v0, .int v1, .int v2, .int v3, .int v4, .int v5] σ (some (.int xr)) σr := by
  refine MT_of rfl rfl (Nat.le_of_ble_eq_true rfl) ?_
  show RN G M_X12_leastOf 0 [some (.ref v0), some (.int v1), some (.int v2), some (.int v3), some (.int v4), some (.int v5)] [] σ (.inl (some (.int xr))) σr
  unfold f_X12_leastOf at h
  refine RN_iload (pc := 0) (i := 4) (by decide +kernel) rfl ?_
  refine RN_istore (pc := 2) (i := 6) (ls2 := [some (.ref v0), some (.int v1), some (.int v2), some (.int v3), some (.int v4), some (.int v5), some (.int v4)]) (by decide +kernel) (by decide) rfl ?_
  exact RN_weak (l := [some (.ref v0), some (.int v1), some (.int v2), some (.int v3), none, some (.int v5), some (.int v4)]) (And.intro rfl (And.intro rfl (And.intro rfl (And.intro rfl (And.intro rfl (And.intro rfl trivial)))))) (tb_X12_leastOf_4 v0 v1 v2 v3 v5 n v4 σ h)
def b_X12_least_39 (n : Nat) (v0 : Nat) (v1 : Int32) (v2 : Int32) (v3 : Int32) (v4 : Int32) (v5 : Int32) (σ : Sg) : Option (Int32 × Sg) :=
  bp (f_X12_isSpan v4 v5 (2000 : Int32)) fun x25 =>
  if x25 = 0 then (
    some ((-1 : Int32), σ))
  else (
    ck (okO σ v0 11) <|
    bd (f_X12_leastOf n v0 v1 v2 v3 v4 v5 σ) fun x30 σ29 =>
    some (x30, σ29))
set_option maxRecDepth 20000 in
theorem tb_X12_least_39 {G : Gl} {xr : Int32} {σr : Sg} (n : Nat) (v0 : Nat) (v1 : Int32) (v2 : Int32) (v3 : Int32) (v4 : Int32) (v5 : Int32) (σ : Sg) (h : b_X12_least_39 n v0 v1 v2 v3 v4 v5 σ = some (xr, σr)) : RN G M_X12_least 39 [some (.ref v0), some (.int v1), some (.int v2), some (.int v3), some (.int v4), some (.int v5)] [] σ (.inl (some (.int xr))) σr := by
  unfold b_X12_least_39 at h
  refine RN_iload (pc := 39) (i := 4) (by decide +kernel) rfl ?_
  refine RN_iload (pc := 41) (i := 5) (by decide +kernel) rfl ?_
  refine RN_sipush (pc := 43) (n := 2000) (v := 2000) (by decide +kernel) (by decide) ?_
  obtain ⟨x25, f24, h⟩ := bp_el h
  refine RN_callS (M := M_X12_least) (pc := 46) (idx := 354) (as := [.int v4, .int v5, .int (2000 : Int32)]) (st := []) (t_X12_isSpan f24) (by decide +kernel) lk_RX12_354 rfl (Nat.le_of_ble_eq_true rfl) ⟨Nat.le_of_ble_eq_true rfl, Nat.le_of_ble_eq_true rfl⟩ rfl ?_
  show RN G M_X12_least 49 [some (.ref v0), some (.int v1), some (.int v2), some (.int v3), some (.int v4), some (.int v5)] [.int x25] σ _ _
  refine RN_if_ne (pc := 49) (off := 5) (tgt := 54) (by decide +kernel) (by decide) (fun c26 => ?_) (fun c26 => ?_)
  · replace h := it_f c26 h
    refine RN_aload_n (pc := 54) (k := 0) (by decide +kernel) rfl rfl ?_
    refine RN_iload_n (pc := 55) (k := 1) (by decide +kernel) rfl rfl ?_
    refine RN_iload_n (pc := 56) (k := 2) (by decide +kernel) rfl rfl ?_
    refine RN_iload_n (pc := 57) (k := 3) (by decide +kernel) rfl rfl ?_
    refine RN_iload (pc := 58) (i := 4) (by decide +kernel) rfl ?_
    refine RN_iload (pc := 60) (i := 5) (by decide +kernel) rfl ?_
    obtain ⟨c27, h⟩ := ck_el h
    obtain ⟨x30, σ29, f28, h⟩ := bd_el h
    refine RN_callV (M := M_X12_least) (pc := 62) (idx := 357) (as := [.int v1, .int v2, .int v3, .int v4, .int v5]) (st := []) (t_X12_leastOf f28) (by decide +kernel) lk_RX12_357 rfl ⟨by decide, fun q hq => by cases hq; rfl⟩ c27 (Nat.le_of_ble_eq_true rfl) ⟨Nat.le_of_ble_eq_true rfl, Nat.le_of_ble_eq_true rfl⟩ rfl ?_
    show RN G M_X12_least 65 [some (.ref v0), some (.int v1), some (.int v2), some (.int v3), some (.int v4), some (.int v5)] [.int x30] σ29 _ _
    obtain ⟨rfl, rfl⟩ := some_el2 h
    exact RN_ireturn (by decide +kernel) rfl
  · replace h := it_t c26 h
    refine RN_iconst (pc := 52) (n := -1) (v := -1) (by decide +kernel) (by decide) ?_
    obtain ⟨rfl, rfl⟩ := some_el2 h
    exact RN_ireturn (by decide +kernel) rfl
def f_X12_least (n : Nat) (v0 : Nat) (v1 : Int32) (v2 : Int32) (v3 : Int32) (v4 : Int32) (v5 : Int32) (σ : Sg) : Option (Int32 × Sg) :=
  ck (okO σ v0 11) <|
  bp (f_X12_isProgram v0 v1 σ) fun x17 =>
  if x17 = 0 then (
    some ((-1 : Int32), σ))
  else (
    bp (f_X12_in v2 (0 : Int32) (6 : Int32)) fun x20 =>
    if x20 = 0 then (
      some ((-1 : Int32), σ))
    else (
      if v2 = (2 : Int32) then (
        bp (f_X12_isProgram v0 v3 σ) fun x32 =>
        if x32 = 0 then (
          some ((-1 : Int32), σ))
        else (
          b_X12_least_39 n v0 v1 v2 v3 v4 v5 σ))
      else (
        if v3 = (-1 : Int32) then (
          b_X12_least_39 n v0 v1 v2 v3 v4 v5 σ)
        else (
          some ((-1 : Int32), σ)))))
set_option maxRecDepth 20000 in
theorem t_X12_least {G : Gl} {xr : Int32} {σr : Sg} {n : Nat} {v0 : Nat} {v1 : Int32} {v2 : Int32} {v3 : Int32} {v4 : Int32} {v5 : Int32} {σ : Sg} (h : f_X12_least n v0 v1 v2 v3 v4 v5 σ = some (xr, σr)) : MT G M_X12_least [.ref v0, .int v1, .int v2, .int v3, .int v4, .int v5] σ (some (.int xr)) σr := by
  refine MT_of rfl rfl (Nat.le_of_ble_eq_true rfl) ?_
  show RN G M_X12_least 0 [some (.ref v0), some (.int v1), some (.int v2), some (.int v3), some (.int v4), some (.int v5)] [] σ (.inl (some (.int xr))) σr
  unfold f_X12_least at h
  refine RN_aload_n (pc := 0) (k := 0) (by decide +kernel) rfl rfl ?_
  refine RN_iload_n (pc := 1) (k := 1) (by decide +kernel) rfl rfl ?_
  obtain ⟨c15, h⟩ := ck_el h
  obtain ⟨x17, f16, h⟩ := bp_el h
  refine RN_callV (M := M_X12_least) (pc := 2) (idx := 172) (as := [.int v1]) (st := []) (t_X12_isProgram f16) (by decide +kernel) lk_RX12_172 rfl ⟨by decide, fun q hq => by cases hq; rfl⟩ c15 (Nat.le_of_ble_eq_true rfl) ⟨Nat.le_of_ble_eq_true rfl, Nat.le_of_ble_eq_true rfl⟩ rfl ?_
  show RN G M_X12_least 5 [some (.ref v0), some (.int v1), some (.int v2), some (.int v3), some (.int v4), some (.int v5)] [.int x17] σ _ _
  refine RN_if_eq (pc := 5) (off := 47) (tgt := 52) (by decide +kernel) (by decide) (fun c18 => ?_) (fun c18 => ?_)
  · replace h := it_t c18 h
    refine RN_iconst (pc := 52) (n := -1) (v := -1) (by decide +kernel) (by decide) ?_
    obtain ⟨rfl, rfl⟩ := some_el2 h
    exact RN_ireturn (by decide +kernel) rfl
  · replace h := it_f c18 h
    refine RN_iload_n (pc := 8) (k := 2) (by decide +kernel) rfl rfl ?_
    refine RN_iconst (pc := 9) (n := 0) (v := 0) (by decide +kernel) (by decide) ?_
    refine RN_bipush (pc := 10) (n := 6) (v := 6) (by decide +kernel) (by decide) ?_
    obtain ⟨x20, f19, h⟩ := bp_el h
    refine RN_callS (M := M_X12_least) (pc := 12) (idx := 159) (as := [.int v2, .int (0 : Int32), .int (6 : Int32)]) (st := []) (t_X12_in f19) (by decide +kernel) lk_RX12_159 rfl (Nat.le_of_ble_eq_true rfl) ⟨Nat.le_of_ble_eq_true rfl, Nat.le_of_ble_eq_true rfl⟩ rfl ?_
    show RN G M_X12_least 15 [some (.ref v0), some (.int v1), some (.int v2), some (.int v3), some (.int v4), some (.int v5)] [.int x20] σ _ _
    refine RN_if_eq (pc := 15) (off := 37) (tgt := 52) (by decide +kernel) (by decide) (fun c21 => ?_) (fun c21 => ?_)
    · replace h := it_t c21 h
      refine RN_iconst (pc := 52) (n := -1) (v := -1) (by decide +kernel) (by decide) ?_
      obtain ⟨rfl, rfl⟩ := some_el2 h
      exact RN_ireturn (by decide +kernel) rfl
    · replace h := it_f c21 h
      refine RN_iload_n (pc := 18) (k := 2) (by decide +kernel) rfl rfl ?_
      refine RN_iconst (pc := 19) (n := 2) (v := 2) (by decide +kernel) (by decide) ?_
      refine RN_icmp_ne (pc := 20) (off := 14) (tgt := 34) (by decide +kernel) (by decide) (fun c22 => ?_) (fun c22 => ?_)
      · replace h := it_f c22 h
        refine RN_iload_n (pc := 34) (k := 3) (by decide +kernel) rfl rfl ?_
        refine RN_iconst (pc := 35) (n := -1) (v := -1) (by decide +kernel) (by decide) ?_
        refine RN_icmp_ne (pc := 36) (off := 16) (tgt := 52) (by decide +kernel) (by decide) (fun c23 => ?_) (fun c23 => ?_)
        · replace h := it_f c23 h
          refine RN_iconst (pc := 52) (n := -1) (v := -1) (by decide +kernel) (by decide) ?_
          obtain ⟨rfl, rfl⟩ := some_el2 h
          exact RN_ireturn (by decide +kernel) rfl
        · replace h := it_t c23 h
          exact RN_weak (l := [some (.ref v0), some (.int v1), some (.int v2), some (.int v3), some (.int v4), some (.int v5)]) (And.intro rfl (And.intro rfl (And.intro rfl (And.intro rfl (And.intro rfl (And.intro rfl trivial)))))) (tb_X12_least_39 n v0 v1 v2 v3 v4 v5 σ h)
      · replace h := it_t c22 h
        refine RN_aload_n (pc := 23) (k := 0) (by decide +kernel) rfl rfl ?_
        refine RN_iload_n (pc := 24) (k := 3) (by decide +kernel) rfl rfl ?_
        obtain ⟨x32, f31, h⟩ := bp_el h
        refine RN_callV (M := M_X12_least) (pc := 25) (idx := 172) (as := [.int v3]) (st := []) (t_X12_isProgram f31) (by decide +kernel) lk_RX12_172 rfl ⟨by decide, fun q hq => by cases hq; rfl⟩ c15 (Nat.le_of_ble_eq_true rfl) ⟨Nat.le_of_ble_eq_true rfl, Nat.le_of_ble_eq_true rfl⟩ rfl ?_
        show RN G M_X12_least 28 [some (.ref v0), some (.int v1), some (.int v2), some (.int v3), some (.int v4), some (.int v5)] [.int x32] σ _ _
        refine RN_if_ne (pc := 28) (off := 11) (tgt := 39) (by decide +kernel) (by decide) (fun c33 => ?_) (fun c33 => ?_)
        · replace h := it_f c33 h
          exact RN_weak (l := [some (.ref v0), some (.int v1), some (.int v2), some (.int v3), some (.int v4), some (.int v5)]) (And.intro rfl (And.intro rfl (And.intro rfl (And.intro rfl (And.intro rfl (And.intro rfl trivial)))))) (tb_X12_least_39 n v0 v1 v2 v3 v4 v5 σ h)
        · replace h := it_t c33 h
          refine RN_goto (pc := 31) (off := 21) (tgt := 52) (by decide +kernel) (by decide) ?_
          refine RN_iconst (pc := 52) (n := -1) (v := -1) (by decide +kernel) (by decide) ?_
          obtain ⟨rfl, rfl⟩ := some_el2 h
          exact RN_ireturn (by decide +kernel) rfl
def b_X12_steps_107 : Nat → Nat → Int32 → Int32 → Sg → Option (Int32 × Sg)
  | 0, _, _, _, _ => none
  | n + 1, v0, v4, v5, σ =>
  if v5 ≤ v4 then (
    some ((1 : Int32), σ))
  else (
    ck (okO σ v0 11) <|
    ck (¬ gR σ v0 46 = 0) <|
    nm (gR σ v0 46) fun r88 =>
    ck (okA σ r88 13 v4) <|
    nm (gI σ r88 v4.toNatClampNeg) fun x90 =>
    nm (gR σ v0 46) fun r91 =>
    nm (gR σ v0 46) fun r92 =>
    ck (okA σ r92 13 v5) <|
    ck (okW σ r91 13 v4) <|
    nm (pI σ r91 v4.toNatClampNeg (gI σ r92 v5.toNatClampNeg)) fun σ95 =>
    ck (okO σ95 v0 11) <|
    ck (¬ gR σ95 v0 46 = 0) <|
    nm (gR σ95 v0 46) fun r98 =>
    ck (okW σ95 r98 13 v5) <|
    nm (pI σ95 r98 v5.toNatClampNeg x90) fun σ100 =>
    nm (v4 + (1 : Int32)) fun x101 =>
    nm (v5 + ((-1) : Int32)) fun x102 =>
    b_X12_steps_107 n v0 x101 x102 σ100)
set_option maxRecDepth 20000 in
theorem tb_X12_steps_107 {G : Gl} {xr : Int32} {σr : Sg} (v0 : Nat) : ∀ (n : Nat) (v4 : Int32) (v5 : Int32) (σ : Sg), b_X12_steps_107 n v0 v4 v5 σ = some (xr, σr) → RN G M_X12_steps 107 [some (.ref v0), none, none, none, some (.int v4), some (.int v5)] [] σ (.inl (some (.int xr))) σr := by
  intro n
  induction n with
  | zero =>
    intro v4 v5 σ h
    exact none_el h
  | succ n ih =>
    intro v4 v5 σ h
    rw [b_X12_steps_107] at h
    refine RN_iload (pc := 107) (i := 4) (by decide +kernel) rfl ?_
    refine RN_iload (pc := 109) (i := 5) (by decide +kernel) rfl ?_
    refine RN_icmp_ge (pc := 111) (off := 42) (tgt := 153) (by decide +kernel) (by decide) (fun c85 => ?_) (fun c85 => ?_)
    · replace h := it_t c85 h
      refine RN_iconst (pc := 153) (n := 1) (v := 1) (by decide +kernel) (by decide) ?_
      obtain ⟨rfl, rfl⟩ := some_el2 h
      exact RN_zreturn (by decide +kernel) rfl (Or.inr rfl)
    · replace h := it_f c85 h
      refine RN_aload_n (pc := 114) (k := 0) (by decide +kernel) rfl rfl ?_
      obtain ⟨c86, h⟩ := ck_el h
      obtain ⟨c87, h⟩ := ck_el h
      refine RN_getR (pc := 115) (idx := 110) (ci := 11) (k := 46) (by decide +kernel) lf_RX12_110 rfl c86 c87 ?_
      obtain ⟨r88, er88, h⟩ := nm_el h
      refine RN_nmR er88 ?_
      refine RN_iload (pc := 118) (i := 4) (by decide +kernel) rfl ?_
      obtain ⟨c89, h⟩ := ck_el h
      refine RN_iald (pc := 120) (by decide +kernel) c89 ?_
      obtain ⟨x90, ex90, h⟩ := nm_el h
      refine RN_nmI ex90 ?_
      refine RN_istore_n (pc := 121) (k := 3) (ls2 := [some (.ref v0), none, none, some (.int x90), some (.int v4), some (.int v5)]) (by decide +kernel) rfl (by decide) rfl ?_
      refine RN_aload_n (pc := 122) (k := 0) (by decide +kernel) rfl rfl ?_
      refine RN_getR (pc := 123) (idx := 110) (ci := 11) (k := 46) (by decide +kernel) lf_RX12_110 rfl c86 c87 ?_
      obtain ⟨r91, er91, h⟩ := nm_el h
      refine RN_nmR er91 ?_
      refine RN_iload (pc := 126) (i := 4) (by decide +kernel) rfl ?_
      refine RN_aload_n (pc := 128) (k := 0) (by decide +kernel) rfl rfl ?_
      refine RN_getR (pc := 129) (idx := 110) (ci := 11) (k := 46) (by decide +kernel) lf_RX12_110 rfl c86 c87 ?_
      obtain ⟨r92, er92, h⟩ := nm_el h
      refine RN_nmR er92 ?_
      refine RN_iload (pc := 132) (i := 5) (by decide +kernel) rfl ?_
      obtain ⟨c93, h⟩ := ck_el h
      refine RN_iald (pc := 134) (by decide +kernel) c93 ?_
      obtain ⟨c94, h⟩ := ck_el h
      refine RN_iast (pc := 135) (by decide +kernel) c94 ?_
      obtain ⟨σ95, eσ95, h⟩ := nm_el h
      refine RN_nmS eσ95 ?_
      refine RN_aload_n (pc := 136) (k := 0) (by decide +kernel) rfl rfl ?_
      obtain ⟨c96, h⟩ := ck_el h
      obtain ⟨c97, h⟩ := ck_el h
      refine RN_getR (pc := 137) (idx := 110) (ci := 11) (k := 46) (by decide +kernel) lf_RX12_110 rfl c96 c97 ?_
      obtain ⟨r98, er98, h⟩ := nm_el h
      refine RN_nmR er98 ?_
      refine RN_iload (pc := 140) (i := 5) (by decide +kernel) rfl ?_
      refine RN_iload_n (pc := 142) (k := 3) (by decide +kernel) rfl rfl ?_
      obtain ⟨c99, h⟩ := ck_el h
      refine RN_iast (pc := 143) (by decide +kernel) c99 ?_
      obtain ⟨σ100, eσ100, h⟩ := nm_el h
      refine RN_nmS eσ100 ?_
      obtain ⟨x101, ex101, h⟩ := nm_el h
      refine RN_iinc (pc := 144) (i := 4) (n := 1) (v := x101) (ls2 := [some (.ref v0), none, none, some (.int x90), some (.int x101), some (.int v5)]) (by decide +kernel) rfl (by rw [ex101]; rfl) (by decide) rfl ?_
      obtain ⟨x102, ex102, h⟩ := nm_el h
      refine RN_iinc (pc := 147) (i := 5) (n := -1) (v := x102) (ls2 := [some (.ref v0), none, none, some (.int x90), some (.int x101), some (.int x102)]) (by decide +kernel) rfl (by rw [ex102]; rfl) (by decide) rfl ?_
      refine RN_goto (pc := 150) (off := -43) (tgt := 107) (by decide +kernel) (by decide) ?_
      exact RN_weak (l := [some (.ref v0), none, none, none, some (.int x101), some (.int x102)]) (And.intro rfl (And.intro rfl (And.intro rfl trivial))) (ih x101 x102 σ100 h)
def b_X12_steps_68 (n : Nat) (v0 : Nat) (v1 : Int32) (v2 : Int32) (σ : Sg) : Option (Int32 × Sg) :=
  ck (okO σ v0 11) <|
  ck (¬ gR σ v0 46 = 0) <|
  nm (gR σ v0 46) fun r69 =>
  ck (okA σ r69 13 v1) <|
  nm (gI σ r69 v1.toNatClampNeg) fun x71 =>
  nm (gR σ v0 46) fun r72 =>
  nm (gR σ v0 46) fun r73 =>
  ck (okA σ r73 13 v2) <|
  ck (okW σ r72 13 v1) <|
  nm (pI σ r72 v1.toNatClampNeg (gI σ r73 v2.toNatClampNeg)) fun σ76 =>
  ck (okO σ76 v0 11) <|
  ck (¬ gR σ76 v0 46 = 0) <|
  nm (gR σ76 v0 46) fun r79 =>
  ck (okW σ76 r79 13 v2) <|
  nm (pI σ76 r79 v2.toNatClampNeg x71) fun σ81 =>
  nm (v1 + (1 : Int32)) fun x82 =>
  ck (okO σ81 v0 11) <|
  nm ((gI σ81 v0 3) - (1 : Int32)) fun x84 =>
  b_X12_steps_107 n v0 x82 x84 σ81
set_option maxRecDepth 20000 in
theorem tb_X12_steps_68 {G : Gl} {xr : Int32} {σr : Sg} (n : Nat) (v0 : Nat) (v1 : Int32) (v2 : Int32) (σ : Sg) (h : b_X12_steps_68 n v0 v1 v2 σ = some (xr, σr)) : RN G M_X12_steps 68 [some (.ref v0), some (.int v1), some (.int v2)] [] σ (.inl (some (.int xr))) σr := by
  unfold b_X12_steps_68 at h
  refine RN_aload_n (pc := 68) (k := 0) (by decide +kernel) rfl rfl ?_
  obtain ⟨c67, h⟩ := ck_el h
  obtain ⟨c68, h⟩ := ck_el h
  refine RN_getR (pc := 69) (idx := 110) (ci := 11) (k := 46) (by decide +kernel) lf_RX12_110 rfl c67 c68 ?_
  obtain ⟨r69, er69, h⟩ := nm_el h
  refine RN_nmR er69 ?_
  refine RN_iload_n (pc := 72) (k := 1) (by decide +kernel) rfl rfl ?_
  obtain ⟨c70, h⟩ := ck_el h
  refine RN_iald (pc := 73) (by decide +kernel) c70 ?_
  obtain ⟨x71, ex71, h⟩ := nm_el h
  refine RN_nmI ex71 ?_
  refine RN_istore_n (pc := 74) (k := 3) (ls2 := [some (.ref v0), some (.int v1), some (.int v2), some (.int x71)]) (by decide +kernel) rfl (by decide) rfl ?_
  refine RN_aload_n (pc := 75) (k := 0) (by decide +kernel) rfl rfl ?_
  refine RN_getR (pc := 76) (idx := 110) (ci := 11) (k := 46) (by decide +kernel) lf_RX12_110 rfl c67 c68 ?_
  obtain ⟨r72, er72, h⟩ := nm_el h
  refine RN_nmR er72 ?_
  refine RN_iload_n (pc := 79) (k := 1) (by decide +kernel) rfl rfl ?_
  refine RN_aload_n (pc := 80) (k := 0) (by decide +kernel) rfl rfl ?_
  refine RN_getR (pc := 81) (idx := 110) (ci := 11) (k := 46) (by decide +kernel) lf_RX12_110 rfl c67 c68 ?_
  obtain ⟨r73, er73, h⟩ := nm_el h
  refine RN_nmR er73 ?_
  refine RN_iload_n (pc := 84) (k := 2) (by decide +kernel) rfl rfl ?_
  obtain ⟨c74, h⟩ := ck_el h
  refine RN_iald (pc := 85) (by decide +kernel) c74 ?_
  obtain ⟨c75, h⟩ := ck_el h
  refine RN_iast (pc := 86) (by decide +kernel) c75 ?_
  obtain ⟨σ76, eσ76, h⟩ := nm_el h
  refine RN_nmS eσ76 ?_
  refine RN_aload_n (pc := 87) (k := 0) (by decide +kernel) rfl rfl ?_
  obtain ⟨c77, h⟩ := ck_el h
  obtain ⟨c78, h⟩ := ck_el h
  refine RN_getR (pc := 88) (idx := 110) (ci := 11) (k := 46) (by decide +kernel) lf_RX12_110 rfl c77 c78 ?_
  obtain ⟨r79, er79, h⟩ := nm_el h
  refine RN_nmR er79 ?_
  refine RN_iload_n (pc := 91) (k := 2) (by decide +kernel) rfl rfl ?_
  refine RN_iload_n (pc := 92) (k := 3) (by decide +kernel) rfl rfl ?_
  obtain ⟨c80, h⟩ := ck_el h
  refine RN_iast (pc := 93) (by decide +kernel) c80 ?_
  obtain ⟨σ81, eσ81, h⟩ := nm_el h
  refine RN_nmS eσ81 ?_
  refine RN_iload_n (pc := 94) (k := 1) (by decide +kernel) rfl rfl ?_
  refine RN_iconst (pc := 95) (n := 1) (v := 1) (by decide +kernel) (by decide) ?_
  refine RN_iadd (pc := 96) (by decide +kernel) ?_
  obtain ⟨x82, ex82, h⟩ := nm_el h
  refine RN_nmI ex82 ?_
  refine RN_istore (pc := 97) (i := 4) (ls2 := [some (.ref v0), some (.int v1), some (.int v2), some (.int x71), some (.int x82)]) (by decide +kernel) (by decide) rfl ?_
  refine RN_aload_n (pc := 99) (k := 0) (by decide +kernel) rfl rfl ?_
  obtain ⟨c83, h⟩ := ck_el h
  refine RN_getI (pc := 100) (idx := 137) (ci := 11) (k := 3) (by decide +kernel) lf_RX12_137 (Or.inl rfl) c83 ?_
  refine RN_iconst (pc := 103) (n := 1) (v := 1) (by decide +kernel) (by decide) ?_
  refine RN_isub (pc := 104) (by decide +kernel) ?_
  obtain ⟨x84, ex84, h⟩ := nm_el h
  refine RN_nmI ex84 ?_
  refine RN_istore (pc := 105) (i := 5) (ls2 := [some (.ref v0), some (.int v1), some (.int v2), some (.int x71), some (.int x82), some (.int x84)]) (by decide +kernel) (by decide) rfl ?_
  exact RN_weak (l := [some (.ref v0), none, none, none, some (.int x82), some (.int x84)]) (And.intro rfl (And.intro rfl (And.intro rfl trivial))) (tb_X12_steps_107 v0 n x82 x84 σ81 h)
def b_X12_steps_47 : Nat → Nat → Int32 → Int32 → Sg → Option (Int32 × Sg)
  | 0, _, _, _, _ => none
  | n + 1, v0, v1, v2, σ =>
  ck (okO σ v0 11) <|
  ck (¬ gR σ v0 46 = 0) <|
  nm (gR σ v0 46) fun r62 =>
  ck (okA σ r62 13 v2) <|
  nm (gR σ v0 46) fun r64 =>
  ck (okA σ r64 13 v1) <|
  if (gI σ r64 v1.toNatClampNeg) ≤ (gI σ r62 v2.toNatClampNeg) then (
    b_X12_steps_68 n v0 v1 v2 σ)
  else (
    nm (v2 + ((-1) : Int32)) fun x103 =>
    b_X12_steps_47 n v0 v1 x103 σ)
set_option maxRecDepth 20000 in
theorem tb_X12_steps_47 {G : Gl} {xr : Int32} {σr : Sg} (v0 : Nat) (v1 : Int32) (σ : Sg) : ∀ (n : Nat) (v2 : Int32), b_X12_steps_47 n v0 v1 v2 σ = some (xr, σr) → RN G M_X12_steps 47 [some (.ref v0), some (.int v1), some (.int v2)] [] σ (.inl (some (.int xr))) σr := by
  intro n
  induction n with
  | zero =>
    intro v2 h
    exact none_el h
  | succ n ih =>
    intro v2 h
    rw [b_X12_steps_47] at h
    refine RN_aload_n (pc := 47) (k := 0) (by decide +kernel) rfl rfl ?_
    obtain ⟨c60, h⟩ := ck_el h
    obtain ⟨c61, h⟩ := ck_el h
    refine RN_getR (pc := 48) (idx := 110) (ci := 11) (k := 46) (by decide +kernel) lf_RX12_110 rfl c60 c61 ?_
    obtain ⟨r62, er62, h⟩ := nm_el h
    refine RN_nmR er62 ?_
    refine RN_iload_n (pc := 51) (k := 2) (by decide +kernel) rfl rfl ?_
    obtain ⟨c63, h⟩ := ck_el h
    refine RN_iald (pc := 52) (by decide +kernel) c63 ?_
    refine RN_aload_n (pc := 53) (k := 0) (by decide +kernel) rfl rfl ?_
    refine RN_getR (pc := 54) (idx := 110) (ci := 11) (k := 46) (by decide +kernel) lf_RX12_110 rfl c60 c61 ?_
    obtain ⟨r64, er64, h⟩ := nm_el h
    refine RN_nmR er64 ?_
    refine RN_iload_n (pc := 57) (k := 1) (by decide +kernel) rfl rfl ?_
    obtain ⟨c65, h⟩ := ck_el h
    refine RN_iald (pc := 58) (by decide +kernel) c65 ?_
    refine RN_icmp_ge (pc := 59) (off := 9) (tgt := 68) (by decide +kernel) (by decide) (fun c66 => ?_) (fun c66 => ?_)
    · replace h := it_t c66 h
      exact RN_weak (l := [some (.ref v0), some (.int v1), some (.int v2)]) (And.intro rfl (And.intro rfl (And.intro rfl trivial))) (tb_X12_steps_68 n v0 v1 v2 σ h)
    · replace h := it_f c66 h
      obtain ⟨x103, ex103, h⟩ := nm_el h
      refine RN_iinc (pc := 62) (i := 2) (n := -1) (v := x103) (ls2 := [some (.ref v0), some (.int v1), some (.int x103)]) (by decide +kernel) rfl (by rw [ex103]; rfl) (by decide) rfl ?_
      refine RN_goto (pc := 65) (off := -18) (tgt := 47) (by decide +kernel) (by decide) ?_
      exact RN_weak (l := [some (.ref v0), some (.int v1), some (.int x103)]) (And.intro rfl (And.intro rfl (And.intro rfl trivial))) (ih x103 h)
def b_X12_steps_34 (n : Nat) (v0 : Nat) (v1 : Int32) (σ : Sg) : Option (Int32 × Sg) :=
  if 0 ≤ v1 then (
    ck (okO σ v0 11) <|
    nm ((gI σ v0 3) - (1 : Int32)) fun x59 =>
    b_X12_steps_47 n v0 v1 x59 σ)
  else (
    some ((0 : Int32), σ))
set_option maxRecDepth 20000 in
theorem tb_X12_steps_34 {G : Gl} {xr : Int32} {σr : Sg} (n : Nat) (v0 : Nat) (v1 : Int32) (σ : Sg) (h : b_X12_steps_34 n v0 v1 σ = some (xr, σr)) : RN G M_X12_steps 34 [some (.ref v0), some (.int v1)] [] σ (.inl (some (.int xr))) σr := by
  unfold b_X12_steps_34 at h
  refine RN_iload_n (pc := 34) (k := 1) (by decide +kernel) rfl rfl ?_
  refine RN_if_ge (pc := 35) (off := 5) (tgt := 40) (by decide +kernel) (by decide) (fun c57 => ?_) (fun c57 => ?_)
  · replace h := it_t c57 h
    refine RN_aload_n (pc := 40) (k := 0) (by decide +kernel) rfl rfl ?_
    obtain ⟨c58, h⟩ := ck_el h
    refine RN_getI (pc := 41) (idx := 137) (ci := 11) (k := 3) (by decide +kernel) lf_RX12_137 (Or.inl rfl) c58 ?_
    refine RN_iconst (pc := 44) (n := 1) (v := 1) (by decide +kernel) (by decide) ?_
    refine RN_isub (pc := 45) (by decide +kernel) ?_
    obtain ⟨x59, ex59, h⟩ := nm_el h
    refine RN_nmI ex59 ?_
    refine RN_istore_n (pc := 46) (k := 2) (ls2 := [some (.ref v0), some (.int v1), some (.int x59)]) (by decide +kernel) rfl (by decide) rfl ?_
    exact RN_weak (l := [some (.ref v0), some (.int v1), some (.int x59)]) (And.intro rfl (And.intro rfl (And.intro rfl trivial))) (tb_X12_steps_47 v0 v1 σ n x59 h)
  · replace h := it_f c57 h
    refine RN_iconst (pc := 38) (n := 0) (v := 0) (by decide +kernel) (by decide) ?_
    obtain ⟨rfl, rfl⟩ := some_el2 h
    exact RN_zreturn (by decide +kernel) rfl (Or.inl rfl)
def b_X12_steps_7 : Nat → Nat → Int32 → Sg → Option (Int32 × Sg)
  | 0, _, _, _ => none
  | n + 1, v0, v1, σ =>
  if v1 < 0 then (
    b_X12_steps_34 n v0 v1 σ)
  else (
    ck (okO σ v0 11) <|
    ck (¬ gR σ v0 46 = 0) <|
    nm (gR σ v0 46) fun r106 =>
    ck (okA σ r106 13 v1) <|
    nm (gR σ v0 46) fun r108 =>
    ck (okA σ r108 13 (v1 + (1 : Int32))) <|
    if (gI σ r106 v1.toNatClampNeg) ≤ (gI σ r108 (v1 + (1 : Int32)).toNatClampNeg) then (
      b_X12_steps_34 n v0 v1 σ)
    else (
      nm (v1 + ((-1) : Int32)) fun x111 =>
      b_X12_steps_7 n v0 x111 σ))
set_option maxRecDepth 20000 in
theorem tb_X12_steps_7 {G : Gl} {xr : Int32} {σr : Sg} (v0 : Nat) (σ : Sg) : ∀ (n : Nat) (v1 : Int32), b_X12_steps_7 n v0 v1 σ = some (xr, σr) → RN G M_X12_steps 7 [some (.ref v0), some (.int v1)] [] σ (.inl (some (.int xr))) σr := by
  intro n
  induction n with
  | zero =>
    intro v1 h
    exact none_el h
  | succ n ih =>
    intro v1 h
    rw [b_X12_steps_7] at h
    refine RN_iload_n (pc := 7) (k := 1) (by decide +kernel) rfl rfl ?_
    refine RN_if_lt (pc := 8) (off := 26) (tgt := 34) (by decide +kernel) (by decide) (fun c56 => ?_) (fun c56 => ?_)
    · replace h := it_t c56 h
      exact RN_weak (l := [some (.ref v0), some (.int v1)]) (And.intro rfl (And.intro rfl trivial)) (tb_X12_steps_34 n v0 v1 σ h)
    · replace h := it_f c56 h
      refine RN_aload_n (pc := 11) (k := 0) (by decide +kernel) rfl rfl ?_
      obtain ⟨c104, h⟩ := ck_el h
      obtain ⟨c105, h⟩ := ck_el h
      refine RN_getR (pc := 12) (idx := 110) (ci := 11) (k := 46) (by decide +kernel) lf_RX12_110 rfl c104 c105 ?_
      obtain ⟨r106, er106, h⟩ := nm_el h
      refine RN_nmR er106 ?_
      refine RN_iload_n (pc := 15) (k := 1) (by decide +kernel) rfl rfl ?_
      obtain ⟨c107, h⟩ := ck_el h
      refine RN_iald (pc := 16) (by decide +kernel) c107 ?_
      refine RN_aload_n (pc := 17) (k := 0) (by decide +kernel) rfl rfl ?_
      refine RN_getR (pc := 18) (idx := 110) (ci := 11) (k := 46) (by decide +kernel) lf_RX12_110 rfl c104 c105 ?_
      obtain ⟨r108, er108, h⟩ := nm_el h
      refine RN_nmR er108 ?_
      refine RN_iload_n (pc := 21) (k := 1) (by decide +kernel) rfl rfl ?_
      refine RN_iconst (pc := 22) (n := 1) (v := 1) (by decide +kernel) (by decide) ?_
      refine RN_iadd (pc := 23) (by decide +kernel) ?_
      obtain ⟨c109, h⟩ := ck_el h
      refine RN_iald (pc := 24) (by decide +kernel) c109 ?_
      refine RN_icmp_le (pc := 25) (off := 9) (tgt := 34) (by decide +kernel) (by decide) (fun c110 => ?_) (fun c110 => ?_)
      · replace h := it_t c110 h
        exact RN_weak (l := [some (.ref v0), some (.int v1)]) (And.intro rfl (And.intro rfl trivial)) (tb_X12_steps_34 n v0 v1 σ h)
      · replace h := it_f c110 h
        obtain ⟨x111, ex111, h⟩ := nm_el h
        refine RN_iinc (pc := 28) (i := 1) (n := -1) (v := x111) (ls2 := [some (.ref v0), some (.int x111)]) (by decide +kernel) rfl (by rw [ex111]; rfl) (by decide) rfl ?_
        refine RN_goto (pc := 31) (off := -24) (tgt := 7) (by decide +kernel) (by decide) ?_
        exact RN_weak (l := [some (.ref v0), some (.int x111)]) (And.intro rfl (And.intro rfl trivial)) (ih x111 h)
def f_X12_steps (n : Nat) (v0 : Nat) (σ : Sg) : Option (Int32 × Sg) :=
  ck (okO σ v0 11) <|
  nm ((gI σ v0 3) - (2 : Int32)) fun x55 =>
  b_X12_steps_7 n v0 x55 σ
set_option maxRecDepth 20000 in
theorem t_X12_steps {G : Gl} {xr : Int32} {σr : Sg} {n : Nat} {v0 : Nat} {σ : Sg} (h : f_X12_steps n v0 σ = some (xr, σr)) : MT G M_X12_steps [.ref v0] σ (some (.int xr)) σr := by
  refine MT_of rfl rfl (Nat.le_of_ble_eq_true rfl) ?_
  show RN G M_X12_steps 0 [some (.ref v0)] [] σ (.inl (some (.int xr))) σr
  unfold f_X12_steps at h
  refine RN_aload_n (pc := 0) (k := 0) (by decide +kernel) rfl rfl ?_
  obtain ⟨c54, h⟩ := ck_el h
  refine RN_getI (pc := 1) (idx := 137) (ci := 11) (k := 3) (by decide +kernel) lf_RX12_137 (Or.inl rfl) c54 ?_
  refine RN_iconst (pc := 4) (n := 2) (v := 2) (by decide +kernel) (by decide) ?_
  refine RN_isub (pc := 5) (by decide +kernel) ?_
  obtain ⟨x55, ex55, h⟩ := nm_el h
  refine RN_nmI ex55 ?_
  refine RN_istore_n (pc := 6) (k := 1) (ls2 := [some (.ref v0), some (.int x55)]) (by decide +kernel) rfl (by decide) rfl ?_
  exact RN_weak (l := [some (.ref v0), some (.int x55)]) (And.intro rfl (And.intro rfl trivial)) (tb_X12_steps_7 v0 σ n x55 h)
def b_X12_triesOrder_41 (n : Nat) (v0 : Nat) (v1 : Int32) (σ : Sg) : Option (Int32 × Sg) :=
  ck (okO σ v0 11) <|
  bd (f_X12_tries n v0 v1 σ) fun x27 σ26 =>
  ck (x27 = 0 ∨ x27 = 1) <|
  some (x27, σ26)
set_option maxRecDepth 20000 in
theorem tb_X12_triesOrder_41 {G : Gl} {xr : Int32} {σr : Sg} (n : Nat) (v0 : Nat) (v1 : Int32) (σ : Sg) (h : b_X12_triesOrder_41 n v0 v1 σ = some (xr, σr)) : RN G M_X12_triesOrder 41 [some (.ref v0), some (.int v1)] [] σ (.inl (some (.int xr))) σr := by
  unfold b_X12_triesOrder_41 at h
  refine RN_aload_n (pc := 41) (k := 0) (by decide +kernel) rfl rfl ?_
  refine RN_iload_n (pc := 42) (k := 1) (by decide +kernel) rfl rfl ?_
  obtain ⟨c24, h⟩ := ck_el h
  obtain ⟨x27, σ26, f25, h⟩ := bd_el h
  refine RN_callV (M := M_X12_triesOrder) (pc := 43) (idx := 287) (as := [.int v1]) (st := []) (t_X12_tries f25) (by decide +kernel) lk_RX12_287 rfl ⟨by decide, fun q hq => by cases hq; rfl⟩ c24 (Nat.le_of_ble_eq_true rfl) ⟨Nat.le_of_ble_eq_true rfl, Nat.le_of_ble_eq_true rfl⟩ rfl ?_
  show RN G M_X12_triesOrder 46 [some (.ref v0), some (.int v1)] [.int x27] σ26 _ _
  obtain ⟨c28, h⟩ := ck_el h
  obtain ⟨rfl, rfl⟩ := some_el2 h
  exact RN_zreturn (by decide +kernel) rfl c28
def b_X12_triesOrder_10 : Nat → Nat → Int32 → Int32 → Sg → Option (Int32 × Sg)
  | 0, _, _, _, _ => none
  | n + 1, v0, v1, v2, σ =>
  ck (okO σ v0 11) <|
  if (gI σ v0 3) ≤ v2 then (
    b_X12_triesOrder_41 n v0 v1 σ)
  else (
    ck (¬ gR σ v0 18 = 0) <|
    nm (gR σ v0 18) fun r30 =>
    ck (¬ gR σ v0 4 = 0) <|
    nm (gR σ v0 4) fun r32 =>
    ck (¬ gR σ v0 46 = 0) <|
    nm (gR σ v0 46) fun r34 =>
    ck (okA σ r34 13 v2) <|
    ck (okA σ r32 13 (gI σ r34 v2.toNatClampNeg)) <|
    ck (okW σ r30 13 v2) <|
    nm (pI σ r30 v2.toNatClampNeg (gI σ r32 (gI σ r34 v2.toNatClampNeg).toNatClampNeg)) fun σ38 =>
    nm (v2 + (1 : Int32)) fun x39 =>
    b_X12_triesOrder_10 n v0 v1 x39 σ38)
set_option maxRecDepth 20000 in
theorem tb_X12_triesOrder_10 {G : Gl} {xr : Int32} {σr : Sg} (v0 : Nat) (v1 : Int32) : ∀ (n : Nat) (v2 : Int32) (σ : Sg), b_X12_triesOrder_10 n v0 v1 v2 σ = some (xr, σr) → RN G M_X12_triesOrder 10 [some (.ref v0), some (.int v1), some (.int v2)] [] σ (.inl (some (.int xr))) σr := by
  intro n
  induction n with
  | zero =>
    intro v2 σ h
    exact none_el h
  | succ n ih =>
    intro v2 σ h
    rw [b_X12_triesOrder_10] at h
    refine RN_iload_n (pc := 10) (k := 2) (by decide +kernel) rfl rfl ?_
    refine RN_aload_n (pc := 11) (k := 0) (by decide +kernel) rfl rfl ?_
    obtain ⟨c22, h⟩ := ck_el h
    refine RN_getI (pc := 12) (idx := 137) (ci := 11) (k := 3) (by decide +kernel) lf_RX12_137 (Or.inl rfl) c22 ?_
    refine RN_icmp_ge (pc := 15) (off := 26) (tgt := 41) (by decide +kernel) (by decide) (fun c23 => ?_) (fun c23 => ?_)
    · replace h := it_t c23 h
      exact RN_weak (l := [some (.ref v0), some (.int v1)]) (And.intro rfl (And.intro rfl trivial)) (tb_X12_triesOrder_41 n v0 v1 σ h)
    · replace h := it_f c23 h
      refine RN_aload_n (pc := 18) (k := 0) (by decide +kernel) rfl rfl ?_
      obtain ⟨c29, h⟩ := ck_el h
      refine RN_getR (pc := 19) (idx := 44) (ci := 11) (k := 18) (by decide +kernel) lf_RX12_44 rfl c22 c29 ?_
      obtain ⟨r30, er30, h⟩ := nm_el h
      refine RN_nmR er30 ?_
      refine RN_iload_n (pc := 22) (k := 2) (by decide +kernel) rfl rfl ?_
      refine RN_aload_n (pc := 23) (k := 0) (by decide +kernel) rfl rfl ?_
      obtain ⟨c31, h⟩ := ck_el h
      refine RN_getR (pc := 24) (idx := 16) (ci := 11) (k := 4) (by decide +kernel) lf_RX12_16 rfl c22 c31 ?_
      obtain ⟨r32, er32, h⟩ := nm_el h
      refine RN_nmR er32 ?_
      refine RN_aload_n (pc := 27) (k := 0) (by decide +kernel) rfl rfl ?_
      obtain ⟨c33, h⟩ := ck_el h
      refine RN_getR (pc := 28) (idx := 110) (ci := 11) (k := 46) (by decide +kernel) lf_RX12_110 rfl c22 c33 ?_
      obtain ⟨r34, er34, h⟩ := nm_el h
      refine RN_nmR er34 ?_
      refine RN_iload_n (pc := 31) (k := 2) (by decide +kernel) rfl rfl ?_
      obtain ⟨c35, h⟩ := ck_el h
      refine RN_iald (pc := 32) (by decide +kernel) c35 ?_
      obtain ⟨c36, h⟩ := ck_el h
      refine RN_iald (pc := 33) (by decide +kernel) c36 ?_
      obtain ⟨c37, h⟩ := ck_el h
      refine RN_iast (pc := 34) (by decide +kernel) c37 ?_
      obtain ⟨σ38, eσ38, h⟩ := nm_el h
      refine RN_nmS eσ38 ?_
      obtain ⟨x39, ex39, h⟩ := nm_el h
      refine RN_iinc (pc := 35) (i := 2) (n := 1) (v := x39) (ls2 := [some (.ref v0), some (.int v1), some (.int x39)]) (by decide +kernel) rfl (by rw [ex39]; rfl) (by decide) rfl ?_
      refine RN_goto (pc := 38) (off := -28) (tgt := 10) (by decide +kernel) (by decide) ?_
      exact RN_weak (l := [some (.ref v0), some (.int v1), some (.int x39)]) (And.intro rfl (And.intro rfl (And.intro rfl trivial))) (ih x39 σ38 h)
def f_X12_triesOrder (n : Nat) (v0 : Nat) (v1 : Int32) (σ : Sg) : Option (Int32 × Sg) :=
  ck (okO σ v0 11) <|
  nm (pI σ v0 17 (gI σ v0 3)) fun σ21 =>
  b_X12_triesOrder_10 n v0 v1 (0 : Int32) σ21
set_option maxRecDepth 20000 in
theorem t_X12_triesOrder {G : Gl} {xr : Int32} {σr : Sg} {n : Nat} {v0 : Nat} {v1 : Int32} {σ : Sg} (h : f_X12_triesOrder n v0 v1 σ = some (xr, σr)) : MT G M_X12_triesOrder [.ref v0, .int v1] σ (some (.int xr)) σr := by
  refine MT_of rfl rfl (Nat.le_of_ble_eq_true rfl) ?_
  show RN G M_X12_triesOrder 0 [some (.ref v0), some (.int v1)] [] σ (.inl (some (.int xr))) σr
  unfold f_X12_triesOrder at h
  refine RN_aload_n (pc := 0) (k := 0) (by decide +kernel) rfl rfl ?_
  refine RN_aload_n (pc := 1) (k := 0) (by decide +kernel) rfl rfl ?_
  obtain ⟨c20, h⟩ := ck_el h
  refine RN_getI (pc := 2) (idx := 137) (ci := 11) (k := 3) (by decide +kernel) lf_RX12_137 (Or.inl rfl) c20 ?_
  refine RN_putI (pc := 5) (idx := 209) (ci := 11) (k := 17) (by decide +kernel) lf_RX12_209 rfl (fun q hq => by cases hq; exact Or.inl rfl) c20 ?_
  obtain ⟨σ21, eσ21, h⟩ := nm_el h
  refine RN_nmS eσ21 ?_
  refine RN_iconst (pc := 8) (n := 0) (v := 0) (by decide +kernel) (by decide) ?_
  refine RN_istore_n (pc := 9) (k := 2) (ls2 := [some (.ref v0), some (.int v1), some (.int (0 : Int32))]) (by decide +kernel) rfl (by decide) rfl ?_
  exact RN_weak (l := [some (.ref v0), some (.int v1), some (.int (0 : Int32))]) (And.intro rfl (And.intro rfl (And.intro rfl trivial))) (tb_X12_triesOrder_10 v0 v1 n (0 : Int32) σ21 h)
