def b_X12_mend_228 (k60 : Int32 → Sg → Option (Int32 × Sg)) (n : Nat) (v0 : Nat) (v1 : Int32) (v2 : Int32) (v3 : Int32) (v4 : Int32) (v5 : Int32) (σ : Sg) : Option (Int32 × Sg) :=
  nm (v5 + (1 : Int32)) fun x91 =>
  k60 x91 σ
set_option maxRecDepth 20000 in
theorem tb_X12_mend_228 {G : Gl} {xr : Int32} {σr : Sg} (n : Nat) (v0 : Nat) (v1 : Int32) (v2 : Int32) (v3 : Int32) (v4 : Int32) (v5 : Int32) (σ : Sg) (k60 : Int32 → Sg → Option (Int32 × Sg)) (hk60 : ∀ (c5 : Int32) (τ : Sg), k60 c5 τ = some (xr, σr) → RN G M_X12_mend 60 [some (.ref v0), some (.int v1), some (.int v2), some (.int v3), some (.int v4), some (.int c5)] [] τ (.inl (some (.int xr))) σr) (h : b_X12_mend_228 k60 n v0 v1 v2 v3 v4 v5 σ = some (xr, σr)) : RN G M_X12_mend 228 [some (.ref v0), some (.int v1), some (.int v2), some (.int v3), some (.int v4), some (.int v5)] [] σ (.inl (some (.int xr))) σr := by
  unfold b_X12_mend_228 at h
  obtain ⟨x91, ex91, h⟩ := nm_el h
  refine RN_iinc (pc := 228) (i := 5) (n := 1) (v := x91) (ls2 := [some (.ref v0), some (.int v1), some (.int v2), some (.int v3), some (.int v4), some (.int x91)]) (by decide +kernel) rfl (by rw [ex91]; rfl) (by decide) rfl ?_
  refine RN_goto (pc := 231) (off := -171) (tgt := 60) (by decide +kernel) (by decide) ?_
  exact RN_weak (l := [some (.ref v0), some (.int v1), some (.int v2), some (.int v3), some (.int v4), some (.int x91)]) (And.intro rfl (And.intro rfl (And.intro rfl (And.intro rfl (And.intro rfl (And.intro rfl trivial)))))) (hk60 x91 σ h)
def b_X12_mend_198 (k60 : Int32 → Sg → Option (Int32 × Sg)) (k125 : Int32 → Sg → Option (Int32 × Sg)) (n : Nat) (v0 : Nat) (v1 : Int32) (v2 : Int32) (v3 : Int32) (v4 : Int32) (v5 : Int32) (v6 : Int32) (v7 : Int32) (v8 : Int32) (s0 : Int32) (σ : Sg) : Option (Int32 × Sg) :=
  ck (okO σ v0 11) <|
  bp (f_X12_chooses v0 v6 v7 σ) fun σ104 =>
  if s0 = 0 then (
    nm (v8 + (1 : Int32)) fun x106 =>
    k125 x106 σ104)
  else (
    some (((10 : Int32) * v5) + v8, σ104))
set_option maxRecDepth 20000 in
theorem tb_X12_mend_198 {G : Gl} {xr : Int32} {σr : Sg} (n : Nat) (v0 : Nat) (v1 : Int32) (v2 : Int32) (v3 : Int32) (v4 : Int32) (v5 : Int32) (v6 : Int32) (v7 : Int32) (v8 : Int32) (s0 : Int32) (σ : Sg) (k60 : Int32 → Sg → Option (Int32 × Sg)) (hk60 : ∀ (c5 : Int32) (τ : Sg), k60 c5 τ = some (xr, σr) → RN G M_X12_mend 60 [some (.ref v0), some (.int v1), some (.int v2), some (.int v3), some (.int v4), some (.int c5)] [] τ (.inl (some (.int xr))) σr) (k125 : Int32 → Sg → Option (Int32 × Sg)) (hk125 : ∀ (c8 : Int32) (τ : Sg), k125 c8 τ = some (xr, σr) → RN G M_X12_mend 125 [some (.ref v0), some (.int v1), some (.int v2), some (.int v3), some (.int v4), some (.int v5), some (.int v6), some (.int v7), some (.int c8)] [] τ (.inl (some (.int xr))) σr) (h : b_X12_mend_198 k60 k125 n v0 v1 v2 v3 v4 v5 v6 v7 v8 s0 σ = some (xr, σr)) : RN G M_X12_mend 198 [some (.ref v0), some (.int v1), some (.int v2), some (.int v3), some (.int v4), some (.int v5), some (.int v6), some (.int v7), some (.int v8)] [.int s0] σ (.inl (some (.int xr))) σr := by
  unfold b_X12_mend_198 at h
  refine RN_istore (pc := 198) (i := 9) (ls2 := [some (.ref v0), some (.int v1), some (.int v2), some (.int v3), some (.int v4), some (.int v5), some (.int v6), some (.int v7), some (.int v8), some (.int s0)]) (by decide +kernel) (by decide) rfl ?_
  refine RN_aload_n (pc := 200) (k := 0) (by decide +kernel) rfl rfl ?_
  refine RN_iload (pc := 201) (i := 6) (by decide +kernel) rfl ?_
  refine RN_iload (pc := 203) (i := 7) (by decide +kernel) rfl ?_
  obtain ⟨c102, h⟩ := ck_el h
  obtain ⟨σ104, f103, h⟩ := bp_el h
  refine RN_callV (M := M_X12_mend) (pc := 205) (idx := 370) (as := [.int v6, .int v7]) (st := []) (t_X12_chooses f103) (by decide +kernel) lk_RX12_370 rfl ⟨by decide, fun q hq => by cases hq; rfl⟩ c102 (Nat.le_of_ble_eq_true rfl) ⟨Nat.le_of_ble_eq_true rfl, Nat.le_of_ble_eq_true rfl⟩ rfl ?_
  show RN G M_X12_mend 208 [some (.ref v0), some (.int v1), some (.int v2), some (.int v3), some (.int v4), some (.int v5), some (.int v6), some (.int v7), some (.int v8), some (.int s0)] [] σ104 _ _
  refine RN_iload (pc := 208) (i := 9) (by decide +kernel) rfl ?_
  refine RN_if_eq (pc := 210) (off := 12) (tgt := 222) (by decide +kernel) (by decide) (fun c105 => ?_) (fun c105 => ?_)
  · replace h := it_t c105 h
    obtain ⟨x106, ex106, h⟩ := nm_el h
    refine RN_iinc (pc := 222) (i := 8) (n := 1) (v := x106) (ls2 := [some (.ref v0), some (.int v1), some (.int v2), some (.int v3), some (.int v4), some (.int v5), some (.int v6), some (.int v7), some (.int x106), some (.int s0)]) (by decide +kernel) rfl (by rw [ex106]; rfl) (by decide) rfl ?_
    refine RN_goto (pc := 225) (off := -100) (tgt := 125) (by decide +kernel) (by decide) ?_
    exact RN_weak (l := [some (.ref v0), some (.int v1), some (.int v2), some (.int v3), some (.int v4), some (.int v5), some (.int v6), some (.int v7), some (.int x106)]) (And.intro rfl (And.intro rfl (And.intro rfl (And.intro rfl (And.intro rfl (And.intro rfl (And.intro rfl (And.intro rfl (And.intro rfl trivial))))))))) (hk125 x106 σ104 h)
  · replace h := it_f c105 h
    refine RN_bipush (pc := 213) (n := 10) (v := 10) (by decide +kernel) (by decide) ?_
    refine RN_iload (pc := 215) (i := 5) (by decide +kernel) rfl ?_
    refine RN_imul (pc := 217) (by decide +kernel) ?_
    refine RN_iload (pc := 218) (i := 8) (by decide +kernel) rfl ?_
    refine RN_iadd (pc := 220) (by decide +kernel) ?_
    obtain ⟨rfl, rfl⟩ := some_el2 h
    exact RN_ireturn (by decide +kernel) rfl
def b_X12_mend_197 (k60 : Int32 → Sg → Option (Int32 × Sg)) (k125 : Int32 → Sg → Option (Int32 × Sg)) (n : Nat) (v0 : Nat) (v1 : Int32) (v2 : Int32) (v3 : Int32) (v4 : Int32) (v5 : Int32) (v6 : Int32) (v7 : Int32) (v8 : Int32) (σ : Sg) : Option (Int32 × Sg) :=
  b_X12_mend_198 k60 k125 n v0 v1 v2 v3 v4 v5 v6 v7 v8 (0 : Int32) σ
set_option maxRecDepth 20000 in
theorem tb_X12_mend_197 {G : Gl} {xr : Int32} {σr : Sg} (n : Nat) (v0 : Nat) (v1 : Int32) (v2 : Int32) (v3 : Int32) (v4 : Int32) (v5 : Int32) (v6 : Int32) (v7 : Int32) (v8 : Int32) (σ : Sg) (k60 : Int32 → Sg → Option (Int32 × Sg)) (hk60 : ∀ (c5 : Int32) (τ : Sg), k60 c5 τ = some (xr, σr) → RN G M_X12_mend 60 [some (.ref v0), some (.int v1), some (.int v2), some (.int v3), some (.int v4), some (.int c5)] [] τ (.inl (some (.int xr))) σr) (k125 : Int32 → Sg → Option (Int32 × Sg)) (hk125 : ∀ (c8 : Int32) (τ : Sg), k125 c8 τ = some (xr, σr) → RN G M_X12_mend 125 [some (.ref v0), some (.int v1), some (.int v2), some (.int v3), some (.int v4), some (.int v5), some (.int v6), some (.int v7), some (.int c8)] [] τ (.inl (some (.int xr))) σr) (h : b_X12_mend_197 k60 k125 n v0 v1 v2 v3 v4 v5 v6 v7 v8 σ = some (xr, σr)) : RN G M_X12_mend 197 [some (.ref v0), some (.int v1), some (.int v2), some (.int v3), some (.int v4), some (.int v5), some (.int v6), some (.int v7), some (.int v8)] [] σ (.inl (some (.int xr))) σr := by
  unfold b_X12_mend_197 at h
  refine RN_iconst (pc := 197) (n := 0) (v := 0) (by decide +kernel) (by decide) ?_
  exact RN_weak (l := [some (.ref v0), some (.int v1), some (.int v2), some (.int v3), some (.int v4), some (.int v5), some (.int v6), some (.int v7), some (.int v8)]) (And.intro rfl (And.intro rfl (And.intro rfl (And.intro rfl (And.intro rfl (And.intro rfl (And.intro rfl (And.intro rfl (And.intro rfl trivial))))))))) (tb_X12_mend_198 n v0 v1 v2 v3 v4 v5 v6 v7 v8 (0 : Int32) σ k60 hk60 k125 hk125 h)
def b_X12_mend_145 (k60 : Int32 → Sg → Option (Int32 × Sg)) (k125 : Int32 → Sg → Option (Int32 × Sg)) (n : Nat) (v0 : Nat) (v1 : Int32) (v2 : Int32) (v3 : Int32) (v4 : Int32) (v5 : Int32) (v6 : Int32) (v7 : Int32) (v8 : Int32) (s0 : Int32) (s1 : Int32) (σ : Sg) : Option (Int32 × Sg) :=
  if s0 ≤ s1 then (
    b_X12_mend_228 k60 n v0 v1 v2 v3 v4 v5 σ)
  else (
    ck (okO σ v0 11) <|
    ck (¬ gR σ v0 9 = 0) <|
    nm (gR σ v0 9) fun r94 =>
    ck (okA σ r94 13 v6) <|
    bp (f_X12_hasChoice v0 (gI σ r94 v6.toNatClampNeg)) fun x97 =>
    if x97 = 0 then (
      b_X12_mend_228 k60 n v0 v1 v2 v3 v4 v5 σ)
    else (
      bp (f_X12_chooses v0 v6 v8 σ) fun σ100 =>
      if v8 = v7 then (
        b_X12_mend_197 k60 k125 n v0 v1 v2 v3 v4 v5 v6 v7 v8 σ100)
      else (
        ck (okO σ100 v0 11) <|
        bd (f_X12_leastOf n v0 v1 v2 (-1 : Int32) v3 v4 σ100) fun x110 σ109 =>
        if x110 = (9999999 : Int32) then (
          b_X12_mend_198 k60 k125 n v0 v1 v2 v3 v4 v5 v6 v7 v8 (1 : Int32) σ109)
        else (
          b_X12_mend_197 k60 k125 n v0 v1 v2 v3 v4 v5 v6 v7 v8 σ109))))
set_option maxRecDepth 20000 in
theorem tb_X12_mend_145 {G : Gl} {xr : Int32} {σr : Sg} (n : Nat) (v0 : Nat) (v1 : Int32) (v2 : Int32) (v3 : Int32) (v4 : Int32) (v5 : Int32) (v6 : Int32) (v7 : Int32) (v8 : Int32) (s0 : Int32) (s1 : Int32) (σ : Sg) (k60 : Int32 → Sg → Option (Int32 × Sg)) (hk60 : ∀ (c5 : Int32) (τ : Sg), k60 c5 τ = some (xr, σr) → RN G M_X12_mend 60 [some (.ref v0), some (.int v1), some (.int v2), some (.int v3), some (.int v4), some (.int c5)] [] τ (.inl (some (.int xr))) σr) (k125 : Int32 → Sg → Option (Int32 × Sg)) (hk125 : ∀ (c8 : Int32) (τ : Sg), k125 c8 τ = some (xr, σr) → RN G M_X12_mend 125 [some (.ref v0), some (.int v1), some (.int v2), some (.int v3), some (.int v4), some (.int v5), some (.int v6), some (.int v7), some (.int c8)] [] τ (.inl (some (.int xr))) σr) (h : b_X12_mend_145 k60 k125 n v0 v1 v2 v3 v4 v5 v6 v7 v8 s0 s1 σ = some (xr, σr)) : RN G M_X12_mend 145 [some (.ref v0), some (.int v1), some (.int v2), some (.int v3), some (.int v4), some (.int v5), some (.int v6), some (.int v7), some (.int v8)] [.int s0, .int s1] σ (.inl (some (.int xr))) σr := by
  unfold b_X12_mend_145 at h
  refine RN_icmp_ge (pc := 145) (off := 83) (tgt := 228) (by decide +kernel) (by decide) (fun c90 => ?_) (fun c90 => ?_)
  · replace h := it_t c90 h
    exact RN_weak (l := [some (.ref v0), some (.int v1), some (.int v2), some (.int v3), some (.int v4), some (.int v5)]) (And.intro rfl (And.intro rfl (And.intro rfl (And.intro rfl (And.intro rfl (And.intro rfl trivial)))))) (tb_X12_mend_228 n v0 v1 v2 v3 v4 v5 σ k60 hk60 h)
  · replace h := it_f c90 h
    refine RN_aload_n (pc := 148) (k := 0) (by decide +kernel) rfl rfl ?_
    refine RN_aload_n (pc := 149) (k := 0) (by decide +kernel) rfl rfl ?_
    obtain ⟨c92, h⟩ := ck_el h
    obtain ⟨c93, h⟩ := ck_el h
    refine RN_getR (pc := 150) (idx := 28) (ci := 11) (k := 9) (by decide +kernel) lf_RX12_28 rfl c92 c93 ?_
    obtain ⟨r94, er94, h⟩ := nm_el h
    refine RN_nmR er94 ?_
    refine RN_iload (pc := 153) (i := 6) (by decide +kernel) rfl ?_
    obtain ⟨c95, h⟩ := ck_el h
    refine RN_iald (pc := 155) (by decide +kernel) c95 ?_
    obtain ⟨x97, f96, h⟩ := bp_el h
    refine RN_callV (M := M_X12_mend) (pc := 156) (idx := 367) (as := [.int (gI σ r94 v6.toNatClampNeg)]) (st := []) (t_X12_hasChoice f96) (by decide +kernel) lk_RX12_367 rfl ⟨by decide, fun q hq => by cases hq; rfl⟩ c92 (Nat.le_of_ble_eq_true rfl) ⟨Nat.le_of_ble_eq_true rfl, Nat.le_of_ble_eq_true rfl⟩ rfl ?_
    show RN G M_X12_mend 159 [some (.ref v0), some (.int v1), some (.int v2), some (.int v3), some (.int v4), some (.int v5), some (.int v6), some (.int v7), some (.int v8)] [.int x97] σ _ _
    refine RN_if_eq (pc := 159) (off := 69) (tgt := 228) (by decide +kernel) (by decide) (fun c98 => ?_) (fun c98 => ?_)
    · replace h := it_t c98 h
      exact RN_weak (l := [some (.ref v0), some (.int v1), some (.int v2), some (.int v3), some (.int v4), some (.int v5)]) (And.intro rfl (And.intro rfl (And.intro rfl (And.intro rfl (And.intro rfl (And.intro rfl trivial)))))) (tb_X12_mend_228 n v0 v1 v2 v3 v4 v5 σ k60 hk60 h)
    · replace h := it_f c98 h
      refine RN_aload_n (pc := 162) (k := 0) (by decide +kernel) rfl rfl ?_
      refine RN_iload (pc := 163) (i := 6) (by decide +kernel) rfl ?_
      refine RN_iload (pc := 165) (i := 8) (by decide +kernel) rfl ?_
      obtain ⟨σ100, f99, h⟩ := bp_el h
      refine RN_callV (M := M_X12_mend) (pc := 167) (idx := 370) (as := [.int v6, .int v8]) (st := []) (t_X12_chooses f99) (by decide +kernel) lk_RX12_370 rfl ⟨by decide, fun q hq => by cases hq; rfl⟩ c92 (Nat.le_of_ble_eq_true rfl) ⟨Nat.le_of_ble_eq_true rfl, Nat.le_of_ble_eq_true rfl⟩ rfl ?_
      show RN G M_X12_mend 170 [some (.ref v0), some (.int v1), some (.int v2), some (.int v3), some (.int v4), some (.int v5), some (.int v6), some (.int v7), some (.int v8)] [] σ100 _ _
      refine RN_iload (pc := 170) (i := 8) (by decide +kernel) rfl ?_
      refine RN_iload (pc := 172) (i := 7) (by decide +kernel) rfl ?_
      refine RN_icmp_eq (pc := 174) (off := 23) (tgt := 197) (by decide +kernel) (by decide) (fun c101 => ?_) (fun c101 => ?_)
      · replace h := it_t c101 h
        exact RN_weak (l := [some (.ref v0), some (.int v1), some (.int v2), some (.int v3), some (.int v4), some (.int v5), some (.int v6), some (.int v7), some (.int v8)]) (And.intro rfl (And.intro rfl (And.intro rfl (And.intro rfl (And.intro rfl (And.intro rfl (And.intro rfl (And.intro rfl (And.intro rfl trivial))))))))) (tb_X12_mend_197 n v0 v1 v2 v3 v4 v5 v6 v7 v8 σ100 k60 hk60 k125 hk125 h)
      · replace h := it_f c101 h
        refine RN_aload_n (pc := 177) (k := 0) (by decide +kernel) rfl rfl ?_
        refine RN_iload_n (pc := 178) (k := 1) (by decide +kernel) rfl rfl ?_
        refine RN_iload_n (pc := 179) (k := 2) (by decide +kernel) rfl rfl ?_
        refine RN_iconst (pc := 180) (n := -1) (v := -1) (by decide +kernel) (by decide) ?_
        refine RN_iload_n (pc := 181) (k := 3) (by decide +kernel) rfl rfl ?_
        refine RN_iload (pc := 182) (i := 4) (by decide +kernel) rfl ?_
        obtain ⟨c107, h⟩ := ck_el h
        obtain ⟨x110, σ109, f108, h⟩ := bd_el h
        refine RN_callV (M := M_X12_mend) (pc := 184) (idx := 357) (as := [.int v1, .int v2, .int (-1 : Int32), .int v3, .int v4]) (st := []) (t_X12_leastOf f108) (by decide +kernel) lk_RX12_357 rfl ⟨by decide, fun q hq => by cases hq; rfl⟩ c107 (Nat.le_of_ble_eq_true rfl) ⟨Nat.le_of_ble_eq_true rfl, Nat.le_of_ble_eq_true rfl⟩ rfl ?_
        show RN G M_X12_mend 187 [some (.ref v0), some (.int v1), some (.int v2), some (.int v3), some (.int v4), some (.int v5), some (.int v6), some (.int v7), some (.int v8)] [.int x110] σ109 _ _
        refine RN_ldcw (pc := 187) (idx := 353) (v := 9999999) (by decide +kernel) kc_RX12_353 ?_
        refine RN_icmp_ne (pc := 190) (off := 7) (tgt := 197) (by decide +kernel) (by decide) (fun c111 => ?_) (fun c111 => ?_)
        · replace h := it_f c111 h
          exact RN_weak (l := [some (.ref v0), some (.int v1), some (.int v2), some (.int v3), some (.int v4), some (.int v5), some (.int v6), some (.int v7), some (.int v8)]) (And.intro rfl (And.intro rfl (And.intro rfl (And.intro rfl (And.intro rfl (And.intro rfl (And.intro rfl (And.intro rfl (And.intro rfl trivial))))))))) (tb_X12_mend_197 n v0 v1 v2 v3 v4 v5 v6 v7 v8 σ109 k60 hk60 k125 hk125 h)
        · replace h := it_t c111 h
          refine RN_iconst (pc := 193) (n := 1) (v := 1) (by decide +kernel) (by decide) ?_
          refine RN_goto (pc := 194) (off := 4) (tgt := 198) (by decide +kernel) (by decide) ?_
          exact RN_weak (l := [some (.ref v0), some (.int v1), some (.int v2), some (.int v3), some (.int v4), some (.int v5), some (.int v6), some (.int v7), some (.int v8)]) (And.intro rfl (And.intro rfl (And.intro rfl (And.intro rfl (And.intro rfl (And.intro rfl (And.intro rfl (And.intro rfl (And.intro rfl trivial))))))))) (tb_X12_mend_198 n v0 v1 v2 v3 v4 v5 v6 v7 v8 (1 : Int32) σ109 k60 hk60 k125 hk125 h)
def b_X12_mend_125 (k60 : Int32 → Sg → Option (Int32 × Sg)) : Nat → Nat → Int32 → Int32 → Int32 → Int32 → Int32 → Int32 → Int32 → Int32 → Sg → Option (Int32 × Sg)
  | 0, _, _, _, _, _, _, _, _, _, _ => none
  | n + 1, v0, v1, v2, v3, v4, v5, v6, v7, v8, σ =>
  ck (okO σ v0 11) <|
  ck (¬ gR σ v0 9 = 0) <|
  nm (gR σ v0 9) fun r87 =>
  ck (okA σ r87 13 v6) <|
  if (gI σ r87 v6.toNatClampNeg) = (6 : Int32) then (
    b_X12_mend_145 k60 (fun c8 τ => b_X12_mend_125 k60 n v0 v1 v2 v3 v4 v5 v6 v7 c8 τ) n v0 v1 v2 v3 v4 v5 v6 v7 v8 (4 : Int32) v8 σ)
  else (
    b_X12_mend_145 k60 (fun c8 τ => b_X12_mend_125 k60 n v0 v1 v2 v3 v4 v5 v6 v7 c8 τ) n v0 v1 v2 v3 v4 v5 v6 v7 v8 (6 : Int32) v8 σ)
set_option maxRecDepth 20000 in
theorem tb_X12_mend_125 {G : Gl} {xr : Int32} {σr : Sg} (v0 : Nat) (v1 : Int32) (v2 : Int32) (v3 : Int32) (v4 : Int32) (v5 : Int32) (v6 : Int32) (v7 : Int32) (k60 : Int32 → Sg → Option (Int32 × Sg)) (hk60 : ∀ (c5 : Int32) (τ : Sg), k60 c5 τ = some (xr, σr) → RN G M_X12_mend 60 [some (.ref v0), some (.int v1), some (.int v2), some (.int v3), some (.int v4), some (.int c5)] [] τ (.inl (some (.int xr))) σr) : ∀ (n : Nat) (v8 : Int32) (σ : Sg), b_X12_mend_125 k60 n v0 v1 v2 v3 v4 v5 v6 v7 v8 σ = some (xr, σr) → RN G M_X12_mend 125 [some (.ref v0), some (.int v1), some (.int v2), some (.int v3), some (.int v4), some (.int v5), some (.int v6), some (.int v7), some (.int v8)] [] σ (.inl (some (.int xr))) σr := by
  intro n
  induction n with
  | zero =>
    intro v8 σ h
    exact none_el h
  | succ n ih =>
    intro v8 σ h
    rw [b_X12_mend_125] at h
    refine RN_iload (pc := 125) (i := 8) (by decide +kernel) rfl ?_
    refine RN_aload_n (pc := 127) (k := 0) (by decide +kernel) rfl rfl ?_
    obtain ⟨c85, h⟩ := ck_el h
    obtain ⟨c86, h⟩ := ck_el h
    refine RN_getR (pc := 128) (idx := 28) (ci := 11) (k := 9) (by decide +kernel) lf_RX12_28 rfl c85 c86 ?_
    obtain ⟨r87, er87, h⟩ := nm_el h
    refine RN_nmR er87 ?_
    refine RN_iload (pc := 131) (i := 6) (by decide +kernel) rfl ?_
    obtain ⟨c88, h⟩ := ck_el h
    refine RN_iald (pc := 133) (by decide +kernel) c88 ?_
    refine RN_bipush (pc := 134) (n := 6) (v := 6) (by decide +kernel) (by decide) ?_
    refine RN_icmp_ne (pc := 136) (off := 7) (tgt := 143) (by decide +kernel) (by decide) (fun c89 => ?_) (fun c89 => ?_)
    · replace h := it_f c89 h
      refine RN_bipush (pc := 143) (n := 6) (v := 6) (by decide +kernel) (by decide) ?_
      exact RN_weak (l := [some (.ref v0), some (.int v1), some (.int v2), some (.int v3), some (.int v4), some (.int v5), some (.int v6), some (.int v7), some (.int v8)]) (And.intro rfl (And.intro rfl (And.intro rfl (And.intro rfl (And.intro rfl (And.intro rfl (And.intro rfl (And.intro rfl (And.intro rfl trivial))))))))) (tb_X12_mend_145 n v0 v1 v2 v3 v4 v5 v6 v7 v8 (6 : Int32) v8 σ k60 hk60 _ (fun c8 τ h => ih c8 τ h) h)
    · replace h := it_t c89 h
      refine RN_iconst (pc := 139) (n := 4) (v := 4) (by decide +kernel) (by decide) ?_
      refine RN_goto (pc := 140) (off := 5) (tgt := 145) (by decide +kernel) (by decide) ?_
      exact RN_weak (l := [some (.ref v0), some (.int v1), some (.int v2), some (.int v3), some (.int v4), some (.int v5), some (.int v6), some (.int v7), some (.int v8)]) (And.intro rfl (And.intro rfl (And.intro rfl (And.intro rfl (And.intro rfl (And.intro rfl (And.intro rfl (And.intro rfl (And.intro rfl trivial))))))))) (tb_X12_mend_145 n v0 v1 v2 v3 v4 v5 v6 v7 v8 (4 : Int32) v8 σ k60 hk60 _ (fun c8 τ h => ih c8 τ h) h)
def b_X12_mend_120 (k60 : Int32 → Sg → Option (Int32 × Sg)) (n : Nat) (v0 : Nat) (v1 : Int32) (v2 : Int32) (v3 : Int32) (v4 : Int32) (v5 : Int32) (v6 : Int32) (s0 : Int32) (σ : Sg) : Option (Int32 × Sg) :=
  b_X12_mend_125 k60 n v0 v1 v2 v3 v4 v5 v6 s0 (0 : Int32) σ
set_option maxRecDepth 20000 in
theorem tb_X12_mend_120 {G : Gl} {xr : Int32} {σr : Sg} (n : Nat) (v0 : Nat) (v1 : Int32) (v2 : Int32) (v3 : Int32) (v4 : Int32) (v5 : Int32) (v6 : Int32) (s0 : Int32) (σ : Sg) (k60 : Int32 → Sg → Option (Int32 × Sg)) (hk60 : ∀ (c5 : Int32) (τ : Sg), k60 c5 τ = some (xr, σr) → RN G M_X12_mend 60 [some (.ref v0), some (.int v1), some (.int v2), some (.int v3), some (.int v4), some (.int c5)] [] τ (.inl (some (.int xr))) σr) (h : b_X12_mend_120 k60 n v0 v1 v2 v3 v4 v5 v6 s0 σ = some (xr, σr)) : RN G M_X12_mend 120 [some (.ref v0), some (.int v1), some (.int v2), some (.int v3), some (.int v4), some (.int v5), some (.int v6)] [.int s0] σ (.inl (some (.int xr))) σr := by
  unfold b_X12_mend_120 at h
  refine RN_istore (pc := 120) (i := 7) (ls2 := [some (.ref v0), some (.int v1), some (.int v2), some (.int v3), some (.int v4), some (.int v5), some (.int v6), some (.int s0)]) (by decide +kernel) (by decide) rfl ?_
  refine RN_iconst (pc := 122) (n := 0) (v := 0) (by decide +kernel) (by decide) ?_
  refine RN_istore (pc := 123) (i := 8) (ls2 := [some (.ref v0), some (.int v1), some (.int v2), some (.int v3), some (.int v4), some (.int v5), some (.int v6), some (.int s0), some (.int (0 : Int32))]) (by decide +kernel) (by decide) rfl ?_
  exact RN_weak (l := [some (.ref v0), some (.int v1), some (.int v2), some (.int v3), some (.int v4), some (.int v5), some (.int v6), some (.int s0), some (.int (0 : Int32))]) (And.intro rfl (And.intro rfl (And.intro rfl (And.intro rfl (And.intro rfl (And.intro rfl (And.intro rfl (And.intro rfl (And.intro rfl trivial))))))))) (tb_X12_mend_125 v0 v1 v2 v3 v4 v5 v6 s0 k60 hk60 n (0 : Int32) σ h)
def b_X12_mend_103 (k60 : Int32 → Sg → Option (Int32 × Sg)) (n : Nat) (v0 : Nat) (v1 : Int32) (v2 : Int32) (v3 : Int32) (v4 : Int32) (v5 : Int32) (v6 : Int32) (σ : Sg) : Option (Int32 × Sg) :=
  ck (okO σ v0 11) <|
  ck (¬ gR σ v0 11 = 0) <|
  nm (gR σ v0 11) fun r83 =>
  ck (okA σ r83 13 v6) <|
  b_X12_mend_120 k60 n v0 v1 v2 v3 v4 v5 v6 (gI σ r83 v6.toNatClampNeg) σ
set_option maxRecDepth 20000 in
theorem tb_X12_mend_103 {G : Gl} {xr : Int32} {σr : Sg} (n : Nat) (v0 : Nat) (v1 : Int32) (v2 : Int32) (v3 : Int32) (v4 : Int32) (v5 : Int32) (v6 : Int32) (σ : Sg) (k60 : Int32 → Sg → Option (Int32 × Sg)) (hk60 : ∀ (c5 : Int32) (τ : Sg), k60 c5 τ = some (xr, σr) → RN G M_X12_mend 60 [some (.ref v0), some (.int v1), some (.int v2), some (.int v3), some (.int v4), some (.int c5)] [] τ (.inl (some (.int xr))) σr) (h : b_X12_mend_103 k60 n v0 v1 v2 v3 v4 v5 v6 σ = some (xr, σr)) : RN G M_X12_mend 103 [some (.ref v0), some (.int v1), some (.int v2), some (.int v3), some (.int v4), some (.int v5), some (.int v6)] [] σ (.inl (some (.int xr))) σr := by
  unfold b_X12_mend_103 at h
  refine RN_aload_n (pc := 103) (k := 0) (by decide +kernel) rfl rfl ?_
  obtain ⟨c81, h⟩ := ck_el h
  obtain ⟨c82, h⟩ := ck_el h
  refine RN_getR (pc := 104) (idx := 34) (ci := 11) (k := 11) (by decide +kernel) lf_RX12_34 rfl c81 c82 ?_
  obtain ⟨r83, er83, h⟩ := nm_el h
  refine RN_nmR er83 ?_
  refine RN_iload (pc := 107) (i := 6) (by decide +kernel) rfl ?_
  obtain ⟨c84, h⟩ := ck_el h
  refine RN_iald (pc := 109) (by decide +kernel) c84 ?_
  refine RN_goto (pc := 110) (off := 10) (tgt := 120) (by decide +kernel) (by decide) ?_
  exact RN_weak (l := [some (.ref v0), some (.int v1), some (.int v2), some (.int v3), some (.int v4), some (.int v5), some (.int v6)]) (And.intro rfl (And.intro rfl (And.intro rfl (And.intro rfl (And.intro rfl (And.intro rfl (And.intro rfl trivial))))))) (tb_X12_mend_120 n v0 v1 v2 v3 v4 v5 v6 (gI σ r83 v6.toNatClampNeg) σ k60 hk60 h)
def b_X12_mend_60 : Nat → Nat → Int32 → Int32 → Int32 → Int32 → Int32 → Sg → Option (Int32 × Sg)
  | 0, _, _, _, _, _, _, _ => none
  | n + 1, v0, v1, v2, v3, v4, v5, σ =>
  ck (okO σ v0 11) <|
  ck (¬ gR σ v0 8 = 0) <|
  nm (gR σ v0 8) fun r73 =>
  ck (okA σ r73 13 v1) <|
  if (gI σ r73 v1.toNatClampNeg) ≤ v5 then (
    some ((-3 : Int32), σ))
  else (
    nm (((20 : Int32) * v1) + v5) fun x76 =>
    ck (¬ gR σ v0 9 = 0) <|
    nm (gR σ v0 9) fun r78 =>
    ck (okA σ r78 13 x76) <|
    if (gI σ r78 x76.toNatClampNeg) = (4 : Int32) then (
      b_X12_mend_103 (fun c5 τ => b_X12_mend_60 n v0 v1 v2 v3 v4 c5 τ) n v0 v1 v2 v3 v4 v5 x76 σ)
    else (
      nm (gR σ v0 9) fun r112 =>
      ck (okA σ r112 13 x76) <|
      if (gI σ r112 x76.toNatClampNeg) = (6 : Int32) then (
        b_X12_mend_103 (fun c5 τ => b_X12_mend_60 n v0 v1 v2 v3 v4 c5 τ) n v0 v1 v2 v3 v4 v5 x76 σ)
      else (
        ck (¬ gR σ v0 12 = 0) <|
        nm (gR σ v0 12) fun r116 =>
        ck (okA σ r116 13 x76) <|
        b_X12_mend_120 (fun c5 τ => b_X12_mend_60 n v0 v1 v2 v3 v4 c5 τ) n v0 v1 v2 v3 v4 v5 x76 (gI σ r116 x76.toNatClampNeg) σ)))
set_option maxRecDepth 20000 in
theorem tb_X12_mend_60 {G : Gl} {xr : Int32} {σr : Sg} (v0 : Nat) (v1 : Int32) (v2 : Int32) (v3 : Int32) (v4 : Int32) : ∀ (n : Nat) (v5 : Int32) (σ : Sg), b_X12_mend_60 n v0 v1 v2 v3 v4 v5 σ = some (xr, σr) → RN G M_X12_mend 60 [some (.ref v0), some (.int v1), some (.int v2), some (.int v3), some (.int v4), some (.int v5)] [] σ (.inl (some (.int xr))) σr := by
  intro n
  induction n with
  | zero =>
    intro v5 σ h
    exact none_el h
  | succ n ih =>
    intro v5 σ h
    rw [b_X12_mend_60] at h
    refine RN_iload (pc := 60) (i := 5) (by decide +kernel) rfl ?_
    refine RN_aload_n (pc := 62) (k := 0) (by decide +kernel) rfl rfl ?_
    obtain ⟨c71, h⟩ := ck_el h
    obtain ⟨c72, h⟩ := ck_el h
    refine RN_getR (pc := 63) (idx := 25) (ci := 11) (k := 8) (by decide +kernel) lf_RX12_25 rfl c71 c72 ?_
    obtain ⟨r73, er73, h⟩ := nm_el h
    refine RN_nmR er73 ?_
    refine RN_iload_n (pc := 66) (k := 1) (by decide +kernel) rfl rfl ?_
    obtain ⟨c74, h⟩ := ck_el h
    refine RN_iald (pc := 67) (by decide +kernel) c74 ?_
    refine RN_icmp_ge (pc := 68) (off := 166) (tgt := 234) (by decide +kernel) (by decide) (fun c75 => ?_) (fun c75 => ?_)
    · replace h := it_t c75 h
      refine RN_bipush (pc := 234) (n := -3) (v := -3) (by decide +kernel) (by decide) ?_
      obtain ⟨rfl, rfl⟩ := some_el2 h
      exact RN_ireturn (by decide +kernel) rfl
    · replace h := it_f c75 h
      refine RN_bipush (pc := 71) (n := 20) (v := 20) (by decide +kernel) (by decide) ?_
      refine RN_iload_n (pc := 73) (k := 1) (by decide +kernel) rfl rfl ?_
      refine RN_imul (pc := 74) (by decide +kernel) ?_
      refine RN_iload (pc := 75) (i := 5) (by decide +kernel) rfl ?_
      refine RN_iadd (pc := 77) (by decide +kernel) ?_
      obtain ⟨x76, ex76, h⟩ := nm_el h
      refine RN_nmI ex76 ?_
      refine RN_istore (pc := 78) (i := 6) (ls2 := [some (.ref v0), some (.int v1), some (.int v2), some (.int v3), some (.int v4), some (.int v5), some (.int x76)]) (by decide +kernel) (by decide) rfl ?_
      refine RN_aload_n (pc := 80) (k := 0) (by decide +kernel) rfl rfl ?_
      obtain ⟨c77, h⟩ := ck_el h
      refine RN_getR (pc := 81) (idx := 28) (ci := 11) (k := 9) (by decide +kernel) lf_RX12_28 rfl c71 c77 ?_
      obtain ⟨r78, er78, h⟩ := nm_el h
      refine RN_nmR er78 ?_
      refine RN_iload (pc := 84) (i := 6) (by decide +kernel) rfl ?_
      obtain ⟨c79, h⟩ := ck_el h
      refine RN_iald (pc := 86) (by decide +kernel) c79 ?_
      refine RN_iconst (pc := 87) (n := 4) (v := 4) (by decide +kernel) (by decide) ?_
      refine RN_icmp_eq (pc := 88) (off := 15) (tgt := 103) (by decide +kernel) (by decide) (fun c80 => ?_) (fun c80 => ?_)
      · replace h := it_t c80 h
        exact RN_weak (l := [some (.ref v0), some (.int v1), some (.int v2), some (.int v3), some (.int v4), some (.int v5), some (.int x76)]) (And.intro rfl (And.intro rfl (And.intro rfl (And.intro rfl (And.intro rfl (And.intro rfl (And.intro rfl trivial))))))) (tb_X12_mend_103 n v0 v1 v2 v3 v4 v5 x76 σ _ (fun c5 τ h => ih c5 τ h) h)
      · replace h := it_f c80 h
        refine RN_aload_n (pc := 91) (k := 0) (by decide +kernel) rfl rfl ?_
        refine RN_getR (pc := 92) (idx := 28) (ci := 11) (k := 9) (by decide +kernel) lf_RX12_28 rfl c71 c77 ?_
        obtain ⟨r112, er112, h⟩ := nm_el h
        refine RN_nmR er112 ?_
        refine RN_iload (pc := 95) (i := 6) (by decide +kernel) rfl ?_
        obtain ⟨c113, h⟩ := ck_el h
        refine RN_iald (pc := 97) (by decide +kernel) c113 ?_
        refine RN_bipush (pc := 98) (n := 6) (v := 6) (by decide +kernel) (by decide) ?_
        refine RN_icmp_ne (pc := 100) (off := 13) (tgt := 113) (by decide +kernel) (by decide) (fun c114 => ?_) (fun c114 => ?_)
        · replace h := it_f c114 h
          refine RN_aload_n (pc := 113) (k := 0) (by decide +kernel) rfl rfl ?_
          obtain ⟨c115, h⟩ := ck_el h
          refine RN_getR (pc := 114) (idx := 37) (ci := 11) (k := 12) (by decide +kernel) lf_RX12_37 rfl c71 c115 ?_
          obtain ⟨r116, er116, h⟩ := nm_el h
          refine RN_nmR er116 ?_
          refine RN_iload (pc := 117) (i := 6) (by decide +kernel) rfl ?_
          obtain ⟨c117, h⟩ := ck_el h
          refine RN_iald (pc := 119) (by decide +kernel) c117 ?_
          exact RN_weak (l := [some (.ref v0), some (.int v1), some (.int v2), some (.int v3), some (.int v4), some (.int v5), some (.int x76)]) (And.intro rfl (And.intro rfl (And.intro rfl (And.intro rfl (And.intro rfl (And.intro rfl (And.intro rfl trivial))))))) (tb_X12_mend_120 n v0 v1 v2 v3 v4 v5 x76 (gI σ r116 x76.toNatClampNeg) σ _ (fun c5 τ h => ih c5 τ h) h)
        · replace h := it_t c114 h
          exact RN_weak (l := [some (.ref v0), some (.int v1), some (.int v2), some (.int v3), some (.int v4), some (.int v5), some (.int x76)]) (And.intro rfl (And.intro rfl (And.intro rfl (And.intro rfl (And.intro rfl (And.intro rfl (And.intro rfl trivial))))))) (tb_X12_mend_103 n v0 v1 v2 v3 v4 v5 x76 σ _ (fun c5 τ h => ih c5 τ h) h)
def f_X12_mend (n : Nat) (v0 : Nat) (v1 : Int32) (v2 : Int32) (v3 : Int32) (v4 : Int32) (σ : Sg) : Option (Int32 × Sg) :=
  ck (okO σ v0 11) <|
  bp (f_X12_isProgram v0 v1 σ) fun x58 =>
  if x58 = 0 then (
    some ((-1 : Int32), σ))
  else (
    bp (f_X12_in v2 (0 : Int32) (6 : Int32)) fun x61 =>
    if x61 = 0 then (
      some ((-1 : Int32), σ))
    else (
      if v2 = (2 : Int32) then (
        some ((-1 : Int32), σ))
      else (
        bp (f_X12_isSpan v3 v4 (300 : Int32)) fun x65 =>
        if x65 = 0 then (
          some ((-1 : Int32), σ))
        else (
          bd (f_X12_leastOf n v0 v1 v2 (-1 : Int32) v3 v4 σ) fun x69 σ68 =>
          if x69 = (9999999 : Int32) then (
            some ((9999999 : Int32), σ68))
          else (
            b_X12_mend_60 n v0 v1 v2 v3 v4 (0 : Int32) σ68)))))
set_option maxRecDepth 20000 in
theorem t_X12_mend {G : Gl} {xr : Int32} {σr : Sg} {n : Nat} {v0 : Nat} {v1 : Int32} {v2 : Int32} {v3 : Int32} {v4 : Int32} {σ : Sg} (h : f_X12_mend n v0 v1 v2 v3 v4 σ = some (xr, σr)) : MT G M_X12_mend [.ref v0, .int v1, .int v2, .int v3, .int v4] σ (some (.int xr)) σr := by
  refine MT_of rfl rfl (Nat.le_of_ble_eq_true rfl) ?_
  show RN G M_X12_mend 0 [some (.ref v0), some (.int v1), some (.int v2), some (.int v3), some (.int v4)] [] σ (.inl (some (.int xr))) σr
  unfold f_X12_mend at h
  refine RN_aload_n (pc := 0) (k := 0) (by decide +kernel) rfl rfl ?_
  refine RN_iload_n (pc := 1) (k := 1) (by decide +kernel) rfl rfl ?_
  obtain ⟨c56, h⟩ := ck_el h
  obtain ⟨x58, f57, h⟩ := bp_el h
  refine RN_callV (M := M_X12_mend) (pc := 2) (idx := 172) (as := [.int v1]) (st := []) (t_X12_isProgram f57) (by decide +kernel) lk_RX12_172 rfl ⟨by decide, fun q hq => by cases hq; rfl⟩ c56 (Nat.le_of_ble_eq_true rfl) ⟨Nat.le_of_ble_eq_true rfl, Nat.le_of_ble_eq_true rfl⟩ rfl ?_
  show RN G M_X12_mend 5 [some (.ref v0), some (.int v1), some (.int v2), some (.int v3), some (.int v4)] [.int x58] σ _ _
  refine RN_if_eq (pc := 5) (off := 30) (tgt := 35) (by decide +kernel) (by decide) (fun c59 => ?_) (fun c59 => ?_)
  · replace h := it_t c59 h
    refine RN_iconst (pc := 35) (n := -1) (v := -1) (by decide +kernel) (by decide) ?_
    obtain ⟨rfl, rfl⟩ := some_el2 h
    exact RN_ireturn (by decide +kernel) rfl
  · replace h := it_f c59 h
    refine RN_iload_n (pc := 8) (k := 2) (by decide +kernel) rfl rfl ?_
    refine RN_iconst (pc := 9) (n := 0) (v := 0) (by decide +kernel) (by decide) ?_
    refine RN_bipush (pc := 10) (n := 6) (v := 6) (by decide +kernel) (by decide) ?_
    obtain ⟨x61, f60, h⟩ := bp_el h
    refine RN_callS (M := M_X12_mend) (pc := 12) (idx := 159) (as := [.int v2, .int (0 : Int32), .int (6 : Int32)]) (st := []) (t_X12_in f60) (by decide +kernel) lk_RX12_159 rfl (Nat.le_of_ble_eq_true rfl) ⟨Nat.le_of_ble_eq_true rfl, Nat.le_of_ble_eq_true rfl⟩ rfl ?_
    show RN G M_X12_mend 15 [some (.ref v0), some (.int v1), some (.int v2), some (.int v3), some (.int v4)] [.int x61] σ _ _
    refine RN_if_eq (pc := 15) (off := 20) (tgt := 35) (by decide +kernel) (by decide) (fun c62 => ?_) (fun c62 => ?_)
    · replace h := it_t c62 h
      refine RN_iconst (pc := 35) (n := -1) (v := -1) (by decide +kernel) (by decide) ?_
      obtain ⟨rfl, rfl⟩ := some_el2 h
      exact RN_ireturn (by decide +kernel) rfl
    · replace h := it_f c62 h
      refine RN_iload_n (pc := 18) (k := 2) (by decide +kernel) rfl rfl ?_
      refine RN_iconst (pc := 19) (n := 2) (v := 2) (by decide +kernel) (by decide) ?_
      refine RN_icmp_eq (pc := 20) (off := 15) (tgt := 35) (by decide +kernel) (by decide) (fun c63 => ?_) (fun c63 => ?_)
      · replace h := it_t c63 h
        refine RN_iconst (pc := 35) (n := -1) (v := -1) (by decide +kernel) (by decide) ?_
        obtain ⟨rfl, rfl⟩ := some_el2 h
        exact RN_ireturn (by decide +kernel) rfl
      · replace h := it_f c63 h
        refine RN_iload_n (pc := 23) (k := 3) (by decide +kernel) rfl rfl ?_
        refine RN_iload (pc := 24) (i := 4) (by decide +kernel) rfl ?_
        refine RN_sipush (pc := 26) (n := 300) (v := 300) (by decide +kernel) (by decide) ?_
        obtain ⟨x65, f64, h⟩ := bp_el h
        refine RN_callS (M := M_X12_mend) (pc := 29) (idx := 354) (as := [.int v3, .int v4, .int (300 : Int32)]) (st := []) (t_X12_isSpan f64) (by decide +kernel) lk_RX12_354 rfl (Nat.le_of_ble_eq_true rfl) ⟨Nat.le_of_ble_eq_true rfl, Nat.le_of_ble_eq_true rfl⟩ rfl ?_
        show RN G M_X12_mend 32 [some (.ref v0), some (.int v1), some (.int v2), some (.int v3), some (.int v4)] [.int x65] σ _ _
        refine RN_if_ne (pc := 32) (off := 5) (tgt := 37) (by decide +kernel) (by decide) (fun c66 => ?_) (fun c66 => ?_)
        · replace h := it_f c66 h
          refine RN_aload_n (pc := 37) (k := 0) (by decide +kernel) rfl rfl ?_
          refine RN_iload_n (pc := 38) (k := 1) (by decide +kernel) rfl rfl ?_
          refine RN_iload_n (pc := 39) (k := 2) (by decide +kernel) rfl rfl ?_
          refine RN_iconst (pc := 40) (n := -1) (v := -1) (by decide +kernel) (by decide) ?_
          refine RN_iload_n (pc := 41) (k := 3) (by decide +kernel) rfl rfl ?_
          refine RN_iload (pc := 42) (i := 4) (by decide +kernel) rfl ?_
          obtain ⟨x69, σ68, f67, h⟩ := bd_el h
          refine RN_callV (M := M_X12_mend) (pc := 44) (idx := 357) (as := [.int v1, .int v2, .int (-1 : Int32), .int v3, .int v4]) (st := []) (t_X12_leastOf f67) (by decide +kernel) lk_RX12_357 rfl ⟨by decide, fun q hq => by cases hq; rfl⟩ c56 (Nat.le_of_ble_eq_true rfl) ⟨Nat.le_of_ble_eq_true rfl, Nat.le_of_ble_eq_true rfl⟩ rfl ?_
          show RN G M_X12_mend 47 [some (.ref v0), some (.int v1), some (.int v2), some (.int v3), some (.int v4)] [.int x69] σ68 _ _
          refine RN_ldcw (pc := 47) (idx := 353) (v := 9999999) (by decide +kernel) kc_RX12_353 ?_
          refine RN_icmp_ne (pc := 50) (off := 7) (tgt := 57) (by decide +kernel) (by decide) (fun c70 => ?_) (fun c70 => ?_)
          · replace h := it_f c70 h
            refine RN_iconst (pc := 57) (n := 0) (v := 0) (by decide +kernel) (by decide) ?_
            refine RN_istore (pc := 58) (i := 5) (ls2 := [some (.ref v0), some (.int v1), some (.int v2), some (.int v3), some (.int v4), some (.int (0 : Int32))]) (by decide +kernel) (by decide) rfl ?_
            exact RN_weak (l := [some (.ref v0), some (.int v1), some (.int v2), some (.int v3), some (.int v4), some (.int (0 : Int32))]) (And.intro rfl (And.intro rfl (And.intro rfl (And.intro rfl (And.intro rfl (And.intro rfl trivial)))))) (tb_X12_mend_60 v0 v1 v2 v3 v4 n (0 : Int32) σ68 h)
          · replace h := it_t c70 h
            refine RN_ldcw (pc := 53) (idx := 353) (v := 9999999) (by decide +kernel) kc_RX12_353 ?_
            obtain ⟨rfl, rfl⟩ := some_el2 h
            exact RN_ireturn (by decide +kernel) rfl
        · replace h := it_t c66 h
          refine RN_iconst (pc := 35) (n := -1) (v := -1) (by decide +kernel) (by decide) ?_
          obtain ⟨rfl, rfl⟩ := some_el2 h
          exact RN_ireturn (by decide +kernel) rfl
def b_X12_same_155 (n : Nat) (v3 : Int32) (σ : Sg) : Option Int32 :=
  if v3 = 0 then (
    some (0 : Int32))
  else (
    some (1 : Int32))
set_option maxRecDepth 20000 in
theorem tb_X12_same_155 {G : Gl} {xr : Int32} (n : Nat) (v3 : Int32) (σ : Sg) (h : b_X12_same_155 n v3 σ = some xr) : RN G M_X12_same 155 [none, none, none, some (.int v3)] [] σ (.inl (some (.int xr))) σ := by
  unfold b_X12_same_155 at h
  refine RN_iload_n (pc := 155) (k := 3) (by decide +kernel) rfl rfl ?_
  refine RN_if_eq (pc := 156) (off := 7) (tgt := 163) (by decide +kernel) (by decide) (fun c62 => ?_) (fun c62 => ?_)
  · replace h := it_t c62 h
    refine RN_iconst (pc := 163) (n := 0) (v := 0) (by decide +kernel) (by decide) ?_
    obtain rfl := some_el h
    exact RN_ireturn (by decide +kernel) rfl
  · replace h := it_f c62 h
    refine RN_iconst (pc := 159) (n := 1) (v := 1) (by decide +kernel) (by decide) ?_
    refine RN_goto (pc := 160) (off := 4) (tgt := 164) (by decide +kernel) (by decide) ?_
    obtain rfl := some_el h
    exact RN_ireturn (by decide +kernel) rfl
def b_X12_same_148 (k42 : Int32 → Int32 → Option Int32) (n : Nat) (v0 : Nat) (v1 : Int32) (v2 : Int32) (v4 : Int32) (s0 : Int32) (σ : Sg) : Option Int32 :=
  nm (v4 + (1 : Int32)) fun x72 =>
  k42 s0 x72
set_option maxRecDepth 20000 in
theorem tb_X12_same_148 {G : Gl} {xr : Int32} (n : Nat) (v0 : Nat) (v1 : Int32) (v2 : Int32) (v4 : Int32) (s0 : Int32) (σ : Sg) (k42 : Int32 → Int32 → Option Int32) (hk42 : ∀ (c3 : Int32) (c4 : Int32), k42 c3 c4 = some xr → RN G M_X12_same 42 [some (.ref v0), some (.int v1), some (.int v2), some (.int c3), some (.int c4)] [] σ (.inl (some (.int xr))) σ) (h : b_X12_same_148 k42 n v0 v1 v2 v4 s0 σ = some xr) : RN G M_X12_same 148 [some (.ref v0), some (.int v1), some (.int v2), none, some (.int v4)] [.int s0] σ (.inl (some (.int xr))) σ := by
  unfold b_X12_same_148 at h
  refine RN_istore_n (pc := 148) (k := 3) (ls2 := [some (.ref v0), some (.int v1), some (.int v2), some (.int s0), some (.int v4)]) (by decide +kernel) rfl (by decide) rfl ?_
  obtain ⟨x72, ex72, h⟩ := nm_el h
  refine RN_iinc (pc := 149) (i := 4) (n := 1) (v := x72) (ls2 := [some (.ref v0), some (.int v1), some (.int v2), some (.int s0), some (.int x72)]) (by decide +kernel) rfl (by rw [ex72]; rfl) (by decide) rfl ?_
  refine RN_goto (pc := 152) (off := -110) (tgt := 42) (by decide +kernel) (by decide) ?_
  exact RN_weak (l := [some (.ref v0), some (.int v1), some (.int v2), some (.int s0), some (.int x72)]) (And.intro rfl (And.intro rfl (And.intro rfl (And.intro rfl (And.intro rfl trivial))))) (hk42 s0 x72 h)
def b_X12_same_147 (k42 : Int32 → Int32 → Option Int32) (n : Nat) (v0 : Nat) (v1 : Int32) (v2 : Int32) (v4 : Int32) (σ : Sg) : Option Int32 :=
  b_X12_same_148 k42 n v0 v1 v2 v4 (0 : Int32) σ
set_option maxRecDepth 20000 in
theorem tb_X12_same_147 {G : Gl} {xr : Int32} (n : Nat) (v0 : Nat) (v1 : Int32) (v2 : Int32) (v4 : Int32) (σ : Sg) (k42 : Int32 → Int32 → Option Int32) (hk42 : ∀ (c3 : Int32) (c4 : Int32), k42 c3 c4 = some xr → RN G M_X12_same 42 [some (.ref v0), some (.int v1), some (.int v2), some (.int c3), some (.int c4)] [] σ (.inl (some (.int xr))) σ) (h : b_X12_same_147 k42 n v0 v1 v2 v4 σ = some xr) : RN G M_X12_same 147 [some (.ref v0), some (.int v1), some (.int v2), none, some (.int v4)] [] σ (.inl (some (.int xr))) σ := by
  unfold b_X12_same_147 at h
  refine RN_iconst (pc := 147) (n := 0) (v := 0) (by decide +kernel) (by decide) ?_
  exact RN_weak (l := [some (.ref v0), some (.int v1), some (.int v2), none, some (.int v4)]) (And.intro rfl (And.intro rfl (And.intro rfl (And.intro rfl trivial)))) (tb_X12_same_148 n v0 v1 v2 v4 (0 : Int32) σ k42 hk42 h)
def b_X12_same_42 : Nat → Nat → Int32 → Int32 → Int32 → Int32 → Sg → Option Int32
  | 0, _, _, _, _, _, _ => none
  | n + 1, v0, v1, v2, v3, v4, σ =>
  ck (okO σ v0 11) <|
  ck (¬ gR σ v0 8 = 0) <|
  nm (gR σ v0 8) fun r59 =>
  ck (okA σ r59 13 v1) <|
  if (gI σ r59 v1.toNatClampNeg) ≤ v4 then (
    b_X12_same_155 n v3 σ)
  else (
    if v3 = 0 then (
      b_X12_same_155 n v3 σ)
    else (
      nm (((20 : Int32) * v1) + v4) fun x64 =>
      nm (((20 : Int32) * v2) + v4) fun x65 =>
      ck (¬ gR σ v0 9 = 0) <|
      nm (gR σ v0 9) fun r67 =>
      ck (okA σ r67 13 x64) <|
      nm (gR σ v0 9) fun r69 =>
      ck (okA σ r69 13 x65) <|
      if (gI σ r67 x64.toNatClampNeg) = (gI σ r69 x65.toNatClampNeg) then (
        ck (¬ gR σ v0 10 = 0) <|
        nm (gR σ v0 10) fun r74 =>
        ck (okA σ r74 13 x64) <|
        nm (gR σ v0 10) fun r76 =>
        ck (okA σ r76 13 x65) <|
        if (gI σ r74 x64.toNatClampNeg) = (gI σ r76 x65.toNatClampNeg) then (
          ck (¬ gR σ v0 11 = 0) <|
          nm (gR σ v0 11) fun r80 =>
          ck (okA σ r80 13 x64) <|
          nm (gR σ v0 11) fun r82 =>
          ck (okA σ r82 13 x65) <|
          if (gI σ r80 x64.toNatClampNeg) = (gI σ r82 x65.toNatClampNeg) then (
            ck (¬ gR σ v0 12 = 0) <|
            nm (gR σ v0 12) fun r86 =>
            ck (okA σ r86 13 x64) <|
            nm (gR σ v0 12) fun r88 =>
            ck (okA σ r88 13 x65) <|
            if (gI σ r86 x64.toNatClampNeg) = (gI σ r88 x65.toNatClampNeg) then (
              b_X12_same_148 (fun c3 c4 => b_X12_same_42 n v0 v1 v2 c3 c4 σ) n v0 v1 v2 v4 (1 : Int32) σ)
            else (
              b_X12_same_147 (fun c3 c4 => b_X12_same_42 n v0 v1 v2 c3 c4 σ) n v0 v1 v2 v4 σ))
          else (
            b_X12_same_147 (fun c3 c4 => b_X12_same_42 n v0 v1 v2 c3 c4 σ) n v0 v1 v2 v4 σ))
        else (
          b_X12_same_147 (fun c3 c4 => b_X12_same_42 n v0 v1 v2 c3 c4 σ) n v0 v1 v2 v4 σ))
      else (
        b_X12_same_147 (fun c3 c4 => b_X12_same_42 n v0 v1 v2 c3 c4 σ) n v0 v1 v2 v4 σ)))
set_option maxRecDepth 20000 in
theorem tb_X12_same_42 {G : Gl} {xr : Int32} (v0 : Nat) (v1 : Int32) (v2 : Int32) (σ : Sg) : ∀ (n : Nat) (v3 : Int32) (v4 : Int32), b_X12_same_42 n v0 v1 v2 v3 v4 σ = some xr → RN G M_X12_same 42 [some (.ref v0), some (.int v1), some (.int v2), some (.int v3), some (.int v4)] [] σ (.inl (some (.int xr))) σ := by
  intro n
  induction n with
  | zero =>
    intro v3 v4 h
    exact none_el h
  | succ n ih =>
    intro v3 v4 h
    rw [b_X12_same_42] at h
    refine RN_iload (pc := 42) (i := 4) (by decide +kernel) rfl ?_
    refine RN_aload_n (pc := 44) (k := 0) (by decide +kernel) rfl rfl ?_
    obtain ⟨c57, h⟩ := ck_el h
    obtain ⟨c58, h⟩ := ck_el h
    refine RN_getR (pc := 45) (idx := 25) (ci := 11) (k := 8) (by decide +kernel) lf_RX12_25 rfl c57 c58 ?_
    obtain ⟨r59, er59, h⟩ := nm_el h
    refine RN_nmR er59 ?_
    refine RN_iload_n (pc := 48) (k := 1) (by decide +kernel) rfl rfl ?_
    obtain ⟨c60, h⟩ := ck_el h
    refine RN_iald (pc := 49) (by decide +kernel) c60 ?_
    refine RN_icmp_ge (pc := 50) (off := 105) (tgt := 155) (by decide +kernel) (by decide) (fun c61 => ?_) (fun c61 => ?_)
    · replace h := it_t c61 h
      exact RN_weak (l := [none, none, none, some (.int v3)]) (And.intro rfl trivial) (tb_X12_same_155 n v3 σ h)
    · replace h := it_f c61 h
      refine RN_iload_n (pc := 53) (k := 3) (by decide +kernel) rfl rfl ?_
      refine RN_if_eq (pc := 54) (off := 101) (tgt := 155) (by decide +kernel) (by decide) (fun c63 => ?_) (fun c63 => ?_)
      · replace h := it_t c63 h
        exact RN_weak (l := [none, none, none, some (.int v3)]) (And.intro rfl trivial) (tb_X12_same_155 n v3 σ h)
      · replace h := it_f c63 h
        refine RN_bipush (pc := 57) (n := 20) (v := 20) (by decide +kernel) (by decide) ?_
        refine RN_iload_n (pc := 59) (k := 1) (by decide +kernel) rfl rfl ?_
        refine RN_imul (pc := 60) (by decide +kernel) ?_
        refine RN_iload (pc := 61) (i := 4) (by decide +kernel) rfl ?_
        refine RN_iadd (pc := 63) (by decide +kernel) ?_
        obtain ⟨x64, ex64, h⟩ := nm_el h
        refine RN_nmI ex64 ?_
        refine RN_istore (pc := 64) (i := 5) (ls2 := [some (.ref v0), some (.int v1), some (.int v2), some (.int v3), some (.int v4), some (.int x64)]) (by decide +kernel) (by decide) rfl ?_
        refine RN_bipush (pc := 66) (n := 20) (v := 20) (by decide +kernel) (by decide) ?_
        refine RN_iload_n (pc := 68) (k := 2) (by decide +kernel) rfl rfl ?_
        refine RN_imul (pc := 69) (by decide +kernel) ?_
        refine RN_iload (pc := 70) (i := 4) (by decide +kernel) rfl ?_
        refine RN_iadd (pc := 72) (by decide +kernel) ?_
        obtain ⟨x65, ex65, h⟩ := nm_el h
        refine RN_nmI ex65 ?_
        refine RN_istore (pc := 73) (i := 6) (ls2 := [some (.ref v0), some (.int v1), some (.int v2), some (.int v3), some (.int v4), some (.int x64), some (.int x65)]) (by decide +kernel) (by decide) rfl ?_
        refine RN_aload_n (pc := 75) (k := 0) (by decide +kernel) rfl rfl ?_
        obtain ⟨c66, h⟩ := ck_el h
        refine RN_getR (pc := 76) (idx := 28) (ci := 11) (k := 9) (by decide +kernel) lf_RX12_28 rfl c57 c66 ?_
        obtain ⟨r67, er67, h⟩ := nm_el h
        refine RN_nmR er67 ?_
        refine RN_iload (pc := 79) (i := 5) (by decide +kernel) rfl ?_
        obtain ⟨c68, h⟩ := ck_el h
        refine RN_iald (pc := 81) (by decide +kernel) c68 ?_
        refine RN_aload_n (pc := 82) (k := 0) (by decide +kernel) rfl rfl ?_
        refine RN_getR (pc := 83) (idx := 28) (ci := 11) (k := 9) (by decide +kernel) lf_RX12_28 rfl c57 c66 ?_
        obtain ⟨r69, er69, h⟩ := nm_el h
        refine RN_nmR er69 ?_
        refine RN_iload (pc := 86) (i := 6) (by decide +kernel) rfl ?_
        obtain ⟨c70, h⟩ := ck_el h
        refine RN_iald (pc := 88) (by decide +kernel) c70 ?_
        refine RN_icmp_ne (pc := 89) (off := 58) (tgt := 147) (by decide +kernel) (by decide) (fun c71 => ?_) (fun c71 => ?_)
        · replace h := it_f c71 h
          exact RN_weak (l := [some (.ref v0), some (.int v1), some (.int v2), none, some (.int v4)]) (And.intro rfl (And.intro rfl (And.intro rfl (And.intro rfl trivial)))) (tb_X12_same_147 n v0 v1 v2 v4 σ _ (fun c3 c4 h => ih c3 c4 h) h)
        · replace h := it_t c71 h
          refine RN_aload_n (pc := 92) (k := 0) (by decide +kernel) rfl rfl ?_
          obtain ⟨c73, h⟩ := ck_el h
          refine RN_getR (pc := 93) (idx := 31) (ci := 11) (k := 10) (by decide +kernel) lf_RX12_31 rfl c57 c73 ?_
          obtain ⟨r74, er74, h⟩ := nm_el h
          refine RN_nmR er74 ?_
          refine RN_iload (pc := 96) (i := 5) (by decide +kernel) rfl ?_
          obtain ⟨c75, h⟩ := ck_el h
          refine RN_iald (pc := 98) (by decide +kernel) c75 ?_
          refine RN_aload_n (pc := 99) (k := 0) (by decide +kernel) rfl rfl ?_
          refine RN_getR (pc := 100) (idx := 31) (ci := 11) (k := 10) (by decide +kernel) lf_RX12_31 rfl c57 c73 ?_
          obtain ⟨r76, er76, h⟩ := nm_el h
          refine RN_nmR er76 ?_
          refine RN_iload (pc := 103) (i := 6) (by decide +kernel) rfl ?_
          obtain ⟨c77, h⟩ := ck_el h
          refine RN_iald (pc := 105) (by decide +kernel) c77 ?_
          refine RN_icmp_ne (pc := 106) (off := 41) (tgt := 147) (by decide +kernel) (by decide) (fun c78 => ?_) (fun c78 => ?_)
          · replace h := it_f c78 h
            exact RN_weak (l := [some (.ref v0), some (.int v1), some (.int v2), none, some (.int v4)]) (And.intro rfl (And.intro rfl (And.intro rfl (And.intro rfl trivial)))) (tb_X12_same_147 n v0 v1 v2 v4 σ _ (fun c3 c4 h => ih c3 c4 h) h)
          · replace h := it_t c78 h
            refine RN_aload_n (pc := 109) (k := 0) (by decide +kernel) rfl rfl ?_
            obtain ⟨c79, h⟩ := ck_el h
            refine RN_getR (pc := 110) (idx := 34) (ci := 11) (k := 11) (by decide +kernel) lf_RX12_34 rfl c57 c79 ?_
            obtain ⟨r80, er80, h⟩ := nm_el h
            refine RN_nmR er80 ?_
            refine RN_iload (pc := 113) (i := 5) (by decide +kernel) rfl ?_
            obtain ⟨c81, h⟩ := ck_el h
            refine RN_iald (pc := 115) (by decide +kernel) c81 ?_
            refine RN_aload_n (pc := 116) (k := 0) (by decide +kernel) rfl rfl ?_
            refine RN_getR (pc := 117) (idx := 34) (ci := 11) (k := 11) (by decide +kernel) lf_RX12_34 rfl c57 c79 ?_
            obtain ⟨r82, er82, h⟩ := nm_el h
            refine RN_nmR er82 ?_
            refine RN_iload (pc := 120) (i := 6) (by decide +kernel) rfl ?_
            obtain ⟨c83, h⟩ := ck_el h
            refine RN_iald (pc := 122) (by decide +kernel) c83 ?_
            refine RN_icmp_ne (pc := 123) (off := 24) (tgt := 147) (by decide +kernel) (by decide) (fun c84 => ?_) (fun c84 => ?_)
            · replace h := it_f c84 h
              exact RN_weak (l := [some (.ref v0), some (.int v1), some (.int v2), none, some (.int v4)]) (And.intro rfl (And.intro rfl (And.intro rfl (And.intro rfl trivial)))) (tb_X12_same_147 n v0 v1 v2 v4 σ _ (fun c3 c4 h => ih c3 c4 h) h)
            · replace h := it_t c84 h
              refine RN_aload_n (pc := 126) (k := 0) (by decide +kernel) rfl rfl ?_
              obtain ⟨c85, h⟩ := ck_el h
              refine RN_getR (pc := 127) (idx := 37) (ci := 11) (k := 12) (by decide +kernel) lf_RX12_37 rfl c57 c85 ?_
              obtain ⟨r86, er86, h⟩ := nm_el h
              refine RN_nmR er86 ?_
              refine RN_iload (pc := 130) (i := 5) (by decide +kernel) rfl ?_
              obtain ⟨c87, h⟩ := ck_el h
              refine RN_iald (pc := 132) (by decide +kernel) c87 ?_
              refine RN_aload_n (pc := 133) (k := 0) (by decide +kernel) rfl rfl ?_
              refine RN_getR (pc := 134) (idx := 37) (ci := 11) (k := 12) (by decide +kernel) lf_RX12_37 rfl c57 c85 ?_
              obtain ⟨r88, er88, h⟩ := nm_el h
              refine RN_nmR er88 ?_
              refine RN_iload (pc := 137) (i := 6) (by decide +kernel) rfl ?_
              obtain ⟨c89, h⟩ := ck_el h
              refine RN_iald (pc := 139) (by decide +kernel) c89 ?_
              refine RN_icmp_ne (pc := 140) (off := 7) (tgt := 147) (by decide +kernel) (by decide) (fun c90 => ?_) (fun c90 => ?_)
              · replace h := it_f c90 h
                exact RN_weak (l := [some (.ref v0), some (.int v1), some (.int v2), none, some (.int v4)]) (And.intro rfl (And.intro rfl (And.intro rfl (And.intro rfl trivial)))) (tb_X12_same_147 n v0 v1 v2 v4 σ _ (fun c3 c4 h => ih c3 c4 h) h)
              · replace h := it_t c90 h
                refine RN_iconst (pc := 143) (n := 1) (v := 1) (by decide +kernel) (by decide) ?_
                refine RN_goto (pc := 144) (off := 4) (tgt := 148) (by decide +kernel) (by decide) ?_
                exact RN_weak (l := [some (.ref v0), some (.int v1), some (.int v2), none, some (.int v4)]) (And.intro rfl (And.intro rfl (And.intro rfl (And.intro rfl trivial)))) (tb_X12_same_148 n v0 v1 v2 v4 (1 : Int32) σ _ (fun c3 c4 h => ih c3 c4 h) h)
def b_X12_same_38 (n : Nat) (v0 : Nat) (v1 : Int32) (v2 : Int32) (s0 : Int32) (σ : Sg) : Option Int32 :=
  b_X12_same_42 n v0 v1 v2 s0 (0 : Int32) σ
set_option maxRecDepth 20000 in
theorem tb_X12_same_38 {G : Gl} {xr : Int32} (n : Nat) (v0 : Nat) (v1 : Int32) (v2 : Int32) (s0 : Int32) (σ : Sg) (h : b_X12_same_38 n v0 v1 v2 s0 σ = some xr) : RN G M_X12_same 38 [some (.ref v0), some (.int v1), some (.int v2)] [.int s0] σ (.inl (some (.int xr))) σ := by
  unfold b_X12_same_38 at h
  refine RN_istore_n (pc := 38) (k := 3) (ls2 := [some (.ref v0), some (.int v1), some (.int v2), some (.int s0)]) (by decide +kernel) rfl (by decide) rfl ?_
  refine RN_iconst (pc := 39) (n := 0) (v := 0) (by decide +kernel) (by decide) ?_
  refine RN_istore (pc := 40) (i := 4) (ls2 := [some (.ref v0), some (.int v1), some (.int v2), some (.int s0), some (.int (0 : Int32))]) (by decide +kernel) (by decide) rfl ?_
  exact RN_weak (l := [some (.ref v0), some (.int v1), some (.int v2), some (.int s0), some (.int (0 : Int32))]) (And.intro rfl (And.intro rfl (And.intro rfl (And.intro rfl (And.intro rfl trivial))))) (tb_X12_same_42 v0 v1 v2 σ n s0 (0 : Int32) h)
def f_X12_same (n : Nat) (v0 : Nat) (v1 : Int32) (v2 : Int32) (σ : Sg) : Option Int32 :=
  ck (okO σ v0 11) <|
  bp (f_X12_isProgram v0 v1 σ) fun x46 =>
  if x46 = 0 then (
    some (-1 : Int32))
  else (
    bp (f_X12_isProgram v0 v2 σ) fun x49 =>
    if x49 = 0 then (
      some (-1 : Int32))
    else (
      ck (¬ gR σ v0 8 = 0) <|
      nm (gR σ v0 8) fun r52 =>
      ck (okA σ r52 13 v1) <|
      nm (gR σ v0 8) fun r54 =>
      ck (okA σ r54 13 v2) <|
      if (gI σ r52 v1.toNatClampNeg) = (gI σ r54 v2.toNatClampNeg) then (
        b_X12_same_38 n v0 v1 v2 (1 : Int32) σ)
      else (
        b_X12_same_38 n v0 v1 v2 (0 : Int32) σ)))
set_option maxRecDepth 20000 in
theorem t_X12_same {G : Gl} {xr : Int32} {n : Nat} {v0 : Nat} {v1 : Int32} {v2 : Int32} {σ : Sg} (h : f_X12_same n v0 v1 v2 σ = some xr) : MT G M_X12_same [.ref v0, .int v1, .int v2] σ (some (.int xr)) σ := by
  refine MT_of rfl rfl (Nat.le_of_ble_eq_true rfl) ?_
  show RN G M_X12_same 0 [some (.ref v0), some (.int v1), some (.int v2)] [] σ (.inl (some (.int xr))) σ
  unfold f_X12_same at h
  refine RN_aload_n (pc := 0) (k := 0) (by decide +kernel) rfl rfl ?_
  refine RN_iload_n (pc := 1) (k := 1) (by decide +kernel) rfl rfl ?_
  obtain ⟨c44, h⟩ := ck_el h
  obtain ⟨x46, f45, h⟩ := bp_el h
  refine RN_callV (M := M_X12_same) (pc := 2) (idx := 172) (as := [.int v1]) (st := []) (t_X12_isProgram f45) (by decide +kernel) lk_RX12_172 rfl ⟨by decide, fun q hq => by cases hq; rfl⟩ c44 (Nat.le_of_ble_eq_true rfl) ⟨Nat.le_of_ble_eq_true rfl, Nat.le_of_ble_eq_true rfl⟩ rfl ?_
  show RN G M_X12_same 5 [some (.ref v0), some (.int v1), some (.int v2)] [.int x46] σ _ _
  refine RN_if_eq (pc := 5) (off := 11) (tgt := 16) (by decide +kernel) (by decide) (fun c47 => ?_) (fun c47 => ?_)
  · replace h := it_t c47 h
    refine RN_iconst (pc := 16) (n := -1) (v := -1) (by decide +kernel) (by decide) ?_
    obtain rfl := some_el h
    exact RN_ireturn (by decide +kernel) rfl
  · replace h := it_f c47 h
    refine RN_aload_n (pc := 8) (k := 0) (by decide +kernel) rfl rfl ?_
    refine RN_iload_n (pc := 9) (k := 2) (by decide +kernel) rfl rfl ?_
    obtain ⟨x49, f48, h⟩ := bp_el h
    refine RN_callV (M := M_X12_same) (pc := 10) (idx := 172) (as := [.int v2]) (st := []) (t_X12_isProgram f48) (by decide +kernel) lk_RX12_172 rfl ⟨by decide, fun q hq => by cases hq; rfl⟩ c44 (Nat.le_of_ble_eq_true rfl) ⟨Nat.le_of_ble_eq_true rfl, Nat.le_of_ble_eq_true rfl⟩ rfl ?_
    show RN G M_X12_same 13 [some (.ref v0), some (.int v1), some (.int v2)] [.int x49] σ _ _
    refine RN_if_ne (pc := 13) (off := 5) (tgt := 18) (by decide +kernel) (by decide) (fun c50 => ?_) (fun c50 => ?_)
    · replace h := it_f c50 h
      refine RN_aload_n (pc := 18) (k := 0) (by decide +kernel) rfl rfl ?_
      obtain ⟨c51, h⟩ := ck_el h
      refine RN_getR (pc := 19) (idx := 25) (ci := 11) (k := 8) (by decide +kernel) lf_RX12_25 rfl c44 c51 ?_
      obtain ⟨r52, er52, h⟩ := nm_el h
      refine RN_nmR er52 ?_
      refine RN_iload_n (pc := 22) (k := 1) (by decide +kernel) rfl rfl ?_
      obtain ⟨c53, h⟩ := ck_el h
      refine RN_iald (pc := 23) (by decide +kernel) c53 ?_
      refine RN_aload_n (pc := 24) (k := 0) (by decide +kernel) rfl rfl ?_
      refine RN_getR (pc := 25) (idx := 25) (ci := 11) (k := 8) (by decide +kernel) lf_RX12_25 rfl c44 c51 ?_
      obtain ⟨r54, er54, h⟩ := nm_el h
      refine RN_nmR er54 ?_
      refine RN_iload_n (pc := 28) (k := 2) (by decide +kernel) rfl rfl ?_
      obtain ⟨c55, h⟩ := ck_el h
      refine RN_iald (pc := 29) (by decide +kernel) c55 ?_
      refine RN_icmp_ne (pc := 30) (off := 7) (tgt := 37) (by decide +kernel) (by decide) (fun c56 => ?_) (fun c56 => ?_)
      · replace h := it_f c56 h
        refine RN_iconst (pc := 37) (n := 0) (v := 0) (by decide +kernel) (by decide) ?_
        exact RN_weak (l := [some (.ref v0), some (.int v1), some (.int v2)]) (And.intro rfl (And.intro rfl (And.intro rfl trivial))) (tb_X12_same_38 n v0 v1 v2 (0 : Int32) σ h)
      · replace h := it_t c56 h
        refine RN_iconst (pc := 33) (n := 1) (v := 1) (by decide +kernel) (by decide) ?_
        refine RN_goto (pc := 34) (off := 4) (tgt := 38) (by decide +kernel) (by decide) ?_
        exact RN_weak (l := [some (.ref v0), some (.int v1), some (.int v2)]) (And.intro rfl (And.intro rfl (And.intro rfl trivial))) (tb_X12_same_38 n v0 v1 v2 (1 : Int32) σ h)
    · replace h := it_t c50 h
      refine RN_iconst (pc := 16) (n := -1) (v := -1) (by decide +kernel) (by decide) ?_
      obtain rfl := some_el h
      exact RN_ireturn (by decide +kernel) rfl
def b_X12_rounded_52 (v0 : Nat) (v1 : Int64) (v3 : Int32) (v4 : Int32) (v5 : Int32) (s0 : Int32) (σ : Sg) : Option (Int64 × Sg) :=
  ck (okO σ v0 11) <|
  bd (f_X12_isRefused v0 s0 σ) fun x19 σ18 =>
  if x19 = 0 then (
    bp (f_X12_times v1 ((v3.toInt64) * (v4.toInt64)) v5) fun x22 =>
    some ((v4.toInt64) * x22, σ18))
  else (
    some ((0 : Int64), σ18))
set_option maxRecDepth 20000 in
theorem tb_X12_rounded_52 {G : Gl} {xr : Int64} {σr : Sg} (v0 : Nat) (v1 : Int64) (v3 : Int32) (v4 : Int32) (v5 : Int32) (s0 : Int32) (σ : Sg) (h : b_X12_rounded_52 v0 v1 v3 v4 v5 s0 σ = some (xr, σr)) : RN G M_X12_rounded 52 [some (.ref v0), some (.long v1), none, some (.int v3), some (.int v4), some (.int v5)] [.int s0] σ (.inl (some (.long xr))) σr := by
  unfold b_X12_rounded_52 at h
  refine RN_istore (pc := 52) (i := 6) (ls2 := [some (.ref v0), some (.long v1), none, some (.int v3), some (.int v4), some (.int v5), some (.int s0)]) (by decide +kernel) (by decide) rfl ?_
  refine RN_aload_n (pc := 54) (k := 0) (by decide +kernel) rfl rfl ?_
  refine RN_iload (pc := 55) (i := 6) (by decide +kernel) rfl ?_
  obtain ⟨c16, h⟩ := ck_el h
  obtain ⟨x19, σ18, f17, h⟩ := bd_el h
  refine RN_callV (M := M_X12_rounded) (pc := 57) (idx := 283) (as := [.int s0]) (st := []) (t_X12_isRefused f17) (by decide +kernel) lk_RX12_283 rfl ⟨by decide, fun q hq => by cases hq; rfl⟩ c16 (Nat.le_of_ble_eq_true rfl) ⟨Nat.le_of_ble_eq_true rfl, Nat.le_of_ble_eq_true rfl⟩ rfl ?_
  show RN G M_X12_rounded 60 [some (.ref v0), some (.long v1), none, some (.int v3), some (.int v4), some (.int v5), some (.int s0)] [.int x19] σ18 _ _
  refine RN_if_eq (pc := 60) (off := 7) (tgt := 67) (by decide +kernel) (by decide) (fun c20 => ?_) (fun c20 => ?_)
  · replace h := it_t c20 h
    refine RN_iload (pc := 67) (i := 4) (by decide +kernel) rfl ?_
    refine RN_i2l (pc := 69) (by decide +kernel) ?_
    refine RN_lload_n (pc := 70) (k := 1) (by decide +kernel) rfl rfl ?_
    refine RN_iload_n (pc := 71) (k := 3) (by decide +kernel) rfl rfl ?_
    refine RN_i2l (pc := 72) (by decide +kernel) ?_
    refine RN_iload (pc := 73) (i := 4) (by decide +kernel) rfl ?_
    refine RN_i2l (pc := 75) (by decide +kernel) ?_
    refine RN_lmul (pc := 76) (by decide +kernel) ?_
    refine RN_iload (pc := 77) (i := 5) (by decide +kernel) rfl ?_
    obtain ⟨x22, f21, h⟩ := bp_el h
    refine RN_callS (M := M_X12_rounded) (pc := 79) (idx := 212) (as := [.long v1, .long ((v3.toInt64) * (v4.toInt64)), .int v5]) (st := [.long (v4.toInt64)]) (t_X12_times f21) (by decide +kernel) lk_RX12_212 rfl (Nat.le_of_ble_eq_true rfl) ⟨Nat.le_of_ble_eq_true rfl, Nat.le_of_ble_eq_true rfl⟩ rfl ?_
    show RN G M_X12_rounded 82 [some (.ref v0), some (.long v1), none, some (.int v3), some (.int v4), some (.int v5), some (.int s0)] [.long x22, .long (v4.toInt64)] σ18 _ _
    refine RN_lmul (pc := 82) (by decide +kernel) ?_
    obtain ⟨rfl, rfl⟩ := some_el2 h
    exact RN_lreturn (by decide +kernel) rfl
  · replace h := it_f c20 h
    refine RN_lconst (pc := 63) (n := 0) (v := 0) (by decide +kernel) (by decide) ?_
    refine RN_goto (pc := 64) (off := 19) (tgt := 83) (by decide +kernel) (by decide) ?_
    obtain ⟨rfl, rfl⟩ := some_el2 h
    exact RN_lreturn (by decide +kernel) rfl
def b_X12_rounded_51 (v0 : Nat) (v1 : Int64) (v3 : Int32) (v4 : Int32) (v5 : Int32) (σ : Sg) : Option (Int64 × Sg) :=
  b_X12_rounded_52 v0 v1 v3 v4 v5 (0 : Int32) σ
set_option maxRecDepth 20000 in
theorem tb_X12_rounded_51 {G : Gl} {xr : Int64} {σr : Sg} (v0 : Nat) (v1 : Int64) (v3 : Int32) (v4 : Int32) (v5 : Int32) (σ : Sg) (h : b_X12_rounded_51 v0 v1 v3 v4 v5 σ = some (xr, σr)) : RN G M_X12_rounded 51 [some (.ref v0), some (.long v1), none, some (.int v3), some (.int v4), some (.int v5)] [] σ (.inl (some (.long xr))) σr := by
  unfold b_X12_rounded_51 at h
  refine RN_iconst (pc := 51) (n := 0) (v := 0) (by decide +kernel) (by decide) ?_
  exact RN_weak (l := [some (.ref v0), some (.long v1), none, some (.int v3), some (.int v4), some (.int v5)]) (And.intro rfl (And.intro rfl (And.intro rfl (And.intro rfl (And.intro rfl trivial))))) (tb_X12_rounded_52 v0 v1 v3 v4 v5 (0 : Int32) σ h)
def f_X12_rounded (v0 : Nat) (v1 : Int64) (v3 : Int32) (v4 : Int32) (v5 : Int32) (σ : Sg) : Option (Int64 × Sg) :=
  bp (f_X12_in v3 (1 : Int32) (1000000 : Int32)) fun x14 =>
  if x14 = 0 then (
    b_X12_rounded_51 v0 v1 v3 v4 v5 σ)
  else (
    bp (f_X12_in v4 (1 : Int32) (1000000 : Int32)) fun x24 =>
    if x24 = 0 then (
      b_X12_rounded_51 v0 v1 v3 v4 v5 σ)
    else (
      if v1 < (-1000000000000 : Int64) then (
        b_X12_rounded_51 v0 v1 v3 v4 v5 σ)
      else (
        if (1000000000000 : Int64) < v1 then (
          b_X12_rounded_51 v0 v1 v3 v4 v5 σ)
        else (
          bp (f_X12_in v5 (0 : Int32) (5 : Int32)) fun x29 =>
          if x29 = 0 then (
            b_X12_rounded_51 v0 v1 v3 v4 v5 σ)
          else (
            b_X12_rounded_52 v0 v1 v3 v4 v5 (1 : Int32) σ)))))
set_option maxRecDepth 20000 in
theorem t_X12_rounded {G : Gl} {xr : Int64} {σr : Sg} {v0 : Nat} {v1 : Int64} {v3 : Int32} {v4 : Int32} {v5 : Int32} {σ : Sg} (h : f_X12_rounded v0 v1 v3 v4 v5 σ = some (xr, σr)) : MT G M_X12_rounded [.ref v0, .long v1, .int v3, .int v4, .int v5] σ (some (.long xr)) σr := by
  refine MT_of rfl rfl (Nat.le_of_ble_eq_true rfl) ?_
  show RN G M_X12_rounded 0 [some (.ref v0), some (.long v1), none, some (.int v3), some (.int v4), some (.int v5)] [] σ (.inl (some (.long xr))) σr
  unfold f_X12_rounded at h
  refine RN_iload_n (pc := 0) (k := 3) (by decide +kernel) rfl rfl ?_
  refine RN_iconst (pc := 1) (n := 1) (v := 1) (by decide +kernel) (by decide) ?_
  refine RN_ldc (pc := 2) (idx := 171) (v := 1000000) (by decide +kernel) kc_RX12_171 ?_
  obtain ⟨x14, f13, h⟩ := bp_el h
  refine RN_callS (M := M_X12_rounded) (pc := 4) (idx := 159) (as := [.int v3, .int (1 : Int32), .int (1000000 : Int32)]) (st := []) (t_X12_in f13) (by decide +kernel) lk_RX12_159 rfl (Nat.le_of_ble_eq_true rfl) ⟨Nat.le_of_ble_eq_true rfl, Nat.le_of_ble_eq_true rfl⟩ rfl ?_
  show RN G M_X12_rounded 7 [some (.ref v0), some (.long v1), none, some (.int v3), some (.int v4), some (.int v5)] [.int x14] σ _ _
  refine RN_if_eq (pc := 7) (off := 44) (tgt := 51) (by decide +kernel) (by decide) (fun c15 => ?_) (fun c15 => ?_)
  · replace h := it_t c15 h
    exact RN_weak (l := [some (.ref v0), some (.long v1), none, some (.int v3), some (.int v4), some (.int v5)]) (And.intro rfl (And.intro rfl (And.intro rfl (And.intro rfl (And.intro rfl trivial))))) (tb_X12_rounded_51 v0 v1 v3 v4 v5 σ h)
  · replace h := it_f c15 h
    refine RN_iload (pc := 10) (i := 4) (by decide +kernel) rfl ?_
    refine RN_iconst (pc := 12) (n := 1) (v := 1) (by decide +kernel) (by decide) ?_
    refine RN_ldc (pc := 13) (idx := 171) (v := 1000000) (by decide +kernel) kc_RX12_171 ?_
    obtain ⟨x24, f23, h⟩ := bp_el h
    refine RN_callS (M := M_X12_rounded) (pc := 15) (idx := 159) (as := [.int v4, .int (1 : Int32), .int (1000000 : Int32)]) (st := []) (t_X12_in f23) (by decide +kernel) lk_RX12_159 rfl (Nat.le_of_ble_eq_true rfl) ⟨Nat.le_of_ble_eq_true rfl, Nat.le_of_ble_eq_true rfl⟩ rfl ?_
    show RN G M_X12_rounded 18 [some (.ref v0), some (.long v1), none, some (.int v3), some (.int v4), some (.int v5)] [.int x24] σ _ _
    refine RN_if_eq (pc := 18) (off := 33) (tgt := 51) (by decide +kernel) (by decide) (fun c25 => ?_) (fun c25 => ?_)
    · replace h := it_t c25 h
      exact RN_weak (l := [some (.ref v0), some (.long v1), none, some (.int v3), some (.int v4), some (.int v5)]) (And.intro rfl (And.intro rfl (And.intro rfl (And.intro rfl (And.intro rfl trivial))))) (tb_X12_rounded_51 v0 v1 v3 v4 v5 σ h)
    · replace h := it_f c25 h
      refine RN_lload_n (pc := 21) (k := 1) (by decide +kernel) rfl rfl ?_
      refine RN_ldc2 (pc := 22) (idx := 373) (v := -1000000000000) (by decide +kernel) kc_RX12_373 ?_
      refine RN_lc_lt (pc := 25) (off := 25) (tgt := 51) (by decide +kernel) (by decide +kernel) (by decide) (fun c26 => ?_) (fun c26 => ?_)
      · replace h := it_t c26 h
        exact RN_weak (l := [some (.ref v0), some (.long v1), none, some (.int v3), some (.int v4), some (.int v5)]) (And.intro rfl (And.intro rfl (And.intro rfl (And.intro rfl (And.intro rfl trivial))))) (tb_X12_rounded_51 v0 v1 v3 v4 v5 σ h)
      · replace h := it_f c26 h
        refine RN_lload_n (pc := 29) (k := 1) (by decide +kernel) rfl rfl ?_
        refine RN_ldc2 (pc := 30) (idx := 375) (v := 1000000000000) (by decide +kernel) kc_RX12_375 ?_
        refine RN_lc_gt (pc := 33) (off := 17) (tgt := 51) (by decide +kernel) (by decide +kernel) (by decide) (fun c27 => ?_) (fun c27 => ?_)
        · replace h := it_t c27 h
          exact RN_weak (l := [some (.ref v0), some (.long v1), none, some (.int v3), some (.int v4), some (.int v5)]) (And.intro rfl (And.intro rfl (And.intro rfl (And.intro rfl (And.intro rfl trivial))))) (tb_X12_rounded_51 v0 v1 v3 v4 v5 σ h)
        · replace h := it_f c27 h
          refine RN_iload (pc := 37) (i := 5) (by decide +kernel) rfl ?_
          refine RN_iconst (pc := 39) (n := 0) (v := 0) (by decide +kernel) (by decide) ?_
          refine RN_iconst (pc := 40) (n := 5) (v := 5) (by decide +kernel) (by decide) ?_
          obtain ⟨x29, f28, h⟩ := bp_el h
          refine RN_callS (M := M_X12_rounded) (pc := 41) (idx := 159) (as := [.int v5, .int (0 : Int32), .int (5 : Int32)]) (st := []) (t_X12_in f28) (by decide +kernel) lk_RX12_159 rfl (Nat.le_of_ble_eq_true rfl) ⟨Nat.le_of_ble_eq_true rfl, Nat.le_of_ble_eq_true rfl⟩ rfl ?_
          show RN G M_X12_rounded 44 [some (.ref v0), some (.long v1), none, some (.int v3), some (.int v4), some (.int v5)] [.int x29] σ _ _
          refine RN_if_eq (pc := 44) (off := 7) (tgt := 51) (by decide +kernel) (by decide) (fun c30 => ?_) (fun c30 => ?_)
          · replace h := it_t c30 h
            exact RN_weak (l := [some (.ref v0), some (.long v1), none, some (.int v3), some (.int v4), some (.int v5)]) (And.intro rfl (And.intro rfl (And.intro rfl (And.intro rfl (And.intro rfl trivial))))) (tb_X12_rounded_51 v0 v1 v3 v4 v5 σ h)
          · replace h := it_f c30 h
            refine RN_iconst (pc := 47) (n := 1) (v := 1) (by decide +kernel) (by decide) ?_
            refine RN_goto (pc := 48) (off := 4) (tgt := 52) (by decide +kernel) (by decide) ?_
            exact RN_weak (l := [some (.ref v0), some (.long v1), none, some (.int v3), some (.int v4), some (.int v5)]) (And.intro rfl (And.intro rfl (And.intro rfl (And.intro rfl (And.intro rfl trivial))))) (tb_X12_rounded_52 v0 v1 v3 v4 v5 (1 : Int32) σ h)
def f_X12_isTape (v0 : Int32) : Option Int32 :=
  bp (f_X12_in v0 (0 : Int32) (5 : Int32)) fun x4 =>
  ck (x4 = 0 ∨ x4 = 1) <|
  some x4
set_option maxRecDepth 20000 in
theorem t_X12_isTape {G : Gl} {xr : Int32} {v0 : Int32} {σ : Sg} (h : f_X12_isTape v0 = some xr) : MT G M_X12_isTape [.int v0] σ (some (.int xr)) σ := by
  refine MT_of rfl rfl (Nat.le_of_ble_eq_true rfl) ?_
  show RN G M_X12_isTape 0 [some (.int v0)] [] σ (.inl (some (.int xr))) σ
  unfold f_X12_isTape at h
  refine RN_iload_n (pc := 0) (k := 0) (by decide +kernel) rfl rfl ?_
  refine RN_iconst (pc := 1) (n := 0) (v := 0) (by decide +kernel) (by decide) ?_
  refine RN_iconst (pc := 2) (n := 5) (v := 5) (by decide +kernel) (by decide) ?_
  obtain ⟨x4, f3, h⟩ := bp_el h
  refine RN_callS (M := M_X12_isTape) (pc := 3) (idx := 159) (as := [.int v0, .int (0 : Int32), .int (5 : Int32)]) (st := []) (t_X12_in f3) (by decide +kernel) lk_RX12_159 rfl (Nat.le_of_ble_eq_true rfl) ⟨Nat.le_of_ble_eq_true rfl, Nat.le_of_ble_eq_true rfl⟩ rfl ?_
  show RN G M_X12_isTape 6 [some (.int v0)] [.int x4] σ _ _
  obtain ⟨c5, h⟩ := ck_el h
  obtain rfl := some_el h
  exact RN_zreturn (by decide +kernel) rfl c5
def b_X12_tape_52 : Nat → Nat → Int32 → Int32 → Int32 → Sg → Option (Int32 × Sg)
  | 0, _, _, _, _, _ => none
  | n + 1, v0, v1, v3, v4, σ =>
  if (64 : Int32) ≤ v4 then (
    some (v3, σ))
  else (
    ck (okO σ v0 11) <|
    ck (¬ gR σ v0 35 = 0) <|
    nm (gR σ v0 35) fun r46 =>
    ck (okW σ r46 14 (((64 : Int32) * v1) + v4)) <|
    nm (pJ σ r46 (((64 : Int32) * v1) + v4).toNatClampNeg (0 : Int64)) fun σ48 =>
    nm (v4 + (1 : Int32)) fun x49 =>
    b_X12_tape_52 n v0 v1 v3 x49 σ48)
set_option maxRecDepth 20000 in
theorem tb_X12_tape_52 {G : Gl} {xr : Int32} {σr : Sg} (v0 : Nat) (v1 : Int32) (v3 : Int32) : ∀ (n : Nat) (v4 : Int32) (σ : Sg), b_X12_tape_52 n v0 v1 v3 v4 σ = some (xr, σr) → RN G M_X12_tape 52 [some (.ref v0), some (.int v1), none, some (.int v3), some (.int v4)] [] σ (.inl (some (.int xr))) σr := by
  intro n
  induction n with
  | zero =>
    intro v4 σ h
    exact none_el h
  | succ n ih =>
    intro v4 σ h
    rw [b_X12_tape_52] at h
    refine RN_iload (pc := 52) (i := 4) (by decide +kernel) rfl ?_
    refine RN_bipush (pc := 54) (n := 64) (v := 64) (by decide +kernel) (by decide) ?_
    refine RN_icmp_ge (pc := 56) (off := 22) (tgt := 78) (by decide +kernel) (by decide) (fun c43 => ?_) (fun c43 => ?_)
    · replace h := it_t c43 h
      refine RN_iload_n (pc := 78) (k := 3) (by decide +kernel) rfl rfl ?_
      obtain ⟨rfl, rfl⟩ := some_el2 h
      exact RN_ireturn (by decide +kernel) rfl
    · replace h := it_f c43 h
      refine RN_aload_n (pc := 59) (k := 0) (by decide +kernel) rfl rfl ?_
      obtain ⟨c44, h⟩ := ck_el h
      obtain ⟨c45, h⟩ := ck_el h
      refine RN_getR (pc := 60) (idx := 79) (ci := 11) (k := 35) (by decide +kernel) lf_RX12_79 rfl c44 c45 ?_
      obtain ⟨r46, er46, h⟩ := nm_el h
      refine RN_nmR er46 ?_
      refine RN_bipush (pc := 63) (n := 64) (v := 64) (by decide +kernel) (by decide) ?_
      refine RN_iload_n (pc := 65) (k := 1) (by decide +kernel) rfl rfl ?_
      refine RN_imul (pc := 66) (by decide +kernel) ?_
      refine RN_iload (pc := 67) (i := 4) (by decide +kernel) rfl ?_
      refine RN_iadd (pc := 69) (by decide +kernel) ?_
      refine RN_lconst (pc := 70) (n := 0) (v := 0) (by decide +kernel) (by decide) ?_
      obtain ⟨c47, h⟩ := ck_el h
      refine RN_last (pc := 71) (by decide +kernel) c47 ?_
      obtain ⟨σ48, eσ48, h⟩ := nm_el h
      refine RN_nmS eσ48 ?_
      obtain ⟨x49, ex49, h⟩ := nm_el h
      refine RN_iinc (pc := 72) (i := 4) (n := 1) (v := x49) (ls2 := [some (.ref v0), some (.int v1), none, some (.int v3), some (.int x49)]) (by decide +kernel) rfl (by rw [ex49]; rfl) (by decide) rfl ?_
      refine RN_goto (pc := 75) (off := -23) (tgt := 52) (by decide +kernel) (by decide) ?_
      exact RN_weak (l := [some (.ref v0), some (.int v1), none, some (.int v3), some (.int x49)]) (And.intro rfl (And.intro rfl (And.intro rfl (And.intro rfl trivial)))) (ih x49 σ48 h)
def f_X12_tape (n : Nat) (v0 : Nat) (v1 : Int32) (v2 : Int32) (v3 : Int32) (σ : Sg) : Option (Int32 × Sg) :=
  bp (f_X12_isTape v1) fun x26 =>
  if x26 = 0 then (
    some ((-1 : Int32), σ))
  else (
    bp (f_X12_in v2 (1 : Int32) (4 : Int32)) fun x29 =>
    if x29 = 0 then (
      some ((-1 : Int32), σ))
    else (
      if v3 ≤ (64 : Int32) then (
        if 0 ≤ v3 then (
          ck (okO σ v0 11) <|
          ck (¬ gR σ v0 33 = 0) <|
          nm (gR σ v0 33) fun r35 =>
          ck (okW σ r35 13 v1) <|
          nm (pI σ r35 v1.toNatClampNeg v2) fun σ37 =>
          ck (okO σ37 v0 11) <|
          ck (¬ gR σ37 v0 34 = 0) <|
          nm (gR σ37 v0 34) fun r40 =>
          ck (okW σ37 r40 13 v1) <|
          nm (pI σ37 r40 v1.toNatClampNeg v3) fun σ42 =>
          b_X12_tape_52 n v0 v1 v3 (0 : Int32) σ42)
        else (
          ck (okO σ v0 11) <|
          bd (f_X12_refuse v0 (-14 : Int32) σ) fun x53 σ52 =>
          some (x53, σ52)))
      else (
        some ((-1 : Int32), σ))))
set_option maxRecDepth 20000 in
theorem t_X12_tape {G : Gl} {xr : Int32} {σr : Sg} {n : Nat} {v0 : Nat} {v1 : Int32} {v2 : Int32} {v3 : Int32} {σ : Sg} (h : f_X12_tape n v0 v1 v2 v3 σ = some (xr, σr)) : MT G M_X12_tape [.ref v0, .int v1, .int v2, .int v3] σ (some (.int xr)) σr := by
  refine MT_of rfl rfl (Nat.le_of_ble_eq_true rfl) ?_
  show RN G M_X12_tape 0 [some (.ref v0), some (.int v1), some (.int v2), some (.int v3)] [] σ (.inl (some (.int xr))) σr
  unfold f_X12_tape at h
  refine RN_iload_n (pc := 0) (k := 1) (by decide +kernel) rfl rfl ?_
  obtain ⟨x26, f25, h⟩ := bp_el h
  refine RN_callS (M := M_X12_tape) (pc := 1) (idx := 377) (as := [.int v1]) (st := []) (t_X12_isTape f25) (by decide +kernel) lk_RX12_377 rfl (Nat.le_of_ble_eq_true rfl) ⟨Nat.le_of_ble_eq_true rfl, Nat.le_of_ble_eq_true rfl⟩ rfl ?_
  show RN G M_X12_tape 4 [some (.ref v0), some (.int v1), some (.int v2), some (.int v3)] [.int x26] σ _ _
  refine RN_if_eq (pc := 4) (off := 18) (tgt := 22) (by decide +kernel) (by decide) (fun c27 => ?_) (fun c27 => ?_)
  · replace h := it_t c27 h
    refine RN_iconst (pc := 22) (n := -1) (v := -1) (by decide +kernel) (by decide) ?_
    obtain ⟨rfl, rfl⟩ := some_el2 h
    exact RN_ireturn (by decide +kernel) rfl
  · replace h := it_f c27 h
    refine RN_iload_n (pc := 7) (k := 2) (by decide +kernel) rfl rfl ?_
    refine RN_iconst (pc := 8) (n := 1) (v := 1) (by decide +kernel) (by decide) ?_
    refine RN_iconst (pc := 9) (n := 4) (v := 4) (by decide +kernel) (by decide) ?_
    obtain ⟨x29, f28, h⟩ := bp_el h
    refine RN_callS (M := M_X12_tape) (pc := 10) (idx := 159) (as := [.int v2, .int (1 : Int32), .int (4 : Int32)]) (st := []) (t_X12_in f28) (by decide +kernel) lk_RX12_159 rfl (Nat.le_of_ble_eq_true rfl) ⟨Nat.le_of_ble_eq_true rfl, Nat.le_of_ble_eq_true rfl⟩ rfl ?_
    show RN G M_X12_tape 13 [some (.ref v0), some (.int v1), some (.int v2), some (.int v3)] [.int x29] σ _ _
    refine RN_if_eq (pc := 13) (off := 9) (tgt := 22) (by decide +kernel) (by decide) (fun c30 => ?_) (fun c30 => ?_)
    · replace h := it_t c30 h
      refine RN_iconst (pc := 22) (n := -1) (v := -1) (by decide +kernel) (by decide) ?_
      obtain ⟨rfl, rfl⟩ := some_el2 h
      exact RN_ireturn (by decide +kernel) rfl
    · replace h := it_f c30 h
      refine RN_iload_n (pc := 16) (k := 3) (by decide +kernel) rfl rfl ?_
      refine RN_bipush (pc := 17) (n := 64) (v := 64) (by decide +kernel) (by decide) ?_
      refine RN_icmp_le (pc := 19) (off := 5) (tgt := 24) (by decide +kernel) (by decide) (fun c31 => ?_) (fun c31 => ?_)
      · replace h := it_t c31 h
        refine RN_iload_n (pc := 24) (k := 3) (by decide +kernel) rfl rfl ?_
        refine RN_if_ge (pc := 25) (off := 10) (tgt := 35) (by decide +kernel) (by decide) (fun c32 => ?_) (fun c32 => ?_)
        · replace h := it_t c32 h
          refine RN_aload_n (pc := 35) (k := 0) (by decide +kernel) rfl rfl ?_
          obtain ⟨c33, h⟩ := ck_el h
          obtain ⟨c34, h⟩ := ck_el h
          refine RN_getR (pc := 36) (idx := 73) (ci := 11) (k := 33) (by decide +kernel) lf_RX12_73 rfl c33 c34 ?_
          obtain ⟨r35, er35, h⟩ := nm_el h
          refine RN_nmR er35 ?_
          refine RN_iload_n (pc := 39) (k := 1) (by decide +kernel) rfl rfl ?_
          refine RN_iload_n (pc := 40) (k := 2) (by decide +kernel) rfl rfl ?_
          obtain ⟨c36, h⟩ := ck_el h
          refine RN_iast (pc := 41) (by decide +kernel) c36 ?_
          obtain ⟨σ37, eσ37, h⟩ := nm_el h
          refine RN_nmS eσ37 ?_
          refine RN_aload_n (pc := 42) (k := 0) (by decide +kernel) rfl rfl ?_
          obtain ⟨c38, h⟩ := ck_el h
          obtain ⟨c39, h⟩ := ck_el h
          refine RN_getR (pc := 43) (idx := 76) (ci := 11) (k := 34) (by decide +kernel) lf_RX12_76 rfl c38 c39 ?_
          obtain ⟨r40, er40, h⟩ := nm_el h
          refine RN_nmR er40 ?_
          refine RN_iload_n (pc := 46) (k := 1) (by decide +kernel) rfl rfl ?_
          refine RN_iload_n (pc := 47) (k := 3) (by decide +kernel) rfl rfl ?_
          obtain ⟨c41, h⟩ := ck_el h
          refine RN_iast (pc := 48) (by decide +kernel) c41 ?_
          obtain ⟨σ42, eσ42, h⟩ := nm_el h
          refine RN_nmS eσ42 ?_
          refine RN_iconst (pc := 49) (n := 0) (v := 0) (by decide +kernel) (by decide) ?_
          refine RN_istore (pc := 50) (i := 4) (ls2 := [some (.ref v0), some (.int v1), some (.int v2), some (.int v3), some (.int (0 : Int32))]) (by decide +kernel) (by decide) rfl ?_
          exact RN_weak (l := [some (.ref v0), some (.int v1), none, some (.int v3), some (.int (0 : Int32))]) (And.intro rfl (And.intro rfl (And.intro rfl (And.intro rfl trivial)))) (tb_X12_tape_52 v0 v1 v3 n (0 : Int32) σ42 h)
        · replace h := it_f c32 h
          refine RN_aload_n (pc := 28) (k := 0) (by decide +kernel) rfl rfl ?_
          refine RN_bipush (pc := 29) (n := -14) (v := -14) (by decide +kernel) (by decide) ?_
          obtain ⟨c50, h⟩ := ck_el h
          obtain ⟨x53, σ52, f51, h⟩ := bd_el h
          refine RN_callV (M := M_X12_tape) (pc := 31) (idx := 380) (as := [.int (-14 : Int32)]) (st := []) (t_X12_refuse f51) (by decide +kernel) lk_RX12_380 rfl ⟨by decide, fun q hq => by cases hq; rfl⟩ c50 (Nat.le_of_ble_eq_true rfl) ⟨Nat.le_of_ble_eq_true rfl, Nat.le_of_ble_eq_true rfl⟩ rfl ?_
          show RN G M_X12_tape 34 [some (.ref v0), some (.int v1), some (.int v2), some (.int v3)] [.int x53] σ52 _ _
          obtain ⟨rfl, rfl⟩ := some_el2 h
          exact RN_ireturn (by decide +kernel) rfl
      · replace h := it_f c31 h
        refine RN_iconst (pc := 22) (n := -1) (v := -1) (by decide +kernel) (by decide) ?_
        obtain ⟨rfl, rfl⟩ := some_el2 h
        exact RN_ireturn (by decide +kernel) rfl
def b_X12_image_69 : Nat → Nat → Int32 → Int32 → Sg → Option (Int32 × Sg)
  | 0, _, _, _, _ => none
  | n + 1, v0, v1, v2, σ =>
  ck (okO σ v0 11) <|
  if (gI σ v0 7) ≤ v2 then (
    some (gI σ v0 7, σ))
  else (
    ck (¬ gR σ v0 39 = 0) <|
    nm (gR σ v0 39) fun r68 =>
    ck (¬ gR σ v0 24 = 0) <|
    nm (gR σ v0 24) fun r70 =>
    ck (okA σ r70 14 v2) <|
    ck (okW σ r68 14 (((4 : Int32) * v1) + v2)) <|
    nm (pJ σ r68 (((4 : Int32) * v1) + v2).toNatClampNeg (gJ σ r70 v2.toNatClampNeg)) fun σ73 =>
    ck (okO σ73 v0 11) <|
    ck (¬ gR σ73 v0 40 = 0) <|
    nm (gR σ73 v0 40) fun r76 =>
    ck (¬ gR σ73 v0 25 = 0) <|
    nm (gR σ73 v0 25) fun r78 =>
    ck (okA σ73 r78 14 v2) <|
    ck (okW σ73 r76 14 (((4 : Int32) * v1) + v2)) <|
    nm (pJ σ73 r76 (((4 : Int32) * v1) + v2).toNatClampNeg (gJ σ73 r78 v2.toNatClampNeg)) fun σ81 =>
    nm (v2 + (1 : Int32)) fun x82 =>
    b_X12_image_69 n v0 v1 x82 σ81)
set_option maxRecDepth 20000 in
theorem tb_X12_image_69 {G : Gl} {xr : Int32} {σr : Sg} (v0 : Nat) (v1 : Int32) : ∀ (n : Nat) (v2 : Int32) (σ : Sg), b_X12_image_69 n v0 v1 v2 σ = some (xr, σr) → RN G M_X12_image 69 [some (.ref v0), some (.int v1), some (.int v2)] [] σ (.inl (some (.int xr))) σr := by
  intro n
  induction n with
  | zero =>
    intro v2 σ h
    exact none_el h
  | succ n ih =>
    intro v2 σ h
    rw [b_X12_image_69] at h
    refine RN_iload_n (pc := 69) (k := 2) (by decide +kernel) rfl rfl ?_
    refine RN_aload_n (pc := 70) (k := 0) (by decide +kernel) rfl rfl ?_
    obtain ⟨c65, h⟩ := ck_el h
    refine RN_getI (pc := 71) (idx := 140) (ci := 11) (k := 7) (by decide +kernel) lf_RX12_140 (Or.inl rfl) c65 ?_
    refine RN_icmp_ge (pc := 74) (off := 41) (tgt := 115) (by decide +kernel) (by decide) (fun c66 => ?_) (fun c66 => ?_)
    · replace h := it_t c66 h
      refine RN_aload_n (pc := 115) (k := 0) (by decide +kernel) rfl rfl ?_
      refine RN_getI (pc := 116) (idx := 140) (ci := 11) (k := 7) (by decide +kernel) lf_RX12_140 (Or.inl rfl) c65 ?_
      obtain ⟨rfl, rfl⟩ := some_el2 h
      exact RN_ireturn (by decide +kernel) rfl
    · replace h := it_f c66 h
      refine RN_aload_n (pc := 77) (k := 0) (by decide +kernel) rfl rfl ?_
      obtain ⟨c67, h⟩ := ck_el h
      refine RN_getR (pc := 78) (idx := 91) (ci := 11) (k := 39) (by decide +kernel) lf_RX12_91 rfl c65 c67 ?_
      obtain ⟨r68, er68, h⟩ := nm_el h
      refine RN_nmR er68 ?_
      refine RN_iconst (pc := 81) (n := 4) (v := 4) (by decide +kernel) (by decide) ?_
      refine RN_iload_n (pc := 82) (k := 1) (by decide +kernel) rfl rfl ?_
      refine RN_imul (pc := 83) (by decide +kernel) ?_
      refine RN_iload_n (pc := 84) (k := 2) (by decide +kernel) rfl rfl ?_
      refine RN_iadd (pc := 85) (by decide +kernel) ?_
      refine RN_aload_n (pc := 86) (k := 0) (by decide +kernel) rfl rfl ?_
      obtain ⟨c69, h⟩ := ck_el h
      refine RN_getR (pc := 87) (idx := 63) (ci := 11) (k := 24) (by decide +kernel) lf_RX12_63 rfl c65 c69 ?_
      obtain ⟨r70, er70, h⟩ := nm_el h
      refine RN_nmR er70 ?_
      refine RN_iload_n (pc := 90) (k := 2) (by decide +kernel) rfl rfl ?_
      obtain ⟨c71, h⟩ := ck_el h
      refine RN_lald (pc := 91) (by decide +kernel) c71 ?_
      obtain ⟨c72, h⟩ := ck_el h
      refine RN_last (pc := 92) (by decide +kernel) c72 ?_
      obtain ⟨σ73, eσ73, h⟩ := nm_el h
      refine RN_nmS eσ73 ?_
      refine RN_aload_n (pc := 93) (k := 0) (by decide +kernel) rfl rfl ?_
      obtain ⟨c74, h⟩ := ck_el h
      obtain ⟨c75, h⟩ := ck_el h
      refine RN_getR (pc := 94) (idx := 94) (ci := 11) (k := 40) (by decide +kernel) lf_RX12_94 rfl c74 c75 ?_
      obtain ⟨r76, er76, h⟩ := nm_el h
      refine RN_nmR er76 ?_
      refine RN_iconst (pc := 97) (n := 4) (v := 4) (by decide +kernel) (by decide) ?_
      refine RN_iload_n (pc := 98) (k := 1) (by decide +kernel) rfl rfl ?_
      refine RN_imul (pc := 99) (by decide +kernel) ?_
      refine RN_iload_n (pc := 100) (k := 2) (by decide +kernel) rfl rfl ?_
      refine RN_iadd (pc := 101) (by decide +kernel) ?_
      refine RN_aload_n (pc := 102) (k := 0) (by decide +kernel) rfl rfl ?_
      obtain ⟨c77, h⟩ := ck_el h
      refine RN_getR (pc := 103) (idx := 66) (ci := 11) (k := 25) (by decide +kernel) lf_RX12_66 rfl c74 c77 ?_
      obtain ⟨r78, er78, h⟩ := nm_el h
      refine RN_nmR er78 ?_
      refine RN_iload_n (pc := 106) (k := 2) (by decide +kernel) rfl rfl ?_
      obtain ⟨c79, h⟩ := ck_el h
      refine RN_lald (pc := 107) (by decide +kernel) c79 ?_
      obtain ⟨c80, h⟩ := ck_el h
      refine RN_last (pc := 108) (by decide +kernel) c80 ?_
      obtain ⟨σ81, eσ81, h⟩ := nm_el h
      refine RN_nmS eσ81 ?_
      obtain ⟨x82, ex82, h⟩ := nm_el h
      refine RN_iinc (pc := 109) (i := 2) (n := 1) (v := x82) (ls2 := [some (.ref v0), some (.int v1), some (.int x82)]) (by decide +kernel) rfl (by rw [ex82]; rfl) (by decide) rfl ?_
      refine RN_goto (pc := 112) (off := -43) (tgt := 69) (by decide +kernel) (by decide) ?_
      exact RN_weak (l := [some (.ref v0), some (.int v1), some (.int x82)]) (And.intro rfl (And.intro rfl (And.intro rfl trivial))) (ih x82 σ81 h)
def b_X12_image_67 (n : Nat) (v0 : Nat) (v1 : Int32) (σ : Sg) : Option (Int32 × Sg) :=
  b_X12_image_69 n v0 v1 (0 : Int32) σ
set_option maxRecDepth 20000 in
theorem tb_X12_image_67 {G : Gl} {xr : Int32} {σr : Sg} (n : Nat) (v0 : Nat) (v1 : Int32) (σ : Sg) (h : b_X12_image_67 n v0 v1 σ = some (xr, σr)) : RN G M_X12_image 67 [some (.ref v0), some (.int v1)] [] σ (.inl (some (.int xr))) σr := by
  unfold b_X12_image_67 at h
  refine RN_iconst (pc := 67) (n := 0) (v := 0) (by decide +kernel) (by decide) ?_
  refine RN_istore_n (pc := 68) (k := 2) (ls2 := [some (.ref v0), some (.int v1), some (.int (0 : Int32))]) (by decide +kernel) rfl (by decide) rfl ?_
  exact RN_weak (l := [some (.ref v0), some (.int v1), some (.int (0 : Int32))]) (And.intro rfl (And.intro rfl (And.intro rfl trivial))) (tb_X12_image_69 v0 v1 n (0 : Int32) σ h)
def b_X12_image_38 : Nat → Nat → Int32 → Int32 → Sg → Option (Int32 × Sg)
  | 0, _, _, _, _ => none
  | n + 1, v0, v1, v2, σ =>
  if (8 : Int32) ≤ v2 then (
    b_X12_image_67 n v0 v1 σ)
  else (
    ck (okO σ v0 11) <|
    ck (¬ gR σ v0 38 = 0) <|
    nm (gR σ v0 38) fun r85 =>
    ck (¬ gR σ v0 23 = 0) <|
    nm (gR σ v0 23) fun r87 =>
    ck (okA σ r87 14 v2) <|
    ck (okW σ r85 14 (((8 : Int32) * v1) + v2)) <|
    nm (pJ σ r85 (((8 : Int32) * v1) + v2).toNatClampNeg (gJ σ r87 v2.toNatClampNeg)) fun σ90 =>
    nm (v2 + (1 : Int32)) fun x91 =>
    b_X12_image_38 n v0 v1 x91 σ90)
set_option maxRecDepth 20000 in
theorem tb_X12_image_38 {G : Gl} {xr : Int32} {σr : Sg} (v0 : Nat) (v1 : Int32) : ∀ (n : Nat) (v2 : Int32) (σ : Sg), b_X12_image_38 n v0 v1 v2 σ = some (xr, σr) → RN G M_X12_image 38 [some (.ref v0), some (.int v1), some (.int v2)] [] σ (.inl (some (.int xr))) σr := by
  intro n
  induction n with
  | zero =>
    intro v2 σ h
    exact none_el h
  | succ n ih =>
    intro v2 σ h
    rw [b_X12_image_38] at h
    refine RN_iload_n (pc := 38) (k := 2) (by decide +kernel) rfl rfl ?_
    refine RN_bipush (pc := 39) (n := 8) (v := 8) (by decide +kernel) (by decide) ?_
    refine RN_icmp_ge (pc := 41) (off := 26) (tgt := 67) (by decide +kernel) (by decide) (fun c64 => ?_) (fun c64 => ?_)
    · replace h := it_t c64 h
      exact RN_weak (l := [some (.ref v0), some (.int v1)]) (And.intro rfl (And.intro rfl trivial)) (tb_X12_image_67 n v0 v1 σ h)
    · replace h := it_f c64 h
      refine RN_aload_n (pc := 44) (k := 0) (by decide +kernel) rfl rfl ?_
      obtain ⟨c83, h⟩ := ck_el h
      obtain ⟨c84, h⟩ := ck_el h
      refine RN_getR (pc := 45) (idx := 88) (ci := 11) (k := 38) (by decide +kernel) lf_RX12_88 rfl c83 c84 ?_
      obtain ⟨r85, er85, h⟩ := nm_el h
      refine RN_nmR er85 ?_
      refine RN_bipush (pc := 48) (n := 8) (v := 8) (by decide +kernel) (by decide) ?_
      refine RN_iload_n (pc := 50) (k := 1) (by decide +kernel) rfl rfl ?_
      refine RN_imul (pc := 51) (by decide +kernel) ?_
      refine RN_iload_n (pc := 52) (k := 2) (by decide +kernel) rfl rfl ?_
      refine RN_iadd (pc := 53) (by decide +kernel) ?_
      refine RN_aload_n (pc := 54) (k := 0) (by decide +kernel) rfl rfl ?_
      obtain ⟨c86, h⟩ := ck_el h
      refine RN_getR (pc := 55) (idx := 60) (ci := 11) (k := 23) (by decide +kernel) lf_RX12_60 rfl c83 c86 ?_
      obtain ⟨r87, er87, h⟩ := nm_el h
      refine RN_nmR er87 ?_
      refine RN_iload_n (pc := 58) (k := 2) (by decide +kernel) rfl rfl ?_
      obtain ⟨c88, h⟩ := ck_el h
      refine RN_lald (pc := 59) (by decide +kernel) c88 ?_
      obtain ⟨c89, h⟩ := ck_el h
      refine RN_last (pc := 60) (by decide +kernel) c89 ?_
      obtain ⟨σ90, eσ90, h⟩ := nm_el h
      refine RN_nmS eσ90 ?_
      obtain ⟨x91, ex91, h⟩ := nm_el h
      refine RN_iinc (pc := 61) (i := 2) (n := 1) (v := x91) (ls2 := [some (.ref v0), some (.int v1), some (.int x91)]) (by decide +kernel) rfl (by rw [ex91]; rfl) (by decide) rfl ?_
      refine RN_goto (pc := 64) (off := -26) (tgt := 38) (by decide +kernel) (by decide) ?_
      exact RN_weak (l := [some (.ref v0), some (.int v1), some (.int x91)]) (And.intro rfl (And.intro rfl (And.intro rfl trivial))) (ih x91 σ90 h)
def f_X12_image (n : Nat) (v0 : Nat) (v1 : Int32) (σ : Sg) : Option (Int32 × Sg) :=
  bp (f_X12_isTape v1) fun x47 =>
  if x47 = 0 then (
    some ((-1 : Int32), σ))
  else (
    ck (okO σ v0 11) <|
    ck (¬ gR σ v0 33 = 0) <|
    nm (gR σ v0 33) fun r51 =>
    ck (okW σ r51 13 v1) <|
    nm (pI σ r51 v1.toNatClampNeg (5 : Int32)) fun σ53 =>
    ck (okO σ53 v0 11) <|
    ck (¬ gR σ53 v0 36 = 0) <|
    nm (gR σ53 v0 36) fun r56 =>
    ck (okW σ53 r56 13 v1) <|
    nm (pI σ53 r56 v1.toNatClampNeg (gI σ53 v0 7)) fun σ58 =>
    ck (okO σ58 v0 11) <|
    ck (¬ gR σ58 v0 37 = 0) <|
    nm (gR σ58 v0 37) fun r61 =>
    ck (okW σ58 r61 13 v1) <|
    nm (pI σ58 r61 v1.toNatClampNeg (gI σ58 v0 13)) fun σ63 =>
    b_X12_image_38 n v0 v1 (0 : Int32) σ63)
set_option maxRecDepth 20000 in
theorem t_X12_image {G : Gl} {xr : Int32} {σr : Sg} {n : Nat} {v0 : Nat} {v1 : Int32} {σ : Sg} (h : f_X12_image n v0 v1 σ = some (xr, σr)) : MT G M_X12_image [.ref v0, .int v1] σ (some (.int xr)) σr := by
  refine MT_of rfl rfl (Nat.le_of_ble_eq_true rfl) ?_
  show RN G M_X12_image 0 [some (.ref v0), some (.int v1)] [] σ (.inl (some (.int xr))) σr
  unfold f_X12_image at h
  refine RN_iload_n (pc := 0) (k := 1) (by decide +kernel) rfl rfl ?_
  obtain ⟨x47, f46, h⟩ := bp_el h
  refine RN_callS (M := M_X12_image) (pc := 1) (idx := 377) (as := [.int v1]) (st := []) (t_X12_isTape f46) (by decide +kernel) lk_RX12_377 rfl (Nat.le_of_ble_eq_true rfl) ⟨Nat.le_of_ble_eq_true rfl, Nat.le_of_ble_eq_true rfl⟩ rfl ?_
  show RN G M_X12_image 4 [some (.ref v0), some (.int v1)] [.int x47] σ _ _
  refine RN_if_ne (pc := 4) (off := 5) (tgt := 9) (by decide +kernel) (by decide) (fun c48 => ?_) (fun c48 => ?_)
  · replace h := it_f c48 h
    refine RN_aload_n (pc := 9) (k := 0) (by decide +kernel) rfl rfl ?_
    obtain ⟨c49, h⟩ := ck_el h
    obtain ⟨c50, h⟩ := ck_el h
    refine RN_getR (pc := 10) (idx := 73) (ci := 11) (k := 33) (by decide +kernel) lf_RX12_73 rfl c49 c50 ?_
    obtain ⟨r51, er51, h⟩ := nm_el h
    refine RN_nmR er51 ?_
    refine RN_iload_n (pc := 13) (k := 1) (by decide +kernel) rfl rfl ?_
    refine RN_iconst (pc := 14) (n := 5) (v := 5) (by decide +kernel) (by decide) ?_
    obtain ⟨c52, h⟩ := ck_el h
    refine RN_iast (pc := 15) (by decide +kernel) c52 ?_
    obtain ⟨σ53, eσ53, h⟩ := nm_el h
    refine RN_nmS eσ53 ?_
    refine RN_aload_n (pc := 16) (k := 0) (by decide +kernel) rfl rfl ?_
    obtain ⟨c54, h⟩ := ck_el h
    obtain ⟨c55, h⟩ := ck_el h
    refine RN_getR (pc := 17) (idx := 82) (ci := 11) (k := 36) (by decide +kernel) lf_RX12_82 rfl c54 c55 ?_
    obtain ⟨r56, er56, h⟩ := nm_el h
    refine RN_nmR er56 ?_
    refine RN_iload_n (pc := 20) (k := 1) (by decide +kernel) rfl rfl ?_
    refine RN_aload_n (pc := 21) (k := 0) (by decide +kernel) rfl rfl ?_
    refine RN_getI (pc := 22) (idx := 140) (ci := 11) (k := 7) (by decide +kernel) lf_RX12_140 (Or.inl rfl) c54 ?_
    obtain ⟨c57, h⟩ := ck_el h
    refine RN_iast (pc := 25) (by decide +kernel) c57 ?_
    obtain ⟨σ58, eσ58, h⟩ := nm_el h
    refine RN_nmS eσ58 ?_
    refine RN_aload_n (pc := 26) (k := 0) (by decide +kernel) rfl rfl ?_
    obtain ⟨c59, h⟩ := ck_el h
    obtain ⟨c60, h⟩ := ck_el h
    refine RN_getR (pc := 27) (idx := 85) (ci := 11) (k := 37) (by decide +kernel) lf_RX12_85 rfl c59 c60 ?_
    obtain ⟨r61, er61, h⟩ := nm_el h
    refine RN_nmR er61 ?_
    refine RN_iload_n (pc := 30) (k := 1) (by decide +kernel) rfl rfl ?_
    refine RN_aload_n (pc := 31) (k := 0) (by decide +kernel) rfl rfl ?_
    refine RN_getI (pc := 32) (idx := 143) (ci := 11) (k := 13) (by decide +kernel) lf_RX12_143 (Or.inl rfl) c59 ?_
    obtain ⟨c62, h⟩ := ck_el h
    refine RN_iast (pc := 35) (by decide +kernel) c62 ?_
    obtain ⟨σ63, eσ63, h⟩ := nm_el h
    refine RN_nmS eσ63 ?_
    refine RN_iconst (pc := 36) (n := 0) (v := 0) (by decide +kernel) (by decide) ?_
    refine RN_istore_n (pc := 37) (k := 2) (ls2 := [some (.ref v0), some (.int v1), some (.int (0 : Int32))]) (by decide +kernel) rfl (by decide) rfl ?_
    exact RN_weak (l := [some (.ref v0), some (.int v1), some (.int (0 : Int32))]) (And.intro rfl (And.intro rfl (And.intro rfl trivial))) (tb_X12_image_38 v0 v1 n (0 : Int32) σ63 h)
  · replace h := it_t c48 h
    refine RN_iconst (pc := 7) (n := -1) (v := -1) (by decide +kernel) (by decide) ?_
    obtain ⟨rfl, rfl⟩ := some_el2 h
    exact RN_ireturn (by decide +kernel) rfl
def f_X12_lacks (v0 : Nat) (v1 : Int32) (σ : Sg) : Option (Int32 × Sg) :=
  bp (f_X12_isTape v1) fun x20 =>
  if x20 = 0 then (
    some ((-1 : Int32), σ))
  else (
    ck (okO σ v0 11) <|
    ck (¬ gR σ v0 33 = 0) <|
    nm (gR σ v0 33) fun r24 =>
    ck (okA σ r24 13 v1) <|
    if (gI σ r24 v1.toNatClampNeg) = 0 then (
      bd (f_X12_refuse v0 (-11 : Int32) σ) fun x35 σ34 =>
      some (x35, σ34))
    else (
      nm (gR σ v0 33) fun r27 =>
      ck (okA σ r27 13 v1) <|
      if (gI σ r27 v1.toNatClampNeg) = (5 : Int32) then (
        some ((0 : Int32), σ))
      else (
        bd (f_X12_refuse v0 (-12 : Int32) σ) fun x32 σ31 =>
        some (x32, σ31))))
set_option maxRecDepth 20000 in
theorem t_X12_lacks {G : Gl} {xr : Int32} {σr : Sg} {v0 : Nat} {v1 : Int32} {σ : Sg} (h : f_X12_lacks v0 v1 σ = some (xr, σr)) : MT G M_X12_lacks [.ref v0, .int v1] σ (some (.int xr)) σr := by
  refine MT_of rfl rfl (Nat.le_of_ble_eq_true rfl) ?_
  show RN G M_X12_lacks 0 [some (.ref v0), some (.int v1)] [] σ (.inl (some (.int xr))) σr
  unfold f_X12_lacks at h
  refine RN_iload_n (pc := 0) (k := 1) (by decide +kernel) rfl rfl ?_
  obtain ⟨x20, f19, h⟩ := bp_el h
  refine RN_callS (M := M_X12_lacks) (pc := 1) (idx := 377) (as := [.int v1]) (st := []) (t_X12_isTape f19) (by decide +kernel) lk_RX12_377 rfl (Nat.le_of_ble_eq_true rfl) ⟨Nat.le_of_ble_eq_true rfl, Nat.le_of_ble_eq_true rfl⟩ rfl ?_
  show RN G M_X12_lacks 4 [some (.ref v0), some (.int v1)] [.int x20] σ _ _
  refine RN_if_ne (pc := 4) (off := 7) (tgt := 11) (by decide +kernel) (by decide) (fun c21 => ?_) (fun c21 => ?_)
  · replace h := it_f c21 h
    refine RN_aload_n (pc := 11) (k := 0) (by decide +kernel) rfl rfl ?_
    obtain ⟨c22, h⟩ := ck_el h
    obtain ⟨c23, h⟩ := ck_el h
    refine RN_getR (pc := 12) (idx := 73) (ci := 11) (k := 33) (by decide +kernel) lf_RX12_73 rfl c22 c23 ?_
    obtain ⟨r24, er24, h⟩ := nm_el h
    refine RN_nmR er24 ?_
    refine RN_iload_n (pc := 15) (k := 1) (by decide +kernel) rfl rfl ?_
    obtain ⟨c25, h⟩ := ck_el h
    refine RN_iald (pc := 16) (by decide +kernel) c25 ?_
    refine RN_if_ne (pc := 17) (off := 12) (tgt := 29) (by decide +kernel) (by decide) (fun c26 => ?_) (fun c26 => ?_)
    · replace h := it_f c26 h
      refine RN_aload_n (pc := 29) (k := 0) (by decide +kernel) rfl rfl ?_
      refine RN_getR (pc := 30) (idx := 73) (ci := 11) (k := 33) (by decide +kernel) lf_RX12_73 rfl c22 c23 ?_
      obtain ⟨r27, er27, h⟩ := nm_el h
      refine RN_nmR er27 ?_
      refine RN_iload_n (pc := 33) (k := 1) (by decide +kernel) rfl rfl ?_
      obtain ⟨c28, h⟩ := ck_el h
      refine RN_iald (pc := 34) (by decide +kernel) c28 ?_
      refine RN_iconst (pc := 35) (n := 5) (v := 5) (by decide +kernel) (by decide) ?_
      refine RN_icmp_eq (pc := 36) (off := 12) (tgt := 48) (by decide +kernel) (by decide) (fun c29 => ?_) (fun c29 => ?_)
      · replace h := it_t c29 h
        refine RN_iconst (pc := 48) (n := 0) (v := 0) (by decide +kernel) (by decide) ?_
        obtain ⟨rfl, rfl⟩ := some_el2 h
        exact RN_ireturn (by decide +kernel) rfl
      · replace h := it_f c29 h
        refine RN_aload_n (pc := 39) (k := 0) (by decide +kernel) rfl rfl ?_
        refine RN_bipush (pc := 40) (n := -12) (v := -12) (by decide +kernel) (by decide) ?_
        obtain ⟨x32, σ31, f30, h⟩ := bd_el h
        refine RN_callV (M := M_X12_lacks) (pc := 42) (idx := 380) (as := [.int (-12 : Int32)]) (st := []) (t_X12_refuse f30) (by decide +kernel) lk_RX12_380 rfl ⟨by decide, fun q hq => by cases hq; rfl⟩ c22 (Nat.le_of_ble_eq_true rfl) ⟨Nat.le_of_ble_eq_true rfl, Nat.le_of_ble_eq_true rfl⟩ rfl ?_
        show RN G M_X12_lacks 45 [some (.ref v0), some (.int v1)] [.int x32] σ31 _ _
        refine RN_goto (pc := 45) (off := 4) (tgt := 49) (by decide +kernel) (by decide) ?_
        obtain ⟨rfl, rfl⟩ := some_el2 h
        exact RN_ireturn (by decide +kernel) rfl
    · replace h := it_t c26 h
      refine RN_aload_n (pc := 20) (k := 0) (by decide +kernel) rfl rfl ?_
      refine RN_bipush (pc := 21) (n := -11) (v := -11) (by decide +kernel) (by decide) ?_
      obtain ⟨x35, σ34, f33, h⟩ := bd_el h
      refine RN_callV (M := M_X12_lacks) (pc := 23) (idx := 380) (as := [.int (-11 : Int32)]) (st := []) (t_X12_refuse f33) (by decide +kernel) lk_RX12_380 rfl ⟨by decide, fun q hq => by cases hq; rfl⟩ c22 (Nat.le_of_ble_eq_true rfl) ⟨Nat.le_of_ble_eq_true rfl, Nat.le_of_ble_eq_true rfl⟩ rfl ?_
      show RN G M_X12_lacks 26 [some (.ref v0), some (.int v1)] [.int x35] σ34 _ _
      refine RN_goto (pc := 26) (off := 23) (tgt := 49) (by decide +kernel) (by decide) ?_
      obtain ⟨rfl, rfl⟩ := some_el2 h
      exact RN_ireturn (by decide +kernel) rfl
  · replace h := it_t c21 h
    refine RN_iconst (pc := 7) (n := -1) (v := -1) (by decide +kernel) (by decide) ?_
    refine RN_goto (pc := 8) (off := 41) (tgt := 49) (by decide +kernel) (by decide) ?_
    obtain ⟨rfl, rfl⟩ := some_el2 h
    exact RN_ireturn (by decide +kernel) rfl
