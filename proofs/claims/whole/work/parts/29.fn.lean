def f_X11_same (n : Nat) (v0 : Nat) (v1 : Int32) (v2 : Int32) (σ : Sg) : Option Int32 :=
  ck (okO σ v0 10) <|
  bp (f_X11_isProgram v0 v1 σ) fun x22 =>
  if x22 = 0 then (
    some (-1 : Int32))
  else (
    bp (f_X11_isProgram v0 v2 σ) fun x25 =>
    if x25 = 0 then (
      some (-1 : Int32))
    else (
      ck (¬ gR σ v0 3 = 0) <|
      nm (gR σ v0 3) fun r28 =>
      ck (okA σ r28 16 v1) <|
      ck (¬ gR σ r28 v1.toNatClampNeg = 0) <|
      nm (gR σ r28 v1.toNatClampNeg) fun r31 =>
      nm (gR σ v0 3) fun r32 =>
      ck (okA σ r32 16 v2) <|
      ck (¬ gR σ r32 v2.toNatClampNeg = 0) <|
      nm (gR σ r32 v2.toNatClampNeg) fun r35 =>
      ck (okO σ r31 5) <|
      bp (f_X6_hasActsOf n r31 r35 σ) fun x38 =>
      if x38 = 0 then (
        some (0 : Int32))
      else (
        some (1 : Int32))))
set_option maxRecDepth 20000 in
theorem t_X11_same {G : Gl} {xr : Int32} {n : Nat} {v0 : Nat} {v1 : Int32} {v2 : Int32} {σ : Sg} (h : f_X11_same n v0 v1 v2 σ = some xr) : MT G M_X11_same [.ref v0, .int v1, .int v2] σ (some (.int xr)) σ := by
  refine MT_of rfl rfl (Nat.le_of_ble_eq_true rfl) ?_
  show RN G M_X11_same 0 [some (.ref v0), some (.int v1), some (.int v2)] [] σ (.inl (some (.int xr))) σ
  unfold f_X11_same at h
  refine RN_aload_n (pc := 0) (k := 0) (by decide +kernel) rfl rfl ?_
  refine RN_iload_n (pc := 1) (k := 1) (by decide +kernel) rfl rfl ?_
  obtain ⟨c20, h⟩ := ck_el h
  obtain ⟨x22, f21, h⟩ := bp_el h
  refine RN_callV (M := M_X11_same) (pc := 2) (idx := 108) (as := [.int v1]) (st := []) (t_X11_isProgram f21) (by decide +kernel) lk_RX11_108 rfl ⟨by decide, fun q hq => by cases hq; rfl⟩ c20 (Nat.le_of_ble_eq_true rfl) ⟨Nat.le_of_ble_eq_true rfl, Nat.le_of_ble_eq_true rfl⟩ rfl ?_
  show RN G M_X11_same 5 [some (.ref v0), some (.int v1), some (.int v2)] [.int x22] σ _ _
  refine RN_if_eq (pc := 5) (off := 11) (tgt := 16) (by decide +kernel) (by decide) (fun c23 => ?_) (fun c23 => ?_)
  · replace h := it_t c23 h
    refine RN_iconst (pc := 16) (n := -1) (v := -1) (by decide +kernel) (by decide) ?_
    obtain rfl := some_el h
    exact RN_ireturn (by decide +kernel) rfl
  · replace h := it_f c23 h
    refine RN_aload_n (pc := 8) (k := 0) (by decide +kernel) rfl rfl ?_
    refine RN_iload_n (pc := 9) (k := 2) (by decide +kernel) rfl rfl ?_
    obtain ⟨x25, f24, h⟩ := bp_el h
    refine RN_callV (M := M_X11_same) (pc := 10) (idx := 108) (as := [.int v2]) (st := []) (t_X11_isProgram f24) (by decide +kernel) lk_RX11_108 rfl ⟨by decide, fun q hq => by cases hq; rfl⟩ c20 (Nat.le_of_ble_eq_true rfl) ⟨Nat.le_of_ble_eq_true rfl, Nat.le_of_ble_eq_true rfl⟩ rfl ?_
    show RN G M_X11_same 13 [some (.ref v0), some (.int v1), some (.int v2)] [.int x25] σ _ _
    refine RN_if_ne (pc := 13) (off := 5) (tgt := 18) (by decide +kernel) (by decide) (fun c26 => ?_) (fun c26 => ?_)
    · replace h := it_f c26 h
      refine RN_aload_n (pc := 18) (k := 0) (by decide +kernel) rfl rfl ?_
      obtain ⟨c27, h⟩ := ck_el h
      refine RN_getR (pc := 19) (idx := 32) (ci := 10) (k := 3) (by decide +kernel) lf_RX11_32 rfl c20 c27 ?_
      obtain ⟨r28, er28, h⟩ := nm_el h
      refine RN_nmR er28 ?_
      refine RN_iload_n (pc := 22) (k := 1) (by decide +kernel) rfl rfl ?_
      obtain ⟨c29, h⟩ := ck_el h
      obtain ⟨c30, h⟩ := ck_el h
      refine RN_aald16 (pc := 23) (by decide +kernel) c29 c30 ?_
      obtain ⟨r31, er31, h⟩ := nm_el h
      refine RN_nmR er31 ?_
      refine RN_aload_n (pc := 24) (k := 0) (by decide +kernel) rfl rfl ?_
      refine RN_getR (pc := 25) (idx := 32) (ci := 10) (k := 3) (by decide +kernel) lf_RX11_32 rfl c20 c27 ?_
      obtain ⟨r32, er32, h⟩ := nm_el h
      refine RN_nmR er32 ?_
      refine RN_iload_n (pc := 28) (k := 2) (by decide +kernel) rfl rfl ?_
      obtain ⟨c33, h⟩ := ck_el h
      obtain ⟨c34, h⟩ := ck_el h
      refine RN_aald16 (pc := 29) (by decide +kernel) c33 c34 ?_
      obtain ⟨r35, er35, h⟩ := nm_el h
      refine RN_nmR er35 ?_
      obtain ⟨c36, h⟩ := ck_el h
      obtain ⟨x38, f37, h⟩ := bp_el h
      refine RN_callV (M := M_X11_same) (pc := 30) (idx := 234) (as := [.ref r35]) (st := []) (t_X6_hasActsOf f37) (by decide +kernel) lk_RX11_234 rfl ⟨by decide, fun q hq => by cases hq; rfl⟩ c36 (Nat.le_of_ble_eq_true rfl) ⟨Nat.le_of_ble_eq_true rfl, Nat.le_of_ble_eq_true rfl⟩ rfl ?_
      show RN G M_X11_same 33 [some (.ref v0), some (.int v1), some (.int v2)] [.int x38] σ _ _
      refine RN_if_eq (pc := 33) (off := 7) (tgt := 40) (by decide +kernel) (by decide) (fun c39 => ?_) (fun c39 => ?_)
      · replace h := it_t c39 h
        refine RN_iconst (pc := 40) (n := 0) (v := 0) (by decide +kernel) (by decide) ?_
        obtain rfl := some_el h
        exact RN_ireturn (by decide +kernel) rfl
      · replace h := it_f c39 h
        refine RN_iconst (pc := 36) (n := 1) (v := 1) (by decide +kernel) (by decide) ?_
        refine RN_goto (pc := 37) (off := 4) (tgt := 41) (by decide +kernel) (by decide) ?_
        obtain rfl := some_el h
        exact RN_ireturn (by decide +kernel) rfl
    · replace h := it_t c26 h
      refine RN_iconst (pc := 16) (n := -1) (v := -1) (by decide +kernel) (by decide) ?_
      obtain rfl := some_el h
      exact RN_ireturn (by decide +kernel) rfl
def b_X11_isTape_14 : Option Int32 :=
  some (0 : Int32)
set_option maxRecDepth 20000 in
theorem tb_X11_isTape_14 {G : Gl} {xr : Int32} {σ : Sg} (h : b_X11_isTape_14 = some xr) : RN G M_X11_isTape 14 [] [] σ (.inl (some (.int xr))) σ := by
  unfold b_X11_isTape_14 at h
  refine RN_iconst (pc := 14) (n := 0) (v := 0) (by decide +kernel) (by decide) ?_
  obtain rfl := some_el h
  exact RN_zreturn (by decide +kernel) rfl (Or.inl rfl)
def f_X11_isTape (v0 : Int32) : Option Int32 :=
  if v0 < 0 then (
    b_X11_isTape_14)
  else (
    if (6 : Int32) ≤ v0 then (
      b_X11_isTape_14)
    else (
      some (1 : Int32)))
set_option maxRecDepth 20000 in
theorem t_X11_isTape {G : Gl} {xr : Int32} {v0 : Int32} {σ : Sg} (h : f_X11_isTape v0 = some xr) : MT G M_X11_isTape [.int v0] σ (some (.int xr)) σ := by
  refine MT_of rfl rfl (Nat.le_of_ble_eq_true rfl) ?_
  show RN G M_X11_isTape 0 [some (.int v0)] [] σ (.inl (some (.int xr))) σ
  unfold f_X11_isTape at h
  refine RN_iload_n (pc := 0) (k := 0) (by decide +kernel) rfl rfl ?_
  refine RN_if_lt (pc := 1) (off := 13) (tgt := 14) (by decide +kernel) (by decide) (fun c1 => ?_) (fun c1 => ?_)
  · replace h := it_t c1 h
    exact RN_weak (l := []) trivial (tb_X11_isTape_14  h)
  · replace h := it_f c1 h
    refine RN_iload_n (pc := 4) (k := 0) (by decide +kernel) rfl rfl ?_
    refine RN_bipush (pc := 5) (n := 6) (v := 6) (by decide +kernel) (by decide) ?_
    refine RN_icmp_ge (pc := 7) (off := 7) (tgt := 14) (by decide +kernel) (by decide) (fun c2 => ?_) (fun c2 => ?_)
    · replace h := it_t c2 h
      exact RN_weak (l := []) trivial (tb_X11_isTape_14  h)
    · replace h := it_f c2 h
      refine RN_iconst (pc := 10) (n := 1) (v := 1) (by decide +kernel) (by decide) ?_
      refine RN_goto (pc := 11) (off := 4) (tgt := 15) (by decide +kernel) (by decide) ?_
      obtain rfl := some_el h
      exact RN_zreturn (by decide +kernel) rfl (Or.inr rfl)
def f_X11_refuse (v0 : Nat) (v1 : Int32) (σ : Sg) : Option (Int32 × Sg) :=
  ck (okO σ v0 10) <|
  nm (pI σ v0 9 ((gI σ v0 9) + (1 : Int32))) fun σ4 =>
  some (v1, σ4)
set_option maxRecDepth 20000 in
theorem t_X11_refuse {G : Gl} {xr : Int32} {σr : Sg} {v0 : Nat} {v1 : Int32} {σ : Sg} (h : f_X11_refuse v0 v1 σ = some (xr, σr)) : MT G M_X11_refuse [.ref v0, .int v1] σ (some (.int xr)) σr := by
  refine MT_of rfl rfl (Nat.le_of_ble_eq_true rfl) ?_
  show RN G M_X11_refuse 0 [some (.ref v0), some (.int v1)] [] σ (.inl (some (.int xr))) σr
  unfold f_X11_refuse at h
  refine RN_aload_n (pc := 0) (k := 0) (by decide +kernel) rfl rfl ?_
  refine RN_dup (pc := 1) (by decide +kernel) rfl ?_
  obtain ⟨c3, h⟩ := ck_el h
  refine RN_getI (pc := 2) (idx := 69) (ci := 10) (k := 9) (by decide +kernel) lf_RX11_69 (Or.inl rfl) c3 ?_
  refine RN_iconst (pc := 5) (n := 1) (v := 1) (by decide +kernel) (by decide) ?_
  refine RN_iadd (pc := 6) (by decide +kernel) ?_
  refine RN_putI (pc := 7) (idx := 69) (ci := 10) (k := 9) (by decide +kernel) lf_RX11_69 rfl (fun q hq => by cases hq; exact Or.inl rfl) c3 ?_
  obtain ⟨σ4, eσ4, h⟩ := nm_el h
  refine RN_nmS eσ4 ?_
  refine RN_iload_n (pc := 10) (k := 1) (by decide +kernel) rfl rfl ?_
  obtain ⟨rfl, rfl⟩ := some_el2 h
  exact RN_ireturn (by decide +kernel) rfl
def f_X11_tape (n : Nat) (v0 : Nat) (v1 : Int32) (v2 : Int32) (v3 : Int32) (σ : Sg) : Option (Int32 × Sg) :=
  bp (f_X11_isTape v1) fun x17 =>
  if x17 = 0 then (
    some ((-1 : Int32), σ))
  else (
    if v2 < (1 : Int32) then (
      some ((-1 : Int32), σ))
    else (
      if (4 : Int32) < v2 then (
        some ((-1 : Int32), σ))
      else (
        if v3 ≤ (64 : Int32) then (
          if 0 ≤ v3 then (
            ck (okO σ v0 10) <|
            ck (¬ gR σ v0 4 = 0) <|
            nm (gR σ v0 4) fun r25 =>
            ck (okA σ r25 17 v1) <|
            ck (¬ gR σ r25 v1.toNatClampNeg = 0) <|
            nm (gR σ r25 v1.toNatClampNeg) fun r28 =>
            ck (okO σ r28 8) <|
            bp (f_X9_holdRow n r28 v2 v3 σ) fun σ31 =>
            some (v3, σ31))
          else (
            ck (okO σ v0 10) <|
            bd (f_X11_refuse v0 (-14 : Int32) σ) fun x35 σ34 =>
            some (x35, σ34)))
        else (
          some ((-1 : Int32), σ)))))
set_option maxRecDepth 20000 in
theorem t_X11_tape {G : Gl} {xr : Int32} {σr : Sg} {n : Nat} {v0 : Nat} {v1 : Int32} {v2 : Int32} {v3 : Int32} {σ : Sg} (h : f_X11_tape n v0 v1 v2 v3 σ = some (xr, σr)) : MT G M_X11_tape [.ref v0, .int v1, .int v2, .int v3] σ (some (.int xr)) σr := by
  refine MT_of rfl rfl (Nat.le_of_ble_eq_true rfl) ?_
  show RN G M_X11_tape 0 [some (.ref v0), some (.int v1), some (.int v2), some (.int v3)] [] σ (.inl (some (.int xr))) σr
  unfold f_X11_tape at h
  refine RN_iload_n (pc := 0) (k := 1) (by decide +kernel) rfl rfl ?_
  obtain ⟨x17, f16, h⟩ := bp_el h
  refine RN_callS (M := M_X11_tape) (pc := 1) (idx := 253) (as := [.int v1]) (st := []) (t_X11_isTape f16) (by decide +kernel) lk_RX11_253 rfl (Nat.le_of_ble_eq_true rfl) ⟨Nat.le_of_ble_eq_true rfl, Nat.le_of_ble_eq_true rfl⟩ rfl ?_
  show RN G M_X11_tape 4 [some (.ref v0), some (.int v1), some (.int v2), some (.int v3)] [.int x17] σ _ _
  refine RN_if_eq (pc := 4) (off := 19) (tgt := 23) (by decide +kernel) (by decide) (fun c18 => ?_) (fun c18 => ?_)
  · replace h := it_t c18 h
    refine RN_iconst (pc := 23) (n := -1) (v := -1) (by decide +kernel) (by decide) ?_
    obtain ⟨rfl, rfl⟩ := some_el2 h
    exact RN_ireturn (by decide +kernel) rfl
  · replace h := it_f c18 h
    refine RN_iload_n (pc := 7) (k := 2) (by decide +kernel) rfl rfl ?_
    refine RN_iconst (pc := 8) (n := 1) (v := 1) (by decide +kernel) (by decide) ?_
    refine RN_icmp_lt (pc := 9) (off := 14) (tgt := 23) (by decide +kernel) (by decide) (fun c19 => ?_) (fun c19 => ?_)
    · replace h := it_t c19 h
      refine RN_iconst (pc := 23) (n := -1) (v := -1) (by decide +kernel) (by decide) ?_
      obtain ⟨rfl, rfl⟩ := some_el2 h
      exact RN_ireturn (by decide +kernel) rfl
    · replace h := it_f c19 h
      refine RN_iload_n (pc := 12) (k := 2) (by decide +kernel) rfl rfl ?_
      refine RN_iconst (pc := 13) (n := 4) (v := 4) (by decide +kernel) (by decide) ?_
      refine RN_icmp_gt (pc := 14) (off := 9) (tgt := 23) (by decide +kernel) (by decide) (fun c20 => ?_) (fun c20 => ?_)
      · replace h := it_t c20 h
        refine RN_iconst (pc := 23) (n := -1) (v := -1) (by decide +kernel) (by decide) ?_
        obtain ⟨rfl, rfl⟩ := some_el2 h
        exact RN_ireturn (by decide +kernel) rfl
      · replace h := it_f c20 h
        refine RN_iload_n (pc := 17) (k := 3) (by decide +kernel) rfl rfl ?_
        refine RN_bipush (pc := 18) (n := 64) (v := 64) (by decide +kernel) (by decide) ?_
        refine RN_icmp_le (pc := 20) (off := 5) (tgt := 25) (by decide +kernel) (by decide) (fun c21 => ?_) (fun c21 => ?_)
        · replace h := it_t c21 h
          refine RN_iload_n (pc := 25) (k := 3) (by decide +kernel) rfl rfl ?_
          refine RN_if_ge (pc := 26) (off := 10) (tgt := 36) (by decide +kernel) (by decide) (fun c22 => ?_) (fun c22 => ?_)
          · replace h := it_t c22 h
            refine RN_aload_n (pc := 36) (k := 0) (by decide +kernel) rfl rfl ?_
            obtain ⟨c23, h⟩ := ck_el h
            obtain ⟨c24, h⟩ := ck_el h
            refine RN_getR (pc := 37) (idx := 38) (ci := 10) (k := 4) (by decide +kernel) lf_RX11_38 rfl c23 c24 ?_
            obtain ⟨r25, er25, h⟩ := nm_el h
            refine RN_nmR er25 ?_
            refine RN_iload_n (pc := 40) (k := 1) (by decide +kernel) rfl rfl ?_
            obtain ⟨c26, h⟩ := ck_el h
            obtain ⟨c27, h⟩ := ck_el h
            refine RN_aald17 (pc := 41) (by decide +kernel) c26 c27 ?_
            obtain ⟨r28, er28, h⟩ := nm_el h
            refine RN_nmR er28 ?_
            refine RN_iload_n (pc := 42) (k := 2) (by decide +kernel) rfl rfl ?_
            refine RN_iload_n (pc := 43) (k := 3) (by decide +kernel) rfl rfl ?_
            obtain ⟨c29, h⟩ := ck_el h
            obtain ⟨σ31, f30, h⟩ := bp_el h
            refine RN_callV (M := M_X11_tape) (pc := 44) (idx := 259) (as := [.int v2, .int v3]) (st := []) (t_X9_holdRow f30) (by decide +kernel) lk_RX11_259 rfl ⟨by decide, fun q hq => by cases hq; rfl⟩ c29 (Nat.le_of_ble_eq_true rfl) ⟨Nat.le_of_ble_eq_true rfl, Nat.le_of_ble_eq_true rfl⟩ rfl ?_
            show RN G M_X11_tape 47 [some (.ref v0), some (.int v1), some (.int v2), some (.int v3)] [] σ31 _ _
            refine RN_iload_n (pc := 47) (k := 3) (by decide +kernel) rfl rfl ?_
            obtain ⟨rfl, rfl⟩ := some_el2 h
            exact RN_ireturn (by decide +kernel) rfl
          · replace h := it_f c22 h
            refine RN_aload_n (pc := 29) (k := 0) (by decide +kernel) rfl rfl ?_
            refine RN_bipush (pc := 30) (n := -14) (v := -14) (by decide +kernel) (by decide) ?_
            obtain ⟨c32, h⟩ := ck_el h
            obtain ⟨x35, σ34, f33, h⟩ := bd_el h
            refine RN_callV (M := M_X11_tape) (pc := 32) (idx := 256) (as := [.int (-14 : Int32)]) (st := []) (t_X11_refuse f33) (by decide +kernel) lk_RX11_256 rfl ⟨by decide, fun q hq => by cases hq; rfl⟩ c32 (Nat.le_of_ble_eq_true rfl) ⟨Nat.le_of_ble_eq_true rfl, Nat.le_of_ble_eq_true rfl⟩ rfl ?_
            show RN G M_X11_tape 35 [some (.ref v0), some (.int v1), some (.int v2), some (.int v3)] [.int x35] σ34 _ _
            obtain ⟨rfl, rfl⟩ := some_el2 h
            exact RN_ireturn (by decide +kernel) rfl
        · replace h := it_f c21 h
          refine RN_iconst (pc := 23) (n := -1) (v := -1) (by decide +kernel) (by decide) ?_
          obtain ⟨rfl, rfl⟩ := some_el2 h
          exact RN_ireturn (by decide +kernel) rfl
def b_X11_image_42 : Nat → Nat → Nat → Int32 → Sg → Option (Int32 × Sg)
  | 0, _, _, _, _ => none
  | n + 1, v0, v2, v3, σ =>
  ck (okO σ v0 10) <|
  if (gI σ v0 8) ≤ v3 then (
    some (gI σ v0 8, σ))
  else (
    ck (okO σ v2 8) <|
    ck (¬ gR σ v2 3 = 0) <|
    nm (gR σ v2 3) fun r77 =>
    ck (¬ gR σ v0 3 = 0) <|
    nm (gR σ v0 3) fun r79 =>
    ck (okA σ r79 16 v3) <|
    ck (¬ gR σ r79 v3.toNatClampNeg = 0) <|
    nm (gR σ r79 v3.toNatClampNeg) fun r82 =>
    ck (okO σ r82 5) <|
    ck (okW σ r77 14 v3) <|
    nm (pJ σ r77 v3.toNatClampNeg (gJ σ r82 5)) fun σ85 =>
    ck (okO σ85 v2 8) <|
    ck (¬ gR σ85 v2 4 = 0) <|
    nm (gR σ85 v2 4) fun r88 =>
    ck (okO σ85 v0 10) <|
    ck (¬ gR σ85 v0 3 = 0) <|
    nm (gR σ85 v0 3) fun r91 =>
    ck (okA σ85 r91 16 v3) <|
    ck (¬ gR σ85 r91 v3.toNatClampNeg = 0) <|
    nm (gR σ85 r91 v3.toNatClampNeg) fun r94 =>
    ck (okO σ85 r94 5) <|
    ck (okW σ85 r88 14 v3) <|
    nm (pJ σ85 r88 v3.toNatClampNeg (gJ σ85 r94 6)) fun σ97 =>
    nm (v3 + (1 : Int32)) fun x98 =>
    b_X11_image_42 n v0 v2 x98 σ97)
set_option maxRecDepth 20000 in
theorem tb_X11_image_42 {G : Gl} {xr : Int32} {σr : Sg} (v0 : Nat) (v2 : Nat) : ∀ (n : Nat) (v3 : Int32) (σ : Sg), b_X11_image_42 n v0 v2 v3 σ = some (xr, σr) → RN G M_X11_image 42 [some (.ref v0), none, some (.ref v2), some (.int v3)] [] σ (.inl (some (.int xr))) σr := by
  intro n
  induction n with
  | zero =>
    intro v3 σ h
    exact none_el h
  | succ n ih =>
    intro v3 σ h
    rw [b_X11_image_42] at h
    refine RN_iload_n (pc := 42) (k := 3) (by decide +kernel) rfl rfl ?_
    refine RN_aload_n (pc := 43) (k := 0) (by decide +kernel) rfl rfl ?_
    obtain ⟨c73, h⟩ := ck_el h
    refine RN_getI (pc := 44) (idx := 65) (ci := 10) (k := 8) (by decide +kernel) lf_RX11_65 (Or.inl rfl) c73 ?_
    refine RN_icmp_ge (pc := 47) (off := 39) (tgt := 86) (by decide +kernel) (by decide) (fun c74 => ?_) (fun c74 => ?_)
    · replace h := it_t c74 h
      refine RN_aload_n (pc := 86) (k := 0) (by decide +kernel) rfl rfl ?_
      refine RN_getI (pc := 87) (idx := 65) (ci := 10) (k := 8) (by decide +kernel) lf_RX11_65 (Or.inl rfl) c73 ?_
      obtain ⟨rfl, rfl⟩ := some_el2 h
      exact RN_ireturn (by decide +kernel) rfl
    · replace h := it_f c74 h
      refine RN_aload_n (pc := 50) (k := 2) (by decide +kernel) rfl rfl ?_
      obtain ⟨c75, h⟩ := ck_el h
      obtain ⟨c76, h⟩ := ck_el h
      refine RN_getR (pc := 51) (idx := 272) (ci := 8) (k := 3) (by decide +kernel) lf_RX11_272 rfl c75 c76 ?_
      obtain ⟨r77, er77, h⟩ := nm_el h
      refine RN_nmR er77 ?_
      refine RN_iload_n (pc := 54) (k := 3) (by decide +kernel) rfl rfl ?_
      refine RN_aload_n (pc := 55) (k := 0) (by decide +kernel) rfl rfl ?_
      obtain ⟨c78, h⟩ := ck_el h
      refine RN_getR (pc := 56) (idx := 32) (ci := 10) (k := 3) (by decide +kernel) lf_RX11_32 rfl c73 c78 ?_
      obtain ⟨r79, er79, h⟩ := nm_el h
      refine RN_nmR er79 ?_
      refine RN_iload_n (pc := 59) (k := 3) (by decide +kernel) rfl rfl ?_
      obtain ⟨c80, h⟩ := ck_el h
      obtain ⟨c81, h⟩ := ck_el h
      refine RN_aald16 (pc := 60) (by decide +kernel) c80 c81 ?_
      obtain ⟨r82, er82, h⟩ := nm_el h
      refine RN_nmR er82 ?_
      obtain ⟨c83, h⟩ := ck_el h
      refine RN_getJ (pc := 61) (idx := 183) (ci := 5) (k := 5) (by decide +kernel) lf_RX11_183 rfl c83 ?_
      obtain ⟨c84, h⟩ := ck_el h
      refine RN_last (pc := 64) (by decide +kernel) c84 ?_
      obtain ⟨σ85, eσ85, h⟩ := nm_el h
      refine RN_nmS eσ85 ?_
      refine RN_aload_n (pc := 65) (k := 2) (by decide +kernel) rfl rfl ?_
      obtain ⟨c86, h⟩ := ck_el h
      obtain ⟨c87, h⟩ := ck_el h
      refine RN_getR (pc := 66) (idx := 275) (ci := 8) (k := 4) (by decide +kernel) lf_RX11_275 rfl c86 c87 ?_
      obtain ⟨r88, er88, h⟩ := nm_el h
      refine RN_nmR er88 ?_
      refine RN_iload_n (pc := 69) (k := 3) (by decide +kernel) rfl rfl ?_
      refine RN_aload_n (pc := 70) (k := 0) (by decide +kernel) rfl rfl ?_
      obtain ⟨c89, h⟩ := ck_el h
      obtain ⟨c90, h⟩ := ck_el h
      refine RN_getR (pc := 71) (idx := 32) (ci := 10) (k := 3) (by decide +kernel) lf_RX11_32 rfl c89 c90 ?_
      obtain ⟨r91, er91, h⟩ := nm_el h
      refine RN_nmR er91 ?_
      refine RN_iload_n (pc := 74) (k := 3) (by decide +kernel) rfl rfl ?_
      obtain ⟨c92, h⟩ := ck_el h
      obtain ⟨c93, h⟩ := ck_el h
      refine RN_aald16 (pc := 75) (by decide +kernel) c92 c93 ?_
      obtain ⟨r94, er94, h⟩ := nm_el h
      refine RN_nmR er94 ?_
      obtain ⟨c95, h⟩ := ck_el h
      refine RN_getJ (pc := 76) (idx := 187) (ci := 5) (k := 6) (by decide +kernel) lf_RX11_187 rfl c95 ?_
      obtain ⟨c96, h⟩ := ck_el h
      refine RN_last (pc := 79) (by decide +kernel) c96 ?_
      obtain ⟨σ97, eσ97, h⟩ := nm_el h
      refine RN_nmS eσ97 ?_
      obtain ⟨x98, ex98, h⟩ := nm_el h
      refine RN_iinc (pc := 80) (i := 3) (n := 1) (v := x98) (ls2 := [some (.ref v0), none, some (.ref v2), some (.int x98)]) (by decide +kernel) rfl (by rw [ex98]; rfl) (by decide) rfl ?_
      refine RN_goto (pc := 83) (off := -41) (tgt := 42) (by decide +kernel) (by decide) ?_
      exact RN_weak (l := [some (.ref v0), none, some (.ref v2), some (.int x98)]) (And.intro rfl (And.intro rfl (And.intro rfl trivial))) (ih x98 σ97 h)
def f_X11_image (n : Nat) (v0 : Nat) (v1 : Int32) (σ : Sg) : Option (Int32 × Sg) :=
  bp (f_X11_isTape v1) fun x51 =>
  if x51 = 0 then (
    some ((-1 : Int32), σ))
  else (
    ck (okO σ v0 10) <|
    ck (¬ gR σ v0 4 = 0) <|
    nm (gR σ v0 4) fun r55 =>
    ck (okA σ r55 17 v1) <|
    ck (¬ gR σ r55 v1.toNatClampNeg = 0) <|
    nm (gR σ r55 v1.toNatClampNeg) fun r58 =>
    ck (okO σ r58 8) <|
    nm (pI σ r58 0 (5 : Int32)) fun σ60 =>
    ck (okO σ60 v0 10) <|
    ck (okO σ60 r58 8) <|
    nm (pI σ60 r58 5 (gI σ60 v0 8)) fun σ63 =>
    ck (okO σ63 r58 8) <|
    ck (¬ gR σ63 r58 2 = 0) <|
    nm (gR σ63 r58 2) fun r66 =>
    ck (okO σ63 v0 10) <|
    ck (¬ gR σ63 v0 2 = 0) <|
    nm (gR σ63 v0 2) fun r69 =>
    ck (okO σ63 r66 3) <|
    bp (f_X4_become n r66 r69 σ63) fun σ72 =>
    b_X11_image_42 n v0 r58 (0 : Int32) σ72)
set_option maxRecDepth 20000 in
theorem t_X11_image {G : Gl} {xr : Int32} {σr : Sg} {n : Nat} {v0 : Nat} {v1 : Int32} {σ : Sg} (h : f_X11_image n v0 v1 σ = some (xr, σr)) : MT G M_X11_image [.ref v0, .int v1] σ (some (.int xr)) σr := by
  refine MT_of rfl rfl (Nat.le_of_ble_eq_true rfl) ?_
  show RN G M_X11_image 0 [some (.ref v0), some (.int v1)] [] σ (.inl (some (.int xr))) σr
  unfold f_X11_image at h
  refine RN_iload_n (pc := 0) (k := 1) (by decide +kernel) rfl rfl ?_
  obtain ⟨x51, f50, h⟩ := bp_el h
  refine RN_callS (M := M_X11_image) (pc := 1) (idx := 253) (as := [.int v1]) (st := []) (t_X11_isTape f50) (by decide +kernel) lk_RX11_253 rfl (Nat.le_of_ble_eq_true rfl) ⟨Nat.le_of_ble_eq_true rfl, Nat.le_of_ble_eq_true rfl⟩ rfl ?_
  show RN G M_X11_image 4 [some (.ref v0), some (.int v1)] [.int x51] σ _ _
  refine RN_if_ne (pc := 4) (off := 5) (tgt := 9) (by decide +kernel) (by decide) (fun c52 => ?_) (fun c52 => ?_)
  · replace h := it_f c52 h
    refine RN_aload_n (pc := 9) (k := 0) (by decide +kernel) rfl rfl ?_
    obtain ⟨c53, h⟩ := ck_el h
    obtain ⟨c54, h⟩ := ck_el h
    refine RN_getR (pc := 10) (idx := 38) (ci := 10) (k := 4) (by decide +kernel) lf_RX11_38 rfl c53 c54 ?_
    obtain ⟨r55, er55, h⟩ := nm_el h
    refine RN_nmR er55 ?_
    refine RN_iload_n (pc := 13) (k := 1) (by decide +kernel) rfl rfl ?_
    obtain ⟨c56, h⟩ := ck_el h
    obtain ⟨c57, h⟩ := ck_el h
    refine RN_aald17 (pc := 14) (by decide +kernel) c56 c57 ?_
    obtain ⟨r58, er58, h⟩ := nm_el h
    refine RN_nmR er58 ?_
    refine RN_astore_n (pc := 15) (k := 2) (ls2 := [some (.ref v0), some (.int v1), some (.ref r58)]) (by decide +kernel) rfl (by decide) rfl ?_
    refine RN_aload_n (pc := 16) (k := 2) (by decide +kernel) rfl rfl ?_
    refine RN_iconst (pc := 17) (n := 5) (v := 5) (by decide +kernel) (by decide) ?_
    obtain ⟨c59, h⟩ := ck_el h
    refine RN_putI (pc := 18) (idx := 262) (ci := 8) (k := 0) (by decide +kernel) lf_RX11_262 rfl (fun q hq => by cases hq; exact Or.inl rfl) c59 ?_
    obtain ⟨σ60, eσ60, h⟩ := nm_el h
    refine RN_nmS eσ60 ?_
    refine RN_aload_n (pc := 21) (k := 2) (by decide +kernel) rfl rfl ?_
    refine RN_aload_n (pc := 22) (k := 0) (by decide +kernel) rfl rfl ?_
    obtain ⟨c61, h⟩ := ck_el h
    refine RN_getI (pc := 23) (idx := 65) (ci := 10) (k := 8) (by decide +kernel) lf_RX11_65 (Or.inl rfl) c61 ?_
    obtain ⟨c62, h⟩ := ck_el h
    refine RN_putI (pc := 26) (idx := 265) (ci := 8) (k := 5) (by decide +kernel) lf_RX11_265 rfl (fun q hq => by cases hq; exact Or.inl rfl) c62 ?_
    obtain ⟨σ63, eσ63, h⟩ := nm_el h
    refine RN_nmS eσ63 ?_
    refine RN_aload_n (pc := 29) (k := 2) (by decide +kernel) rfl rfl ?_
    obtain ⟨c64, h⟩ := ck_el h
    obtain ⟨c65, h⟩ := ck_el h
    refine RN_getR (pc := 30) (idx := 267) (ci := 8) (k := 2) (by decide +kernel) lf_RX11_267 rfl c64 c65 ?_
    obtain ⟨r66, er66, h⟩ := nm_el h
    refine RN_nmR er66 ?_
    refine RN_aload_n (pc := 33) (k := 0) (by decide +kernel) rfl rfl ?_
    obtain ⟨c67, h⟩ := ck_el h
    obtain ⟨c68, h⟩ := ck_el h
    refine RN_getR (pc := 34) (idx := 26) (ci := 10) (k := 2) (by decide +kernel) lf_RX11_26 rfl c67 c68 ?_
    obtain ⟨r69, er69, h⟩ := nm_el h
    refine RN_nmR er69 ?_
    obtain ⟨c70, h⟩ := ck_el h
    obtain ⟨σ72, f71, h⟩ := bp_el h
    refine RN_callV (M := M_X11_image) (pc := 37) (idx := 268) (as := [.ref r69]) (st := []) (t_X4_become f71) (by decide +kernel) lk_RX11_268 rfl ⟨by decide, fun q hq => by cases hq; rfl⟩ c70 (Nat.le_of_ble_eq_true rfl) ⟨Nat.le_of_ble_eq_true rfl, Nat.le_of_ble_eq_true rfl⟩ rfl ?_
    show RN G M_X11_image 40 [some (.ref v0), some (.int v1), some (.ref r58)] [] σ72 _ _
    refine RN_iconst (pc := 40) (n := 0) (v := 0) (by decide +kernel) (by decide) ?_
    refine RN_istore_n (pc := 41) (k := 3) (ls2 := [some (.ref v0), some (.int v1), some (.ref r58), some (.int (0 : Int32))]) (by decide +kernel) rfl (by decide) rfl ?_
    exact RN_weak (l := [some (.ref v0), none, some (.ref r58), some (.int (0 : Int32))]) (And.intro rfl (And.intro rfl (And.intro rfl trivial))) (tb_X11_image_42 v0 r58 n (0 : Int32) σ72 h)
  · replace h := it_t c52 h
    refine RN_iconst (pc := 7) (n := -1) (v := -1) (by decide +kernel) (by decide) ?_
    obtain ⟨rfl, rfl⟩ := some_el2 h
    exact RN_ireturn (by decide +kernel) rfl
def b_X11_back_140 (k72 : Int32 → Sg → Option (Int32 × Sg)) (n : Nat) (v0 : Nat) (v2 : Nat) (v3 : Int32) (s0 : Int64) (s1 : Nat) (σ : Sg) : Option (Int32 × Sg) :=
  ck (okO σ s1 5) <|
  nm (pJ σ s1 6 s0) fun σ105 =>
  nm (v3 + (1 : Int32)) fun x106 =>
  k72 x106 σ105
set_option maxRecDepth 20000 in
theorem tb_X11_back_140 {G : Gl} {xr : Int32} {σr : Sg} (n : Nat) (v0 : Nat) (v2 : Nat) (v3 : Int32) (s0 : Int64) (s1 : Nat) (σ : Sg) (k72 : Int32 → Sg → Option (Int32 × Sg)) (hk72 : ∀ (c3 : Int32) (τ : Sg), k72 c3 τ = some (xr, σr) → RN G M_X11_back 72 [some (.ref v0), none, some (.ref v2), some (.int c3)] [] τ (.inl (some (.int xr))) σr) (h : b_X11_back_140 k72 n v0 v2 v3 s0 s1 σ = some (xr, σr)) : RN G M_X11_back 140 [some (.ref v0), none, some (.ref v2), some (.int v3)] [.long s0, .ref s1] σ (.inl (some (.int xr))) σr := by
  unfold b_X11_back_140 at h
  obtain ⟨c104, h⟩ := ck_el h
  refine RN_putJ (pc := 140) (idx := 187) (ci := 5) (k := 6) (by decide +kernel) lf_RX11_187 rfl (fun q hq => by cases hq; exact Or.inl rfl) c104 ?_
  obtain ⟨σ105, eσ105, h⟩ := nm_el h
  refine RN_nmS eσ105 ?_
  obtain ⟨x106, ex106, h⟩ := nm_el h
  refine RN_iinc (pc := 143) (i := 3) (n := 1) (v := x106) (ls2 := [some (.ref v0), none, some (.ref v2), some (.int x106)]) (by decide +kernel) rfl (by rw [ex106]; rfl) (by decide) rfl ?_
  refine RN_goto (pc := 146) (off := -74) (tgt := 72) (by decide +kernel) (by decide) ?_
  exact RN_weak (l := [some (.ref v0), none, some (.ref v2), some (.int x106)]) (And.intro rfl (And.intro rfl (And.intro rfl trivial))) (hk72 x106 σ105 h)
def b_X11_back_116 (k72 : Int32 → Sg → Option (Int32 × Sg)) (n : Nat) (v0 : Nat) (v2 : Nat) (v3 : Int32) (v4 : Int32) (s0 : Int64) (s1 : Nat) (σ : Sg) : Option (Int32 × Sg) :=
  ck (okO σ s1 5) <|
  nm (pJ σ s1 5 s0) fun σ96 =>
  ck (okO σ96 v0 10) <|
  ck (¬ gR σ96 v0 3 = 0) <|
  nm (gR σ96 v0 3) fun r99 =>
  ck (okA σ96 r99 16 v3) <|
  ck (¬ gR σ96 r99 v3.toNatClampNeg = 0) <|
  nm (gR σ96 r99 v3.toNatClampNeg) fun r102 =>
  if v4 = 0 then (
    b_X11_back_140 k72 n v0 v2 v3 (1 : Int64) r102 σ96)
  else (
    ck (okO σ96 v2 8) <|
    ck (¬ gR σ96 v2 4 = 0) <|
    nm (gR σ96 v2 4) fun r109 =>
    ck (okA σ96 r109 14 v3) <|
    b_X11_back_140 k72 n v0 v2 v3 (gJ σ96 r109 v3.toNatClampNeg) r102 σ96)
set_option maxRecDepth 20000 in
theorem tb_X11_back_116 {G : Gl} {xr : Int32} {σr : Sg} (n : Nat) (v0 : Nat) (v2 : Nat) (v3 : Int32) (v4 : Int32) (s0 : Int64) (s1 : Nat) (σ : Sg) (k72 : Int32 → Sg → Option (Int32 × Sg)) (hk72 : ∀ (c3 : Int32) (τ : Sg), k72 c3 τ = some (xr, σr) → RN G M_X11_back 72 [some (.ref v0), none, some (.ref v2), some (.int c3)] [] τ (.inl (some (.int xr))) σr) (h : b_X11_back_116 k72 n v0 v2 v3 v4 s0 s1 σ = some (xr, σr)) : RN G M_X11_back 116 [some (.ref v0), none, some (.ref v2), some (.int v3), some (.int v4)] [.long s0, .ref s1] σ (.inl (some (.int xr))) σr := by
  unfold b_X11_back_116 at h
  obtain ⟨c95, h⟩ := ck_el h
  refine RN_putJ (pc := 116) (idx := 183) (ci := 5) (k := 5) (by decide +kernel) lf_RX11_183 rfl (fun q hq => by cases hq; exact Or.inl rfl) c95 ?_
  obtain ⟨σ96, eσ96, h⟩ := nm_el h
  refine RN_nmS eσ96 ?_
  refine RN_aload_n (pc := 119) (k := 0) (by decide +kernel) rfl rfl ?_
  obtain ⟨c97, h⟩ := ck_el h
  obtain ⟨c98, h⟩ := ck_el h
  refine RN_getR (pc := 120) (idx := 32) (ci := 10) (k := 3) (by decide +kernel) lf_RX11_32 rfl c97 c98 ?_
  obtain ⟨r99, er99, h⟩ := nm_el h
  refine RN_nmR er99 ?_
  refine RN_iload_n (pc := 123) (k := 3) (by decide +kernel) rfl rfl ?_
  obtain ⟨c100, h⟩ := ck_el h
  obtain ⟨c101, h⟩ := ck_el h
  refine RN_aald16 (pc := 124) (by decide +kernel) c100 c101 ?_
  obtain ⟨r102, er102, h⟩ := nm_el h
  refine RN_nmR er102 ?_
  refine RN_iload (pc := 125) (i := 4) (by decide +kernel) rfl ?_
  refine RN_if_eq (pc := 127) (off := 12) (tgt := 139) (by decide +kernel) (by decide) (fun c103 => ?_) (fun c103 => ?_)
  · replace h := it_t c103 h
    refine RN_lconst (pc := 139) (n := 1) (v := 1) (by decide +kernel) (by decide) ?_
    exact RN_weak (l := [some (.ref v0), none, some (.ref v2), some (.int v3)]) (And.intro rfl (And.intro rfl (And.intro rfl trivial))) (tb_X11_back_140 n v0 v2 v3 (1 : Int64) r102 σ96 k72 hk72 h)
  · replace h := it_f c103 h
    refine RN_aload_n (pc := 130) (k := 2) (by decide +kernel) rfl rfl ?_
    obtain ⟨c107, h⟩ := ck_el h
    obtain ⟨c108, h⟩ := ck_el h
    refine RN_getR (pc := 131) (idx := 275) (ci := 8) (k := 4) (by decide +kernel) lf_RX11_275 rfl c107 c108 ?_
    obtain ⟨r109, er109, h⟩ := nm_el h
    refine RN_nmR er109 ?_
    refine RN_iload_n (pc := 134) (k := 3) (by decide +kernel) rfl rfl ?_
    obtain ⟨c110, h⟩ := ck_el h
    refine RN_lald (pc := 135) (by decide +kernel) c110 ?_
    refine RN_goto (pc := 136) (off := 4) (tgt := 140) (by decide +kernel) (by decide) ?_
    exact RN_weak (l := [some (.ref v0), none, some (.ref v2), some (.int v3)]) (And.intro rfl (And.intro rfl (And.intro rfl trivial))) (tb_X11_back_140 n v0 v2 v3 (gJ σ96 r109 v3.toNatClampNeg) r102 σ96 k72 hk72 h)
def b_X11_back_93 (k72 : Int32 → Sg → Option (Int32 × Sg)) (n : Nat) (v0 : Nat) (v2 : Nat) (v3 : Int32) (s0 : Int32) (σ : Sg) : Option (Int32 × Sg) :=
  ck (okO σ v0 10) <|
  ck (¬ gR σ v0 3 = 0) <|
  nm (gR σ v0 3) fun r90 =>
  ck (okA σ r90 16 v3) <|
  ck (¬ gR σ r90 v3.toNatClampNeg = 0) <|
  nm (gR σ r90 v3.toNatClampNeg) fun r93 =>
  if s0 = 0 then (
    b_X11_back_116 k72 n v0 v2 v3 s0 (0 : Int64) r93 σ)
  else (
    ck (okO σ v2 8) <|
    ck (¬ gR σ v2 3 = 0) <|
    nm (gR σ v2 3) fun r113 =>
    ck (okA σ r113 14 v3) <|
    b_X11_back_116 k72 n v0 v2 v3 s0 (gJ σ r113 v3.toNatClampNeg) r93 σ)
set_option maxRecDepth 20000 in
theorem tb_X11_back_93 {G : Gl} {xr : Int32} {σr : Sg} (n : Nat) (v0 : Nat) (v2 : Nat) (v3 : Int32) (s0 : Int32) (σ : Sg) (k72 : Int32 → Sg → Option (Int32 × Sg)) (hk72 : ∀ (c3 : Int32) (τ : Sg), k72 c3 τ = some (xr, σr) → RN G M_X11_back 72 [some (.ref v0), none, some (.ref v2), some (.int c3)] [] τ (.inl (some (.int xr))) σr) (h : b_X11_back_93 k72 n v0 v2 v3 s0 σ = some (xr, σr)) : RN G M_X11_back 93 [some (.ref v0), none, some (.ref v2), some (.int v3)] [.int s0] σ (.inl (some (.int xr))) σr := by
  unfold b_X11_back_93 at h
  refine RN_istore (pc := 93) (i := 4) (ls2 := [some (.ref v0), none, some (.ref v2), some (.int v3), some (.int s0)]) (by decide +kernel) (by decide) rfl ?_
  refine RN_aload_n (pc := 95) (k := 0) (by decide +kernel) rfl rfl ?_
  obtain ⟨c88, h⟩ := ck_el h
  obtain ⟨c89, h⟩ := ck_el h
  refine RN_getR (pc := 96) (idx := 32) (ci := 10) (k := 3) (by decide +kernel) lf_RX11_32 rfl c88 c89 ?_
  obtain ⟨r90, er90, h⟩ := nm_el h
  refine RN_nmR er90 ?_
  refine RN_iload_n (pc := 99) (k := 3) (by decide +kernel) rfl rfl ?_
  obtain ⟨c91, h⟩ := ck_el h
  obtain ⟨c92, h⟩ := ck_el h
  refine RN_aald16 (pc := 100) (by decide +kernel) c91 c92 ?_
  obtain ⟨r93, er93, h⟩ := nm_el h
  refine RN_nmR er93 ?_
  refine RN_iload (pc := 101) (i := 4) (by decide +kernel) rfl ?_
  refine RN_if_eq (pc := 103) (off := 12) (tgt := 115) (by decide +kernel) (by decide) (fun c94 => ?_) (fun c94 => ?_)
  · replace h := it_t c94 h
    refine RN_lconst (pc := 115) (n := 0) (v := 0) (by decide +kernel) (by decide) ?_
    exact RN_weak (l := [some (.ref v0), none, some (.ref v2), some (.int v3), some (.int s0)]) (And.intro rfl (And.intro rfl (And.intro rfl (And.intro rfl trivial)))) (tb_X11_back_116 n v0 v2 v3 s0 (0 : Int64) r93 σ k72 hk72 h)
  · replace h := it_f c94 h
    refine RN_aload_n (pc := 106) (k := 2) (by decide +kernel) rfl rfl ?_
    obtain ⟨c111, h⟩ := ck_el h
    obtain ⟨c112, h⟩ := ck_el h
    refine RN_getR (pc := 107) (idx := 272) (ci := 8) (k := 3) (by decide +kernel) lf_RX11_272 rfl c111 c112 ?_
    obtain ⟨r113, er113, h⟩ := nm_el h
    refine RN_nmR er113 ?_
    refine RN_iload_n (pc := 110) (k := 3) (by decide +kernel) rfl rfl ?_
    obtain ⟨c114, h⟩ := ck_el h
    refine RN_lald (pc := 111) (by decide +kernel) c114 ?_
    refine RN_goto (pc := 112) (off := 4) (tgt := 116) (by decide +kernel) (by decide) ?_
    exact RN_weak (l := [some (.ref v0), none, some (.ref v2), some (.int v3), some (.int s0)]) (And.intro rfl (And.intro rfl (And.intro rfl (And.intro rfl trivial)))) (tb_X11_back_116 n v0 v2 v3 s0 (gJ σ r113 v3.toNatClampNeg) r93 σ k72 hk72 h)
def b_X11_back_72 : Nat → Nat → Nat → Int32 → Sg → Option (Int32 × Sg)
  | 0, _, _, _, _ => none
  | n + 1, v0, v2, v3, σ =>
  ck (okO σ v0 10) <|
  if (gI σ v0 8) ≤ v3 then (
    ck (¬ gR σ v0 2 = 0) <|
    nm (gR σ v0 2) fun r84 =>
    ck (okO σ r84 3) <|
    some (gI σ r84 1, σ))
  else (
    ck (okO σ v2 8) <|
    if (gI σ v2 5) ≤ v3 then (
      b_X11_back_93 (fun c3 τ => b_X11_back_72 n v0 v2 c3 τ) n v0 v2 v3 (0 : Int32) σ)
    else (
      b_X11_back_93 (fun c3 τ => b_X11_back_72 n v0 v2 c3 τ) n v0 v2 v3 (1 : Int32) σ))
set_option maxRecDepth 20000 in
theorem tb_X11_back_72 {G : Gl} {xr : Int32} {σr : Sg} (v0 : Nat) (v2 : Nat) : ∀ (n : Nat) (v3 : Int32) (σ : Sg), b_X11_back_72 n v0 v2 v3 σ = some (xr, σr) → RN G M_X11_back 72 [some (.ref v0), none, some (.ref v2), some (.int v3)] [] σ (.inl (some (.int xr))) σr := by
  intro n
  induction n with
  | zero =>
    intro v3 σ h
    exact none_el h
  | succ n ih =>
    intro v3 σ h
    rw [b_X11_back_72] at h
    refine RN_iload_n (pc := 72) (k := 3) (by decide +kernel) rfl rfl ?_
    refine RN_aload_n (pc := 73) (k := 0) (by decide +kernel) rfl rfl ?_
    obtain ⟨c81, h⟩ := ck_el h
    refine RN_getI (pc := 74) (idx := 65) (ci := 10) (k := 8) (by decide +kernel) lf_RX11_65 (Or.inl rfl) c81 ?_
    refine RN_icmp_ge (pc := 77) (off := 72) (tgt := 149) (by decide +kernel) (by decide) (fun c82 => ?_) (fun c82 => ?_)
    · replace h := it_t c82 h
      refine RN_aload_n (pc := 149) (k := 0) (by decide +kernel) rfl rfl ?_
      obtain ⟨c83, h⟩ := ck_el h
      refine RN_getR (pc := 150) (idx := 26) (ci := 10) (k := 2) (by decide +kernel) lf_RX11_26 rfl c81 c83 ?_
      obtain ⟨r84, er84, h⟩ := nm_el h
      refine RN_nmR er84 ?_
      obtain ⟨c85, h⟩ := ck_el h
      refine RN_getI (pc := 153) (idx := 278) (ci := 3) (k := 1) (by decide +kernel) lf_RX11_278 (Or.inl rfl) c85 ?_
      obtain ⟨rfl, rfl⟩ := some_el2 h
      exact RN_ireturn (by decide +kernel) rfl
    · replace h := it_f c82 h
      refine RN_iload_n (pc := 80) (k := 3) (by decide +kernel) rfl rfl ?_
      refine RN_aload_n (pc := 81) (k := 2) (by decide +kernel) rfl rfl ?_
      obtain ⟨c86, h⟩ := ck_el h
      refine RN_getI (pc := 82) (idx := 265) (ci := 8) (k := 5) (by decide +kernel) lf_RX11_265 (Or.inl rfl) c86 ?_
      refine RN_icmp_ge (pc := 85) (off := 7) (tgt := 92) (by decide +kernel) (by decide) (fun c87 => ?_) (fun c87 => ?_)
      · replace h := it_t c87 h
        refine RN_iconst (pc := 92) (n := 0) (v := 0) (by decide +kernel) (by decide) ?_
        exact RN_weak (l := [some (.ref v0), none, some (.ref v2), some (.int v3)]) (And.intro rfl (And.intro rfl (And.intro rfl trivial))) (tb_X11_back_93 n v0 v2 v3 (0 : Int32) σ _ (fun c3 τ h => ih c3 τ h) h)
      · replace h := it_f c87 h
        refine RN_iconst (pc := 88) (n := 1) (v := 1) (by decide +kernel) (by decide) ?_
        refine RN_goto (pc := 89) (off := 4) (tgt := 93) (by decide +kernel) (by decide) ?_
        exact RN_weak (l := [some (.ref v0), none, some (.ref v2), some (.int v3)]) (And.intro rfl (And.intro rfl (And.intro rfl trivial))) (tb_X11_back_93 n v0 v2 v3 (1 : Int32) σ _ (fun c3 τ h => ih c3 τ h) h)
def f_X11_back (n : Nat) (v0 : Nat) (v1 : Int32) (σ : Sg) : Option (Int32 × Sg) :=
  bp (f_X11_isTape v1) fun x62 =>
  if x62 = 0 then (
    some ((-1 : Int32), σ))
  else (
    ck (okO σ v0 10) <|
    ck (¬ gR σ v0 4 = 0) <|
    nm (gR σ v0 4) fun r66 =>
    ck (okA σ r66 17 v1) <|
    ck (¬ gR σ r66 v1.toNatClampNeg = 0) <|
    nm (gR σ r66 v1.toNatClampNeg) fun r69 =>
    ck (okO σ r69 8) <|
    if (gI σ r69 0) = 0 then (
      bd (f_X11_refuse v0 (-11 : Int32) σ) fun x120 σ119 =>
      some (x120, σ119))
    else (
      if (gI σ r69 0) = (5 : Int32) then (
        if (gI σ r69 5) ≤ (gI σ v0 8) then (
          ck (¬ gR σ v0 2 = 0) <|
          nm (gR σ v0 2) fun r75 =>
          ck (¬ gR σ r69 2 = 0) <|
          nm (gR σ r69 2) fun r77 =>
          ck (okO σ r75 3) <|
          bp (f_X4_become n r75 r77 σ) fun σ80 =>
          b_X11_back_72 n v0 r69 (0 : Int32) σ80)
        else (
          some ((-3 : Int32), σ)))
      else (
        bd (f_X11_refuse v0 (-12 : Int32) σ) fun x117 σ116 =>
        some (x117, σ116))))
set_option maxRecDepth 20000 in
theorem t_X11_back {G : Gl} {xr : Int32} {σr : Sg} {n : Nat} {v0 : Nat} {v1 : Int32} {σ : Sg} (h : f_X11_back n v0 v1 σ = some (xr, σr)) : MT G M_X11_back [.ref v0, .int v1] σ (some (.int xr)) σr := by
  refine MT_of rfl rfl (Nat.le_of_ble_eq_true rfl) ?_
  show RN G M_X11_back 0 [some (.ref v0), some (.int v1)] [] σ (.inl (some (.int xr))) σr
  unfold f_X11_back at h
  refine RN_iload_n (pc := 0) (k := 1) (by decide +kernel) rfl rfl ?_
  obtain ⟨x62, f61, h⟩ := bp_el h
  refine RN_callS (M := M_X11_back) (pc := 1) (idx := 253) (as := [.int v1]) (st := []) (t_X11_isTape f61) (by decide +kernel) lk_RX11_253 rfl (Nat.le_of_ble_eq_true rfl) ⟨Nat.le_of_ble_eq_true rfl, Nat.le_of_ble_eq_true rfl⟩ rfl ?_
  show RN G M_X11_back 4 [some (.ref v0), some (.int v1)] [.int x62] σ _ _
  refine RN_if_ne (pc := 4) (off := 5) (tgt := 9) (by decide +kernel) (by decide) (fun c63 => ?_) (fun c63 => ?_)
  · replace h := it_f c63 h
    refine RN_aload_n (pc := 9) (k := 0) (by decide +kernel) rfl rfl ?_
    obtain ⟨c64, h⟩ := ck_el h
    obtain ⟨c65, h⟩ := ck_el h
    refine RN_getR (pc := 10) (idx := 38) (ci := 10) (k := 4) (by decide +kernel) lf_RX11_38 rfl c64 c65 ?_
    obtain ⟨r66, er66, h⟩ := nm_el h
    refine RN_nmR er66 ?_
    refine RN_iload_n (pc := 13) (k := 1) (by decide +kernel) rfl rfl ?_
    obtain ⟨c67, h⟩ := ck_el h
    obtain ⟨c68, h⟩ := ck_el h
    refine RN_aald17 (pc := 14) (by decide +kernel) c67 c68 ?_
    obtain ⟨r69, er69, h⟩ := nm_el h
    refine RN_nmR er69 ?_
    refine RN_astore_n (pc := 15) (k := 2) (ls2 := [some (.ref v0), some (.int v1), some (.ref r69)]) (by decide +kernel) rfl (by decide) rfl ?_
    refine RN_aload_n (pc := 16) (k := 2) (by decide +kernel) rfl rfl ?_
    obtain ⟨c70, h⟩ := ck_el h
    refine RN_getI (pc := 17) (idx := 262) (ci := 8) (k := 0) (by decide +kernel) lf_RX11_262 (Or.inl rfl) c70 ?_
    refine RN_if_ne (pc := 20) (off := 10) (tgt := 30) (by decide +kernel) (by decide) (fun c71 => ?_) (fun c71 => ?_)
    · replace h := it_f c71 h
      refine RN_aload_n (pc := 30) (k := 2) (by decide +kernel) rfl rfl ?_
      refine RN_getI (pc := 31) (idx := 262) (ci := 8) (k := 0) (by decide +kernel) lf_RX11_262 (Or.inl rfl) c70 ?_
      refine RN_iconst (pc := 34) (n := 5) (v := 5) (by decide +kernel) (by decide) ?_
      refine RN_icmp_eq (pc := 35) (off := 10) (tgt := 45) (by decide +kernel) (by decide) (fun c72 => ?_) (fun c72 => ?_)
      · replace h := it_t c72 h
        refine RN_aload_n (pc := 45) (k := 2) (by decide +kernel) rfl rfl ?_
        refine RN_getI (pc := 46) (idx := 265) (ci := 8) (k := 5) (by decide +kernel) lf_RX11_265 (Or.inl rfl) c70 ?_
        refine RN_aload_n (pc := 49) (k := 0) (by decide +kernel) rfl rfl ?_
        refine RN_getI (pc := 50) (idx := 65) (ci := 10) (k := 8) (by decide +kernel) lf_RX11_65 (Or.inl rfl) c64 ?_
        refine RN_icmp_le (pc := 53) (off := 6) (tgt := 59) (by decide +kernel) (by decide) (fun c73 => ?_) (fun c73 => ?_)
        · replace h := it_t c73 h
          refine RN_aload_n (pc := 59) (k := 0) (by decide +kernel) rfl rfl ?_
          obtain ⟨c74, h⟩ := ck_el h
          refine RN_getR (pc := 60) (idx := 26) (ci := 10) (k := 2) (by decide +kernel) lf_RX11_26 rfl c64 c74 ?_
          obtain ⟨r75, er75, h⟩ := nm_el h
          refine RN_nmR er75 ?_
          refine RN_aload_n (pc := 63) (k := 2) (by decide +kernel) rfl rfl ?_
          obtain ⟨c76, h⟩ := ck_el h
          refine RN_getR (pc := 64) (idx := 267) (ci := 8) (k := 2) (by decide +kernel) lf_RX11_267 rfl c70 c76 ?_
          obtain ⟨r77, er77, h⟩ := nm_el h
          refine RN_nmR er77 ?_
          obtain ⟨c78, h⟩ := ck_el h
          obtain ⟨σ80, f79, h⟩ := bp_el h
          refine RN_callV (M := M_X11_back) (pc := 67) (idx := 268) (as := [.ref r77]) (st := []) (t_X4_become f79) (by decide +kernel) lk_RX11_268 rfl ⟨by decide, fun q hq => by cases hq; rfl⟩ c78 (Nat.le_of_ble_eq_true rfl) ⟨Nat.le_of_ble_eq_true rfl, Nat.le_of_ble_eq_true rfl⟩ rfl ?_
          show RN G M_X11_back 70 [some (.ref v0), some (.int v1), some (.ref r69)] [] σ80 _ _
          refine RN_iconst (pc := 70) (n := 0) (v := 0) (by decide +kernel) (by decide) ?_
          refine RN_istore_n (pc := 71) (k := 3) (ls2 := [some (.ref v0), some (.int v1), some (.ref r69), some (.int (0 : Int32))]) (by decide +kernel) rfl (by decide) rfl ?_
          exact RN_weak (l := [some (.ref v0), none, some (.ref r69), some (.int (0 : Int32))]) (And.intro rfl (And.intro rfl (And.intro rfl trivial))) (tb_X11_back_72 v0 r69 n (0 : Int32) σ80 h)
        · replace h := it_f c73 h
          refine RN_bipush (pc := 56) (n := -3) (v := -3) (by decide +kernel) (by decide) ?_
          obtain ⟨rfl, rfl⟩ := some_el2 h
          exact RN_ireturn (by decide +kernel) rfl
      · replace h := it_f c72 h
        refine RN_aload_n (pc := 38) (k := 0) (by decide +kernel) rfl rfl ?_
        refine RN_bipush (pc := 39) (n := -12) (v := -12) (by decide +kernel) (by decide) ?_
        obtain ⟨x117, σ116, f115, h⟩ := bd_el h
        refine RN_callV (M := M_X11_back) (pc := 41) (idx := 256) (as := [.int (-12 : Int32)]) (st := []) (t_X11_refuse f115) (by decide +kernel) lk_RX11_256 rfl ⟨by decide, fun q hq => by cases hq; rfl⟩ c64 (Nat.le_of_ble_eq_true rfl) ⟨Nat.le_of_ble_eq_true rfl, Nat.le_of_ble_eq_true rfl⟩ rfl ?_
        show RN G M_X11_back 44 [some (.ref v0), some (.int v1), some (.ref r69)] [.int x117] σ116 _ _
        obtain ⟨rfl, rfl⟩ := some_el2 h
        exact RN_ireturn (by decide +kernel) rfl
    · replace h := it_t c71 h
      refine RN_aload_n (pc := 23) (k := 0) (by decide +kernel) rfl rfl ?_
      refine RN_bipush (pc := 24) (n := -11) (v := -11) (by decide +kernel) (by decide) ?_
      obtain ⟨x120, σ119, f118, h⟩ := bd_el h
      refine RN_callV (M := M_X11_back) (pc := 26) (idx := 256) (as := [.int (-11 : Int32)]) (st := []) (t_X11_refuse f118) (by decide +kernel) lk_RX11_256 rfl ⟨by decide, fun q hq => by cases hq; rfl⟩ c64 (Nat.le_of_ble_eq_true rfl) ⟨Nat.le_of_ble_eq_true rfl, Nat.le_of_ble_eq_true rfl⟩ rfl ?_
      show RN G M_X11_back 29 [some (.ref v0), some (.int v1), some (.ref r69)] [.int x120] σ119 _ _
      obtain ⟨rfl, rfl⟩ := some_el2 h
      exact RN_ireturn (by decide +kernel) rfl
  · replace h := it_t c63 h
    refine RN_iconst (pc := 7) (n := -1) (v := -1) (by decide +kernel) (by decide) ?_
    obtain ⟨rfl, rfl⟩ := some_el2 h
    exact RN_ireturn (by decide +kernel) rfl
def f_X11_toss (v0 : Nat) (v1 : Int32) (σ : Sg) : Option (Int32 × Sg) :=
  bp (f_X11_isTape v1) fun x50 =>
  if x50 = 0 then (
    some ((-1 : Int32), σ))
  else (
    ck (okO σ v0 10) <|
    ck (¬ gR σ v0 4 = 0) <|
    nm (gR σ v0 4) fun r54 =>
    ck (okA σ r54 17 v1) <|
    ck (¬ gR σ r54 v1.toNatClampNeg = 0) <|
    nm (gR σ r54 v1.toNatClampNeg) fun r57 =>
    ck (okO σ r57 8) <|
    if (gI σ r57 0) = 0 then (
      bd (f_X11_refuse v0 (-11 : Int32) σ) fun x91 σ90 =>
      some (x91, σ90))
    else (
      nm (gR σ v0 4) fun r60 =>
      ck (okA σ r60 17 v1) <|
      ck (¬ gR σ r60 v1.toNatClampNeg = 0) <|
      nm (gR σ r60 v1.toNatClampNeg) fun r63 =>
      ck (okO σ r63 8) <|
      if (gI σ r63 0) = (5 : Int32) then (
        nm (gR σ v0 4) fun r66 =>
        ck (okA σ r66 17 v1) <|
        ck (¬ gR σ r66 v1.toNatClampNeg = 0) <|
        nm (gR σ r66 v1.toNatClampNeg) fun r69 =>
        ck (okO σ r69 8) <|
        ck (¬ gR σ r69 2 = 0) <|
        nm (gR σ r69 2) fun r72 =>
        ck (okO σ r72 3) <|
        if (gI σ r72 1) ≤ 0 then (
          bd (f_X11_refuse v0 (-15 : Int32) σ) fun x77 σ76 =>
          some (x77, σ76))
        else (
          nm (gR σ v0 4) fun r78 =>
          ck (okA σ r78 17 v1) <|
          ck (¬ gR σ r78 v1.toNatClampNeg = 0) <|
          nm (gR σ r78 v1.toNatClampNeg) fun r81 =>
          ck (okO σ r81 8) <|
          ck (¬ gR σ r81 2 = 0) <|
          nm (gR σ r81 2) fun r84 =>
          ck (okO σ r84 3) <|
          some (gI σ r84 1, σ)))
      else (
        bd (f_X11_refuse v0 (-12 : Int32) σ) fun x88 σ87 =>
        some (x88, σ87))))
set_option maxRecDepth 20000 in
theorem t_X11_toss {G : Gl} {xr : Int32} {σr : Sg} {v0 : Nat} {v1 : Int32} {σ : Sg} (h : f_X11_toss v0 v1 σ = some (xr, σr)) : MT G M_X11_toss [.ref v0, .int v1] σ (some (.int xr)) σr := by
  refine MT_of rfl rfl (Nat.le_of_ble_eq_true rfl) ?_
  show RN G M_X11_toss 0 [some (.ref v0), some (.int v1)] [] σ (.inl (some (.int xr))) σr
  unfold f_X11_toss at h
  refine RN_iload_n (pc := 0) (k := 1) (by decide +kernel) rfl rfl ?_
  obtain ⟨x50, f49, h⟩ := bp_el h
  refine RN_callS (M := M_X11_toss) (pc := 1) (idx := 253) (as := [.int v1]) (st := []) (t_X11_isTape f49) (by decide +kernel) lk_RX11_253 rfl (Nat.le_of_ble_eq_true rfl) ⟨Nat.le_of_ble_eq_true rfl, Nat.le_of_ble_eq_true rfl⟩ rfl ?_
  show RN G M_X11_toss 4 [some (.ref v0), some (.int v1)] [.int x50] σ _ _
  refine RN_if_ne (pc := 4) (off := 5) (tgt := 9) (by decide +kernel) (by decide) (fun c51 => ?_) (fun c51 => ?_)
  · replace h := it_f c51 h
    refine RN_aload_n (pc := 9) (k := 0) (by decide +kernel) rfl rfl ?_
    obtain ⟨c52, h⟩ := ck_el h
    obtain ⟨c53, h⟩ := ck_el h
    refine RN_getR (pc := 10) (idx := 38) (ci := 10) (k := 4) (by decide +kernel) lf_RX11_38 rfl c52 c53 ?_
    obtain ⟨r54, er54, h⟩ := nm_el h
    refine RN_nmR er54 ?_
    refine RN_iload_n (pc := 13) (k := 1) (by decide +kernel) rfl rfl ?_
    obtain ⟨c55, h⟩ := ck_el h
    obtain ⟨c56, h⟩ := ck_el h
    refine RN_aald17 (pc := 14) (by decide +kernel) c55 c56 ?_
    obtain ⟨r57, er57, h⟩ := nm_el h
    refine RN_nmR er57 ?_
    obtain ⟨c58, h⟩ := ck_el h
    refine RN_getI (pc := 15) (idx := 262) (ci := 8) (k := 0) (by decide +kernel) lf_RX11_262 (Or.inl rfl) c58 ?_
    refine RN_if_ne (pc := 18) (off := 10) (tgt := 28) (by decide +kernel) (by decide) (fun c59 => ?_) (fun c59 => ?_)
    · replace h := it_f c59 h
      refine RN_aload_n (pc := 28) (k := 0) (by decide +kernel) rfl rfl ?_
      refine RN_getR (pc := 29) (idx := 38) (ci := 10) (k := 4) (by decide +kernel) lf_RX11_38 rfl c52 c53 ?_
      obtain ⟨r60, er60, h⟩ := nm_el h
      refine RN_nmR er60 ?_
      refine RN_iload_n (pc := 32) (k := 1) (by decide +kernel) rfl rfl ?_
      obtain ⟨c61, h⟩ := ck_el h
      obtain ⟨c62, h⟩ := ck_el h
      refine RN_aald17 (pc := 33) (by decide +kernel) c61 c62 ?_
      obtain ⟨r63, er63, h⟩ := nm_el h
      refine RN_nmR er63 ?_
      obtain ⟨c64, h⟩ := ck_el h
      refine RN_getI (pc := 34) (idx := 262) (ci := 8) (k := 0) (by decide +kernel) lf_RX11_262 (Or.inl rfl) c64 ?_
      refine RN_iconst (pc := 37) (n := 5) (v := 5) (by decide +kernel) (by decide) ?_
      refine RN_icmp_eq (pc := 38) (off := 10) (tgt := 48) (by decide +kernel) (by decide) (fun c65 => ?_) (fun c65 => ?_)
      · replace h := it_t c65 h
        refine RN_aload_n (pc := 48) (k := 0) (by decide +kernel) rfl rfl ?_
        refine RN_getR (pc := 49) (idx := 38) (ci := 10) (k := 4) (by decide +kernel) lf_RX11_38 rfl c52 c53 ?_
        obtain ⟨r66, er66, h⟩ := nm_el h
        refine RN_nmR er66 ?_
        refine RN_iload_n (pc := 52) (k := 1) (by decide +kernel) rfl rfl ?_
        obtain ⟨c67, h⟩ := ck_el h
        obtain ⟨c68, h⟩ := ck_el h
        refine RN_aald17 (pc := 53) (by decide +kernel) c67 c68 ?_
        obtain ⟨r69, er69, h⟩ := nm_el h
        refine RN_nmR er69 ?_
        obtain ⟨c70, h⟩ := ck_el h
        obtain ⟨c71, h⟩ := ck_el h
        refine RN_getR (pc := 54) (idx := 267) (ci := 8) (k := 2) (by decide +kernel) lf_RX11_267 rfl c70 c71 ?_
        obtain ⟨r72, er72, h⟩ := nm_el h
        refine RN_nmR er72 ?_
        obtain ⟨c73, h⟩ := ck_el h
        refine RN_getI (pc := 57) (idx := 278) (ci := 3) (k := 1) (by decide +kernel) lf_RX11_278 (Or.inl rfl) c73 ?_
        refine RN_if_le (pc := 60) (off := 18) (tgt := 78) (by decide +kernel) (by decide) (fun c74 => ?_) (fun c74 => ?_)
        · replace h := it_t c74 h
          refine RN_aload_n (pc := 78) (k := 0) (by decide +kernel) rfl rfl ?_
          refine RN_bipush (pc := 79) (n := -15) (v := -15) (by decide +kernel) (by decide) ?_
          obtain ⟨x77, σ76, f75, h⟩ := bd_el h
          refine RN_callV (M := M_X11_toss) (pc := 81) (idx := 256) (as := [.int (-15 : Int32)]) (st := []) (t_X11_refuse f75) (by decide +kernel) lk_RX11_256 rfl ⟨by decide, fun q hq => by cases hq; rfl⟩ c52 (Nat.le_of_ble_eq_true rfl) ⟨Nat.le_of_ble_eq_true rfl, Nat.le_of_ble_eq_true rfl⟩ rfl ?_
          show RN G M_X11_toss 84 [some (.ref v0), some (.int v1)] [.int x77] σ76 _ _
          obtain ⟨rfl, rfl⟩ := some_el2 h
          exact RN_ireturn (by decide +kernel) rfl
        · replace h := it_f c74 h
          refine RN_aload_n (pc := 63) (k := 0) (by decide +kernel) rfl rfl ?_
          refine RN_getR (pc := 64) (idx := 38) (ci := 10) (k := 4) (by decide +kernel) lf_RX11_38 rfl c52 c53 ?_
          obtain ⟨r78, er78, h⟩ := nm_el h
          refine RN_nmR er78 ?_
          refine RN_iload_n (pc := 67) (k := 1) (by decide +kernel) rfl rfl ?_
          obtain ⟨c79, h⟩ := ck_el h
          obtain ⟨c80, h⟩ := ck_el h
          refine RN_aald17 (pc := 68) (by decide +kernel) c79 c80 ?_
          obtain ⟨r81, er81, h⟩ := nm_el h
          refine RN_nmR er81 ?_
          obtain ⟨c82, h⟩ := ck_el h
          obtain ⟨c83, h⟩ := ck_el h
          refine RN_getR (pc := 69) (idx := 267) (ci := 8) (k := 2) (by decide +kernel) lf_RX11_267 rfl c82 c83 ?_
          obtain ⟨r84, er84, h⟩ := nm_el h
          refine RN_nmR er84 ?_
          obtain ⟨c85, h⟩ := ck_el h
          refine RN_getI (pc := 72) (idx := 278) (ci := 3) (k := 1) (by decide +kernel) lf_RX11_278 (Or.inl rfl) c85 ?_
          refine RN_goto (pc := 75) (off := 9) (tgt := 84) (by decide +kernel) (by decide) ?_
          obtain ⟨rfl, rfl⟩ := some_el2 h
          exact RN_ireturn (by decide +kernel) rfl
      · replace h := it_f c65 h
        refine RN_aload_n (pc := 41) (k := 0) (by decide +kernel) rfl rfl ?_
        refine RN_bipush (pc := 42) (n := -12) (v := -12) (by decide +kernel) (by decide) ?_
        obtain ⟨x88, σ87, f86, h⟩ := bd_el h
        refine RN_callV (M := M_X11_toss) (pc := 44) (idx := 256) (as := [.int (-12 : Int32)]) (st := []) (t_X11_refuse f86) (by decide +kernel) lk_RX11_256 rfl ⟨by decide, fun q hq => by cases hq; rfl⟩ c52 (Nat.le_of_ble_eq_true rfl) ⟨Nat.le_of_ble_eq_true rfl, Nat.le_of_ble_eq_true rfl⟩ rfl ?_
        show RN G M_X11_toss 47 [some (.ref v0), some (.int v1)] [.int x88] σ87 _ _
        obtain ⟨rfl, rfl⟩ := some_el2 h
        exact RN_ireturn (by decide +kernel) rfl
    · replace h := it_t c59 h
      refine RN_aload_n (pc := 21) (k := 0) (by decide +kernel) rfl rfl ?_
      refine RN_bipush (pc := 22) (n := -11) (v := -11) (by decide +kernel) (by decide) ?_
      obtain ⟨x91, σ90, f89, h⟩ := bd_el h
      refine RN_callV (M := M_X11_toss) (pc := 24) (idx := 256) (as := [.int (-11 : Int32)]) (st := []) (t_X11_refuse f89) (by decide +kernel) lk_RX11_256 rfl ⟨by decide, fun q hq => by cases hq; rfl⟩ c52 (Nat.le_of_ble_eq_true rfl) ⟨Nat.le_of_ble_eq_true rfl, Nat.le_of_ble_eq_true rfl⟩ rfl ?_
      show RN G M_X11_toss 27 [some (.ref v0), some (.int v1)] [.int x91] σ90 _ _
      obtain ⟨rfl, rfl⟩ := some_el2 h
      exact RN_ireturn (by decide +kernel) rfl
  · replace h := it_t c51 h
    refine RN_iconst (pc := 7) (n := -1) (v := -1) (by decide +kernel) (by decide) ?_
    obtain ⟨rfl, rfl⟩ := some_el2 h
    exact RN_ireturn (by decide +kernel) rfl
def b_X11_load_60 (n : Nat) (v0 : Nat) (σ : Sg) : Option (Int32 × Sg) :=
  ck (okO σ v0 10) <|
  bd (f_X11_refuse v0 (-12 : Int32) σ) fun x69 σ68 =>
  some (x69, σ68)
set_option maxRecDepth 20000 in
theorem tb_X11_load_60 {G : Gl} {xr : Int32} {σr : Sg} (n : Nat) (v0 : Nat) (σ : Sg) (h : b_X11_load_60 n v0 σ = some (xr, σr)) : RN G M_X11_load 60 [some (.ref v0)] [] σ (.inl (some (.int xr))) σr := by
  unfold b_X11_load_60 at h
  refine RN_aload_n (pc := 60) (k := 0) (by decide +kernel) rfl rfl ?_
  refine RN_bipush (pc := 61) (n := -12) (v := -12) (by decide +kernel) (by decide) ?_
  obtain ⟨c66, h⟩ := ck_el h
  obtain ⟨x69, σ68, f67, h⟩ := bd_el h
  refine RN_callV (M := M_X11_load) (pc := 63) (idx := 256) (as := [.int (-12 : Int32)]) (st := []) (t_X11_refuse f67) (by decide +kernel) lk_RX11_256 rfl ⟨by decide, fun q hq => by cases hq; rfl⟩ c66 (Nat.le_of_ble_eq_true rfl) ⟨Nat.le_of_ble_eq_true rfl, Nat.le_of_ble_eq_true rfl⟩ rfl ?_
  show RN G M_X11_load 66 [some (.ref v0)] [.int x69] σ68 _ _
  obtain ⟨rfl, rfl⟩ := some_el2 h
  exact RN_ireturn (by decide +kernel) rfl
def b_X11_load_154 (n : Nat) (v0 : Nat) (v3 : Int32) (σ : Sg) : Option (Int32 × Sg) :=
  ck (okO σ v0 10) <|
  ck (¬ gR σ v0 1 = 0) <|
  nm (gR σ v0 1) fun r78 =>
  ck (okO σ r78 0) <|
  nm (pI σ r78 1 v3) fun σ80 =>
  some (v3, σ80)
set_option maxRecDepth 20000 in
theorem tb_X11_load_154 {G : Gl} {xr : Int32} {σr : Sg} (n : Nat) (v0 : Nat) (v3 : Int32) (σ : Sg) (h : b_X11_load_154 n v0 v3 σ = some (xr, σr)) : RN G M_X11_load 154 [some (.ref v0), none, none, some (.int v3)] [] σ (.inl (some (.int xr))) σr := by
  unfold b_X11_load_154 at h
  refine RN_aload_n (pc := 154) (k := 0) (by decide +kernel) rfl rfl ?_
  obtain ⟨c76, h⟩ := ck_el h
  obtain ⟨c77, h⟩ := ck_el h
  refine RN_getR (pc := 155) (idx := 19) (ci := 10) (k := 1) (by decide +kernel) lf_RX11_19 rfl c76 c77 ?_
  obtain ⟨r78, er78, h⟩ := nm_el h
  refine RN_nmR er78 ?_
  refine RN_iload_n (pc := 158) (k := 3) (by decide +kernel) rfl rfl ?_
  obtain ⟨c79, h⟩ := ck_el h
  refine RN_putI (pc := 159) (idx := 72) (ci := 0) (k := 1) (by decide +kernel) lf_RX11_72 rfl (fun q hq => by cases hq; exact Or.inl rfl) c79 ?_
  obtain ⟨σ80, eσ80, h⟩ := nm_el h
  refine RN_nmS eσ80 ?_
  refine RN_iload_n (pc := 162) (k := 3) (by decide +kernel) rfl rfl ?_
  obtain ⟨rfl, rfl⟩ := some_el2 h
  exact RN_ireturn (by decide +kernel) rfl
def b_X11_load_121 : Nat → Nat → Int32 → Int32 → Nat → Int32 → Sg → Option (Int32 × Sg)
  | 0, _, _, _, _, _, _ => none
  | n + 1, v0, v2, v3, v4, v5, σ =>
  if v3 ≤ v5 then (
    b_X11_load_154 n v0 v3 σ)
  else (
    ck (okO σ v0 10) <|
    ck (¬ gR σ v0 1 = 0) <|
    nm (gR σ v0 1) fun r83 =>
    ck (okO σ r83 0) <|
    ck (¬ gR σ r83 0 = 0) <|
    nm (gR σ r83 0) fun r86 =>
    ck (okO σ v4 8) <|
    ck (¬ gR σ v4 1 = 0) <|
    nm (gR σ v4 1) fun r89 =>
    ck (okA σ r89 14 (v2 + v5)) <|
    ck (okW σ r86 13 v5) <|
    nm (pI σ r86 v5.toNatClampNeg ((gJ σ r89 (v2 + v5).toNatClampNeg).toInt32)) fun σ92 =>
    nm (v5 + (1 : Int32)) fun x93 =>
    b_X11_load_121 n v0 v2 v3 v4 x93 σ92)
set_option maxRecDepth 20000 in
theorem tb_X11_load_121 {G : Gl} {xr : Int32} {σr : Sg} (v0 : Nat) (v2 : Int32) (v3 : Int32) (v4 : Nat) : ∀ (n : Nat) (v5 : Int32) (σ : Sg), b_X11_load_121 n v0 v2 v3 v4 v5 σ = some (xr, σr) → RN G M_X11_load 121 [some (.ref v0), none, some (.int v2), some (.int v3), some (.ref v4), some (.int v5)] [] σ (.inl (some (.int xr))) σr := by
  intro n
  induction n with
  | zero =>
    intro v5 σ h
    exact none_el h
  | succ n ih =>
    intro v5 σ h
    rw [b_X11_load_121] at h
    refine RN_iload (pc := 121) (i := 5) (by decide +kernel) rfl ?_
    refine RN_iload_n (pc := 123) (k := 3) (by decide +kernel) rfl rfl ?_
    refine RN_icmp_ge (pc := 124) (off := 30) (tgt := 154) (by decide +kernel) (by decide) (fun c75 => ?_) (fun c75 => ?_)
    · replace h := it_t c75 h
      exact RN_weak (l := [some (.ref v0), none, none, some (.int v3)]) (And.intro rfl (And.intro rfl trivial)) (tb_X11_load_154 n v0 v3 σ h)
    · replace h := it_f c75 h
      refine RN_aload_n (pc := 127) (k := 0) (by decide +kernel) rfl rfl ?_
      obtain ⟨c81, h⟩ := ck_el h
      obtain ⟨c82, h⟩ := ck_el h
      refine RN_getR (pc := 128) (idx := 19) (ci := 10) (k := 1) (by decide +kernel) lf_RX11_19 rfl c81 c82 ?_
      obtain ⟨r83, er83, h⟩ := nm_el h
      refine RN_nmR er83 ?_
      obtain ⟨c84, h⟩ := ck_el h
      obtain ⟨c85, h⟩ := ck_el h
      refine RN_getR (pc := 131) (idx := 97) (ci := 0) (k := 0) (by decide +kernel) lf_RX11_97 rfl c84 c85 ?_
      obtain ⟨r86, er86, h⟩ := nm_el h
      refine RN_nmR er86 ?_
      refine RN_iload (pc := 134) (i := 5) (by decide +kernel) rfl ?_
      refine RN_aload (pc := 136) (i := 4) (by decide +kernel) rfl ?_
      obtain ⟨c87, h⟩ := ck_el h
      obtain ⟨c88, h⟩ := ck_el h
      refine RN_getR (pc := 138) (idx := 284) (ci := 8) (k := 1) (by decide +kernel) lf_RX11_284 rfl c87 c88 ?_
      obtain ⟨r89, er89, h⟩ := nm_el h
      refine RN_nmR er89 ?_
      refine RN_iload_n (pc := 141) (k := 2) (by decide +kernel) rfl rfl ?_
      refine RN_iload (pc := 142) (i := 5) (by decide +kernel) rfl ?_
      refine RN_iadd (pc := 144) (by decide +kernel) ?_
      obtain ⟨c90, h⟩ := ck_el h
      refine RN_lald (pc := 145) (by decide +kernel) c90 ?_
      refine RN_l2i (pc := 146) (by decide +kernel) ?_
      obtain ⟨c91, h⟩ := ck_el h
      refine RN_iast (pc := 147) (by decide +kernel) c91 ?_
      obtain ⟨σ92, eσ92, h⟩ := nm_el h
      refine RN_nmS eσ92 ?_
      obtain ⟨x93, ex93, h⟩ := nm_el h
      refine RN_iinc (pc := 148) (i := 5) (n := 1) (v := x93) (ls2 := [some (.ref v0), none, some (.int v2), some (.int v3), some (.ref v4), some (.int x93)]) (by decide +kernel) rfl (by rw [ex93]; rfl) (by decide) rfl ?_
      refine RN_goto (pc := 151) (off := -30) (tgt := 121) (by decide +kernel) (by decide) ?_
      exact RN_weak (l := [some (.ref v0), none, some (.int v2), some (.int v3), some (.ref v4), some (.int x93)]) (And.intro rfl (And.intro rfl (And.intro rfl (And.intro rfl (And.intro rfl trivial))))) (ih x93 σ92 h)
def b_X11_load_118 (n : Nat) (v0 : Nat) (v2 : Int32) (v3 : Int32) (v4 : Nat) (σ : Sg) : Option (Int32 × Sg) :=
  b_X11_load_121 n v0 v2 v3 v4 (0 : Int32) σ
set_option maxRecDepth 20000 in
theorem tb_X11_load_118 {G : Gl} {xr : Int32} {σr : Sg} (n : Nat) (v0 : Nat) (v2 : Int32) (v3 : Int32) (v4 : Nat) (σ : Sg) (h : b_X11_load_118 n v0 v2 v3 v4 σ = some (xr, σr)) : RN G M_X11_load 118 [some (.ref v0), none, some (.int v2), some (.int v3), some (.ref v4)] [] σ (.inl (some (.int xr))) σr := by
  unfold b_X11_load_118 at h
  refine RN_iconst (pc := 118) (n := 0) (v := 0) (by decide +kernel) (by decide) ?_
  refine RN_istore (pc := 119) (i := 5) (ls2 := [some (.ref v0), none, some (.int v2), some (.int v3), some (.ref v4), some (.int (0 : Int32))]) (by decide +kernel) (by decide) rfl ?_
  exact RN_weak (l := [some (.ref v0), none, some (.int v2), some (.int v3), some (.ref v4), some (.int (0 : Int32))]) (And.intro rfl (And.intro rfl (And.intro rfl (And.intro rfl (And.intro rfl trivial))))) (tb_X11_load_121 v0 v2 v3 v4 n (0 : Int32) σ h)
def b_X11_load_87 : Nat → Nat → Int32 → Int32 → Nat → Int32 → Sg → Option (Int32 × Sg)
  | 0, _, _, _, _, _, _ => none
  | n + 1, v0, v2, v3, v4, v5, σ =>
  if v3 ≤ v5 then (
    b_X11_load_118 n v0 v2 v3 v4 σ)
  else (
    ck (okO σ v4 8) <|
    ck (¬ gR σ v4 1 = 0) <|
    nm (gR σ v4 1) fun r96 =>
    ck (okA σ r96 14 (v2 + v5)) <|
    bp (f_X11_isLine (gJ σ r96 (v2 + v5).toNatClampNeg)) fun x99 =>
    if x99 = 0 then (
      some ((-3 : Int32), σ))
    else (
      nm (v5 + (1 : Int32)) fun x101 =>
      b_X11_load_87 n v0 v2 v3 v4 x101 σ))
set_option maxRecDepth 20000 in
theorem tb_X11_load_87 {G : Gl} {xr : Int32} {σr : Sg} (v0 : Nat) (v2 : Int32) (v3 : Int32) (v4 : Nat) (σ : Sg) : ∀ (n : Nat) (v5 : Int32), b_X11_load_87 n v0 v2 v3 v4 v5 σ = some (xr, σr) → RN G M_X11_load 87 [some (.ref v0), none, some (.int v2), some (.int v3), some (.ref v4), some (.int v5)] [] σ (.inl (some (.int xr))) σr := by
  intro n
  induction n with
  | zero =>
    intro v5 h
    exact none_el h
  | succ n ih =>
    intro v5 h
    rw [b_X11_load_87] at h
    refine RN_iload (pc := 87) (i := 5) (by decide +kernel) rfl ?_
    refine RN_iload_n (pc := 89) (k := 3) (by decide +kernel) rfl rfl ?_
    refine RN_icmp_ge (pc := 90) (off := 28) (tgt := 118) (by decide +kernel) (by decide) (fun c74 => ?_) (fun c74 => ?_)
    · replace h := it_t c74 h
      exact RN_weak (l := [some (.ref v0), none, some (.int v2), some (.int v3), some (.ref v4)]) (And.intro rfl (And.intro rfl (And.intro rfl (And.intro rfl trivial)))) (tb_X11_load_118 n v0 v2 v3 v4 σ h)
    · replace h := it_f c74 h
      refine RN_aload (pc := 93) (i := 4) (by decide +kernel) rfl ?_
      obtain ⟨c94, h⟩ := ck_el h
      obtain ⟨c95, h⟩ := ck_el h
      refine RN_getR (pc := 95) (idx := 284) (ci := 8) (k := 1) (by decide +kernel) lf_RX11_284 rfl c94 c95 ?_
      obtain ⟨r96, er96, h⟩ := nm_el h
      refine RN_nmR er96 ?_
      refine RN_iload_n (pc := 98) (k := 2) (by decide +kernel) rfl rfl ?_
      refine RN_iload (pc := 99) (i := 5) (by decide +kernel) rfl ?_
      refine RN_iadd (pc := 101) (by decide +kernel) ?_
      obtain ⟨c97, h⟩ := ck_el h
      refine RN_lald (pc := 102) (by decide +kernel) c97 ?_
      obtain ⟨x99, f98, h⟩ := bp_el h
      refine RN_callS (M := M_X11_load) (pc := 103) (idx := 93) (as := [.long (gJ σ r96 (v2 + v5).toNatClampNeg)]) (st := []) (t_X11_isLine f98) (by decide +kernel) lk_RX11_93 rfl (Nat.le_of_ble_eq_true rfl) ⟨Nat.le_of_ble_eq_true rfl, Nat.le_of_ble_eq_true rfl⟩ rfl ?_
      show RN G M_X11_load 106 [some (.ref v0), none, some (.int v2), some (.int v3), some (.ref v4), some (.int v5)] [.int x99] σ _ _
      refine RN_if_ne (pc := 106) (off := 6) (tgt := 112) (by decide +kernel) (by decide) (fun c100 => ?_) (fun c100 => ?_)
      · replace h := it_f c100 h
        obtain ⟨x101, ex101, h⟩ := nm_el h
        refine RN_iinc (pc := 112) (i := 5) (n := 1) (v := x101) (ls2 := [some (.ref v0), none, some (.int v2), some (.int v3), some (.ref v4), some (.int x101)]) (by decide +kernel) rfl (by rw [ex101]; rfl) (by decide) rfl ?_
        refine RN_goto (pc := 115) (off := -28) (tgt := 87) (by decide +kernel) (by decide) ?_
        exact RN_weak (l := [some (.ref v0), none, some (.int v2), some (.int v3), some (.ref v4), some (.int x101)]) (And.intro rfl (And.intro rfl (And.intro rfl (And.intro rfl (And.intro rfl trivial))))) (ih x101 h)
      · replace h := it_t c100 h
        refine RN_bipush (pc := 109) (n := -3) (v := -3) (by decide +kernel) (by decide) ?_
        obtain ⟨rfl, rfl⟩ := some_el2 h
        exact RN_ireturn (by decide +kernel) rfl
def f_X11_load (n : Nat) (v0 : Nat) (v1 : Int32) (v2 : Int32) (v3 : Int32) (σ : Sg) : Option (Int32 × Sg) :=
  bp (f_X11_isTape v1) fun x53 =>
  if x53 = 0 then (
    some ((-1 : Int32), σ))
  else (
    if v3 < 0 then (
      some ((-1 : Int32), σ))
    else (
      if v3 ≤ (12 : Int32) then (
        ck (okO σ v0 10) <|
        ck (¬ gR σ v0 4 = 0) <|
        nm (gR σ v0 4) fun r59 =>
        ck (okA σ r59 17 v1) <|
        ck (¬ gR σ r59 v1.toNatClampNeg = 0) <|
        nm (gR σ r59 v1.toNatClampNeg) fun r62 =>
        ck (okO σ r62 8) <|
        if (gI σ r62 0) = 0 then (
          bd (f_X11_refuse v0 (-11 : Int32) σ) fun x107 σ106 =>
          some (x107, σ106))
        else (
          if (gI σ r62 0) = (1 : Int32) then (
            b_X11_load_60 n v0 σ)
          else (
            if (gI σ r62 0) = (5 : Int32) then (
              b_X11_load_60 n v0 σ)
            else (
              bp (f_X9_hasPlaces r62 v2 v3 σ) fun x72 =>
              if x72 = 0 then (
                bd (f_X11_refuse v0 (-13 : Int32) σ) fun x104 σ103 =>
                some (x104, σ103))
              else (
                b_X11_load_87 n v0 v2 v3 r62 (0 : Int32) σ)))))
      else (
        some ((-1 : Int32), σ))))
set_option maxRecDepth 20000 in
theorem t_X11_load {G : Gl} {xr : Int32} {σr : Sg} {n : Nat} {v0 : Nat} {v1 : Int32} {v2 : Int32} {v3 : Int32} {σ : Sg} (h : f_X11_load n v0 v1 v2 v3 σ = some (xr, σr)) : MT G M_X11_load [.ref v0, .int v1, .int v2, .int v3] σ (some (.int xr)) σr := by
  refine MT_of rfl rfl (Nat.le_of_ble_eq_true rfl) ?_
  show RN G M_X11_load 0 [some (.ref v0), some (.int v1), some (.int v2), some (.int v3)] [] σ (.inl (some (.int xr))) σr
  unfold f_X11_load at h
  refine RN_iload_n (pc := 0) (k := 1) (by decide +kernel) rfl rfl ?_
  obtain ⟨x53, f52, h⟩ := bp_el h
  refine RN_callS (M := M_X11_load) (pc := 1) (idx := 253) (as := [.int v1]) (st := []) (t_X11_isTape f52) (by decide +kernel) lk_RX11_253 rfl (Nat.le_of_ble_eq_true rfl) ⟨Nat.le_of_ble_eq_true rfl, Nat.le_of_ble_eq_true rfl⟩ rfl ?_
  show RN G M_X11_load 4 [some (.ref v0), some (.int v1), some (.int v2), some (.int v3)] [.int x53] σ _ _
  refine RN_if_eq (pc := 4) (off := 13) (tgt := 17) (by decide +kernel) (by decide) (fun c54 => ?_) (fun c54 => ?_)
  · replace h := it_t c54 h
    refine RN_iconst (pc := 17) (n := -1) (v := -1) (by decide +kernel) (by decide) ?_
    obtain ⟨rfl, rfl⟩ := some_el2 h
    exact RN_ireturn (by decide +kernel) rfl
  · replace h := it_f c54 h
    refine RN_iload_n (pc := 7) (k := 3) (by decide +kernel) rfl rfl ?_
    refine RN_if_lt (pc := 8) (off := 9) (tgt := 17) (by decide +kernel) (by decide) (fun c55 => ?_) (fun c55 => ?_)
    · replace h := it_t c55 h
      refine RN_iconst (pc := 17) (n := -1) (v := -1) (by decide +kernel) (by decide) ?_
      obtain ⟨rfl, rfl⟩ := some_el2 h
      exact RN_ireturn (by decide +kernel) rfl
    · replace h := it_f c55 h
      refine RN_iload_n (pc := 11) (k := 3) (by decide +kernel) rfl rfl ?_
      refine RN_bipush (pc := 12) (n := 12) (v := 12) (by decide +kernel) (by decide) ?_
      refine RN_icmp_le (pc := 14) (off := 5) (tgt := 19) (by decide +kernel) (by decide) (fun c56 => ?_) (fun c56 => ?_)
      · replace h := it_t c56 h
        refine RN_aload_n (pc := 19) (k := 0) (by decide +kernel) rfl rfl ?_
        obtain ⟨c57, h⟩ := ck_el h
        obtain ⟨c58, h⟩ := ck_el h
        refine RN_getR (pc := 20) (idx := 38) (ci := 10) (k := 4) (by decide +kernel) lf_RX11_38 rfl c57 c58 ?_
        obtain ⟨r59, er59, h⟩ := nm_el h
        refine RN_nmR er59 ?_
        refine RN_iload_n (pc := 23) (k := 1) (by decide +kernel) rfl rfl ?_
        obtain ⟨c60, h⟩ := ck_el h
        obtain ⟨c61, h⟩ := ck_el h
        refine RN_aald17 (pc := 24) (by decide +kernel) c60 c61 ?_
        obtain ⟨r62, er62, h⟩ := nm_el h
        refine RN_nmR er62 ?_
        refine RN_astore (pc := 25) (i := 4) (ls2 := [some (.ref v0), some (.int v1), some (.int v2), some (.int v3), some (.ref r62)]) (by decide +kernel) (by decide) rfl ?_
        refine RN_aload (pc := 27) (i := 4) (by decide +kernel) rfl ?_
        obtain ⟨c63, h⟩ := ck_el h
        refine RN_getI (pc := 29) (idx := 262) (ci := 8) (k := 0) (by decide +kernel) lf_RX11_262 (Or.inl rfl) c63 ?_
        refine RN_if_ne (pc := 32) (off := 10) (tgt := 42) (by decide +kernel) (by decide) (fun c64 => ?_) (fun c64 => ?_)
        · replace h := it_f c64 h
          refine RN_aload (pc := 42) (i := 4) (by decide +kernel) rfl ?_
          refine RN_getI (pc := 44) (idx := 262) (ci := 8) (k := 0) (by decide +kernel) lf_RX11_262 (Or.inl rfl) c63 ?_
          refine RN_iconst (pc := 47) (n := 1) (v := 1) (by decide +kernel) (by decide) ?_
          refine RN_icmp_eq (pc := 48) (off := 12) (tgt := 60) (by decide +kernel) (by decide) (fun c65 => ?_) (fun c65 => ?_)
          · replace h := it_t c65 h
            exact RN_weak (l := [some (.ref v0)]) (And.intro rfl trivial) (tb_X11_load_60 n v0 σ h)
          · replace h := it_f c65 h
            refine RN_aload (pc := 51) (i := 4) (by decide +kernel) rfl ?_
            refine RN_getI (pc := 53) (idx := 262) (ci := 8) (k := 0) (by decide +kernel) lf_RX11_262 (Or.inl rfl) c63 ?_
            refine RN_iconst (pc := 56) (n := 5) (v := 5) (by decide +kernel) (by decide) ?_
            refine RN_icmp_ne (pc := 57) (off := 10) (tgt := 67) (by decide +kernel) (by decide) (fun c70 => ?_) (fun c70 => ?_)
            · replace h := it_f c70 h
              refine RN_aload (pc := 67) (i := 4) (by decide +kernel) rfl ?_
              refine RN_iload_n (pc := 69) (k := 2) (by decide +kernel) rfl rfl ?_
              refine RN_iload_n (pc := 70) (k := 3) (by decide +kernel) rfl rfl ?_
              obtain ⟨x72, f71, h⟩ := bp_el h
              refine RN_callV (M := M_X11_load) (pc := 71) (idx := 281) (as := [.int v2, .int v3]) (st := []) (t_X9_hasPlaces f71) (by decide +kernel) lk_RX11_281 rfl ⟨by decide, fun q hq => by cases hq; rfl⟩ c63 (Nat.le_of_ble_eq_true rfl) ⟨Nat.le_of_ble_eq_true rfl, Nat.le_of_ble_eq_true rfl⟩ rfl ?_
              show RN G M_X11_load 74 [some (.ref v0), some (.int v1), some (.int v2), some (.int v3), some (.ref r62)] [.int x72] σ _ _
              refine RN_if_ne (pc := 74) (off := 10) (tgt := 84) (by decide +kernel) (by decide) (fun c73 => ?_) (fun c73 => ?_)
              · replace h := it_f c73 h
                refine RN_iconst (pc := 84) (n := 0) (v := 0) (by decide +kernel) (by decide) ?_
                refine RN_istore (pc := 85) (i := 5) (ls2 := [some (.ref v0), some (.int v1), some (.int v2), some (.int v3), some (.ref r62), some (.int (0 : Int32))]) (by decide +kernel) (by decide) rfl ?_
                exact RN_weak (l := [some (.ref v0), none, some (.int v2), some (.int v3), some (.ref r62), some (.int (0 : Int32))]) (And.intro rfl (And.intro rfl (And.intro rfl (And.intro rfl (And.intro rfl trivial))))) (tb_X11_load_87 v0 v2 v3 r62 σ n (0 : Int32) h)
              · replace h := it_t c73 h
                refine RN_aload_n (pc := 77) (k := 0) (by decide +kernel) rfl rfl ?_
                refine RN_bipush (pc := 78) (n := -13) (v := -13) (by decide +kernel) (by decide) ?_
                obtain ⟨x104, σ103, f102, h⟩ := bd_el h
                refine RN_callV (M := M_X11_load) (pc := 80) (idx := 256) (as := [.int (-13 : Int32)]) (st := []) (t_X11_refuse f102) (by decide +kernel) lk_RX11_256 rfl ⟨by decide, fun q hq => by cases hq; rfl⟩ c57 (Nat.le_of_ble_eq_true rfl) ⟨Nat.le_of_ble_eq_true rfl, Nat.le_of_ble_eq_true rfl⟩ rfl ?_
                show RN G M_X11_load 83 [some (.ref v0), some (.int v1), some (.int v2), some (.int v3), some (.ref r62)] [.int x104] σ103 _ _
                obtain ⟨rfl, rfl⟩ := some_el2 h
                exact RN_ireturn (by decide +kernel) rfl
            · replace h := it_t c70 h
              exact RN_weak (l := [some (.ref v0)]) (And.intro rfl trivial) (tb_X11_load_60 n v0 σ h)
        · replace h := it_t c64 h
          refine RN_aload_n (pc := 35) (k := 0) (by decide +kernel) rfl rfl ?_
          refine RN_bipush (pc := 36) (n := -11) (v := -11) (by decide +kernel) (by decide) ?_
          obtain ⟨x107, σ106, f105, h⟩ := bd_el h
          refine RN_callV (M := M_X11_load) (pc := 38) (idx := 256) (as := [.int (-11 : Int32)]) (st := []) (t_X11_refuse f105) (by decide +kernel) lk_RX11_256 rfl ⟨by decide, fun q hq => by cases hq; rfl⟩ c57 (Nat.le_of_ble_eq_true rfl) ⟨Nat.le_of_ble_eq_true rfl, Nat.le_of_ble_eq_true rfl⟩ rfl ?_
          show RN G M_X11_load 41 [some (.ref v0), some (.int v1), some (.int v2), some (.int v3), some (.ref r62)] [.int x107] σ106 _ _
          obtain ⟨rfl, rfl⟩ := some_el2 h
          exact RN_ireturn (by decide +kernel) rfl
      · replace h := it_f c56 h
        refine RN_iconst (pc := 17) (n := -1) (v := -1) (by decide +kernel) (by decide) ?_
        obtain ⟨rfl, rfl⟩ := some_el2 h
        exact RN_ireturn (by decide +kernel) rfl
def f_X11_clear (v0 : Nat) (v1 : Int32) (σ : Sg) : Option (Int32 × Sg) :=
  bp (f_X11_isTape v1) fun x18 =>
  if x18 = 0 then (
    some ((-1 : Int32), σ))
  else (
    ck (okO σ v0 10) <|
    ck (¬ gR σ v0 4 = 0) <|
    nm (gR σ v0 4) fun r22 =>
    ck (okA σ r22 17 v1) <|
    ck (¬ gR σ r22 v1.toNatClampNeg = 0) <|
    nm (gR σ r22 v1.toNatClampNeg) fun r25 =>
    ck (okO σ r25 8) <|
    nm (gI σ r25 0) fun x27 =>
    nm (gR σ v0 4) fun r28 =>
    ck (okA σ r28 17 v1) <|
    ck (¬ gR σ r28 v1.toNatClampNeg = 0) <|
    nm (gR σ r28 v1.toNatClampNeg) fun r31 =>
    ck (okO σ r31 8) <|
    nm (pI σ r31 0 (0 : Int32)) fun σ33 =>
    some (x27, σ33))
set_option maxRecDepth 20000 in
theorem t_X11_clear {G : Gl} {xr : Int32} {σr : Sg} {v0 : Nat} {v1 : Int32} {σ : Sg} (h : f_X11_clear v0 v1 σ = some (xr, σr)) : MT G M_X11_clear [.ref v0, .int v1] σ (some (.int xr)) σr := by
  refine MT_of rfl rfl (Nat.le_of_ble_eq_true rfl) ?_
  show RN G M_X11_clear 0 [some (.ref v0), some (.int v1)] [] σ (.inl (some (.int xr))) σr
  unfold f_X11_clear at h
  refine RN_iload_n (pc := 0) (k := 1) (by decide +kernel) rfl rfl ?_
  obtain ⟨x18, f17, h⟩ := bp_el h
  refine RN_callS (M := M_X11_clear) (pc := 1) (idx := 253) (as := [.int v1]) (st := []) (t_X11_isTape f17) (by decide +kernel) lk_RX11_253 rfl (Nat.le_of_ble_eq_true rfl) ⟨Nat.le_of_ble_eq_true rfl, Nat.le_of_ble_eq_true rfl⟩ rfl ?_
  show RN G M_X11_clear 4 [some (.ref v0), some (.int v1)] [.int x18] σ _ _
  refine RN_if_ne (pc := 4) (off := 5) (tgt := 9) (by decide +kernel) (by decide) (fun c19 => ?_) (fun c19 => ?_)
  · replace h := it_f c19 h
    refine RN_aload_n (pc := 9) (k := 0) (by decide +kernel) rfl rfl ?_
    obtain ⟨c20, h⟩ := ck_el h
    obtain ⟨c21, h⟩ := ck_el h
    refine RN_getR (pc := 10) (idx := 38) (ci := 10) (k := 4) (by decide +kernel) lf_RX11_38 rfl c20 c21 ?_
    obtain ⟨r22, er22, h⟩ := nm_el h
    refine RN_nmR er22 ?_
    refine RN_iload_n (pc := 13) (k := 1) (by decide +kernel) rfl rfl ?_
    obtain ⟨c23, h⟩ := ck_el h
    obtain ⟨c24, h⟩ := ck_el h
    refine RN_aald17 (pc := 14) (by decide +kernel) c23 c24 ?_
    obtain ⟨r25, er25, h⟩ := nm_el h
    refine RN_nmR er25 ?_
    obtain ⟨c26, h⟩ := ck_el h
    refine RN_getI (pc := 15) (idx := 262) (ci := 8) (k := 0) (by decide +kernel) lf_RX11_262 (Or.inl rfl) c26 ?_
    obtain ⟨x27, ex27, h⟩ := nm_el h
    refine RN_nmI ex27 ?_
    refine RN_istore_n (pc := 18) (k := 2) (ls2 := [some (.ref v0), some (.int v1), some (.int x27)]) (by decide +kernel) rfl (by decide) rfl ?_
    refine RN_aload_n (pc := 19) (k := 0) (by decide +kernel) rfl rfl ?_
    refine RN_getR (pc := 20) (idx := 38) (ci := 10) (k := 4) (by decide +kernel) lf_RX11_38 rfl c20 c21 ?_
    obtain ⟨r28, er28, h⟩ := nm_el h
    refine RN_nmR er28 ?_
    refine RN_iload_n (pc := 23) (k := 1) (by decide +kernel) rfl rfl ?_
    obtain ⟨c29, h⟩ := ck_el h
    obtain ⟨c30, h⟩ := ck_el h
    refine RN_aald17 (pc := 24) (by decide +kernel) c29 c30 ?_
    obtain ⟨r31, er31, h⟩ := nm_el h
    refine RN_nmR er31 ?_
    refine RN_iconst (pc := 25) (n := 0) (v := 0) (by decide +kernel) (by decide) ?_
    obtain ⟨c32, h⟩ := ck_el h
    refine RN_putI (pc := 26) (idx := 262) (ci := 8) (k := 0) (by decide +kernel) lf_RX11_262 rfl (fun q hq => by cases hq; exact Or.inl rfl) c32 ?_
    obtain ⟨σ33, eσ33, h⟩ := nm_el h
    refine RN_nmS eσ33 ?_
    refine RN_iload_n (pc := 29) (k := 2) (by decide +kernel) rfl rfl ?_
    obtain ⟨rfl, rfl⟩ := some_el2 h
    exact RN_ireturn (by decide +kernel) rfl
  · replace h := it_t c19 h
    refine RN_iconst (pc := 7) (n := -1) (v := -1) (by decide +kernel) (by decide) ?_
    obtain ⟨rfl, rfl⟩ := some_el2 h
    exact RN_ireturn (by decide +kernel) rfl
def f_X11_put (v0 : Nat) (v1 : Int32) (v2 : Int32) (v3 : Int64) (σ : Sg) : Option (Int32 × Sg) :=
  bp (f_X11_isTape v1) fun x34 =>
  if x34 = 0 then (
    some ((-1 : Int32), σ))
  else (
    ck (okO σ v0 10) <|
    ck (¬ gR σ v0 4 = 0) <|
    nm (gR σ v0 4) fun r38 =>
    ck (okA σ r38 17 v1) <|
    ck (¬ gR σ r38 v1.toNatClampNeg = 0) <|
    nm (gR σ r38 v1.toNatClampNeg) fun r41 =>
    ck (okO σ r41 8) <|
    if (gI σ r41 0) = 0 then (
      bd (f_X11_refuse v0 (-11 : Int32) σ) fun x62 σ61 =>
      some (x62, σ61))
    else (
      if (gI σ r41 0) = (5 : Int32) then (
        bd (f_X11_refuse v0 (-12 : Int32) σ) fun x59 σ58 =>
        some (x59, σ58))
      else (
        bp (f_X9_hasPlaces r41 v2 (1 : Int32) σ) fun x46 =>
        if x46 = 0 then (
          bd (f_X11_refuse v0 (-13 : Int32) σ) fun x56 σ55 =>
          some (x56, σ55))
        else (
          ck (¬ gR σ r41 1 = 0) <|
          nm (gR σ r41 1) fun r49 =>
          bp (f_X9_narrowed r41 v3 σ) fun x51 =>
          ck (okW σ r49 14 v2) <|
          nm (pJ σ r49 v2.toNatClampNeg x51) fun σ53 =>
          some ((1 : Int32), σ53)))))
set_option maxRecDepth 20000 in
theorem t_X11_put {G : Gl} {xr : Int32} {σr : Sg} {v0 : Nat} {v1 : Int32} {v2 : Int32} {v3 : Int64} {σ : Sg} (h : f_X11_put v0 v1 v2 v3 σ = some (xr, σr)) : MT G M_X11_put [.ref v0, .int v1, .int v2, .long v3] σ (some (.int xr)) σr := by
  refine MT_of rfl rfl (Nat.le_of_ble_eq_true rfl) ?_
  show RN G M_X11_put 0 [some (.ref v0), some (.int v1), some (.int v2), some (.long v3), none] [] σ (.inl (some (.int xr))) σr
  unfold f_X11_put at h
  refine RN_iload_n (pc := 0) (k := 1) (by decide +kernel) rfl rfl ?_
  obtain ⟨x34, f33, h⟩ := bp_el h
  refine RN_callS (M := M_X11_put) (pc := 1) (idx := 253) (as := [.int v1]) (st := []) (t_X11_isTape f33) (by decide +kernel) lk_RX11_253 rfl (Nat.le_of_ble_eq_true rfl) ⟨Nat.le_of_ble_eq_true rfl, Nat.le_of_ble_eq_true rfl⟩ rfl ?_
  show RN G M_X11_put 4 [some (.ref v0), some (.int v1), some (.int v2), some (.long v3), none] [.int x34] σ _ _
  refine RN_if_ne (pc := 4) (off := 5) (tgt := 9) (by decide +kernel) (by decide) (fun c35 => ?_) (fun c35 => ?_)
  · replace h := it_f c35 h
    refine RN_aload_n (pc := 9) (k := 0) (by decide +kernel) rfl rfl ?_
    obtain ⟨c36, h⟩ := ck_el h
    obtain ⟨c37, h⟩ := ck_el h
    refine RN_getR (pc := 10) (idx := 38) (ci := 10) (k := 4) (by decide +kernel) lf_RX11_38 rfl c36 c37 ?_
    obtain ⟨r38, er38, h⟩ := nm_el h
    refine RN_nmR er38 ?_
    refine RN_iload_n (pc := 13) (k := 1) (by decide +kernel) rfl rfl ?_
    obtain ⟨c39, h⟩ := ck_el h
    obtain ⟨c40, h⟩ := ck_el h
    refine RN_aald17 (pc := 14) (by decide +kernel) c39 c40 ?_
    obtain ⟨r41, er41, h⟩ := nm_el h
    refine RN_nmR er41 ?_
    refine RN_astore (pc := 15) (i := 5) (ls2 := [some (.ref v0), some (.int v1), some (.int v2), some (.long v3), none, some (.ref r41)]) (by decide +kernel) (by decide) rfl ?_
    refine RN_aload (pc := 17) (i := 5) (by decide +kernel) rfl ?_
    obtain ⟨c42, h⟩ := ck_el h
    refine RN_getI (pc := 19) (idx := 262) (ci := 8) (k := 0) (by decide +kernel) lf_RX11_262 (Or.inl rfl) c42 ?_
    refine RN_if_ne (pc := 22) (off := 10) (tgt := 32) (by decide +kernel) (by decide) (fun c43 => ?_) (fun c43 => ?_)
    · replace h := it_f c43 h
      refine RN_aload (pc := 32) (i := 5) (by decide +kernel) rfl ?_
      refine RN_getI (pc := 34) (idx := 262) (ci := 8) (k := 0) (by decide +kernel) lf_RX11_262 (Or.inl rfl) c42 ?_
      refine RN_iconst (pc := 37) (n := 5) (v := 5) (by decide +kernel) (by decide) ?_
      refine RN_icmp_ne (pc := 38) (off := 10) (tgt := 48) (by decide +kernel) (by decide) (fun c44 => ?_) (fun c44 => ?_)
      · replace h := it_f c44 h
        refine RN_aload (pc := 48) (i := 5) (by decide +kernel) rfl ?_
        refine RN_iload_n (pc := 50) (k := 2) (by decide +kernel) rfl rfl ?_
        refine RN_iconst (pc := 51) (n := 1) (v := 1) (by decide +kernel) (by decide) ?_
        obtain ⟨x46, f45, h⟩ := bp_el h
        refine RN_callV (M := M_X11_put) (pc := 52) (idx := 281) (as := [.int v2, .int (1 : Int32)]) (st := []) (t_X9_hasPlaces f45) (by decide +kernel) lk_RX11_281 rfl ⟨by decide, fun q hq => by cases hq; rfl⟩ c42 (Nat.le_of_ble_eq_true rfl) ⟨Nat.le_of_ble_eq_true rfl, Nat.le_of_ble_eq_true rfl⟩ rfl ?_
        show RN G M_X11_put 55 [some (.ref v0), some (.int v1), some (.int v2), some (.long v3), none, some (.ref r41)] [.int x46] σ _ _
        refine RN_if_ne (pc := 55) (off := 10) (tgt := 65) (by decide +kernel) (by decide) (fun c47 => ?_) (fun c47 => ?_)
        · replace h := it_f c47 h
          refine RN_aload (pc := 65) (i := 5) (by decide +kernel) rfl ?_
          obtain ⟨c48, h⟩ := ck_el h
          refine RN_getR (pc := 67) (idx := 284) (ci := 8) (k := 1) (by decide +kernel) lf_RX11_284 rfl c42 c48 ?_
          obtain ⟨r49, er49, h⟩ := nm_el h
          refine RN_nmR er49 ?_
          refine RN_iload_n (pc := 70) (k := 2) (by decide +kernel) rfl rfl ?_
          refine RN_aload (pc := 71) (i := 5) (by decide +kernel) rfl ?_
          refine RN_lload_n (pc := 73) (k := 3) (by decide +kernel) rfl rfl ?_
          obtain ⟨x51, f50, h⟩ := bp_el h
          refine RN_callV (M := M_X11_put) (pc := 74) (idx := 287) (as := [.long v3]) (st := [.int v2, .ref r49]) (t_X9_narrowed f50) (by decide +kernel) lk_RX11_287 rfl ⟨by decide, fun q hq => by cases hq; rfl⟩ c42 (Nat.le_of_ble_eq_true rfl) ⟨Nat.le_of_ble_eq_true rfl, Nat.le_of_ble_eq_true rfl⟩ rfl ?_
          show RN G M_X11_put 77 [some (.ref v0), some (.int v1), some (.int v2), some (.long v3), none, some (.ref r41)] [.long x51, .int v2, .ref r49] σ _ _
          obtain ⟨c52, h⟩ := ck_el h
          refine RN_last (pc := 77) (by decide +kernel) c52 ?_
          obtain ⟨σ53, eσ53, h⟩ := nm_el h
          refine RN_nmS eσ53 ?_
          refine RN_iconst (pc := 78) (n := 1) (v := 1) (by decide +kernel) (by decide) ?_
          obtain ⟨rfl, rfl⟩ := some_el2 h
          exact RN_ireturn (by decide +kernel) rfl
        · replace h := it_t c47 h
          refine RN_aload_n (pc := 58) (k := 0) (by decide +kernel) rfl rfl ?_
          refine RN_bipush (pc := 59) (n := -13) (v := -13) (by decide +kernel) (by decide) ?_
          obtain ⟨x56, σ55, f54, h⟩ := bd_el h
          refine RN_callV (M := M_X11_put) (pc := 61) (idx := 256) (as := [.int (-13 : Int32)]) (st := []) (t_X11_refuse f54) (by decide +kernel) lk_RX11_256 rfl ⟨by decide, fun q hq => by cases hq; rfl⟩ c36 (Nat.le_of_ble_eq_true rfl) ⟨Nat.le_of_ble_eq_true rfl, Nat.le_of_ble_eq_true rfl⟩ rfl ?_
          show RN G M_X11_put 64 [some (.ref v0), some (.int v1), some (.int v2), some (.long v3), none, some (.ref r41)] [.int x56] σ55 _ _
          obtain ⟨rfl, rfl⟩ := some_el2 h
          exact RN_ireturn (by decide +kernel) rfl
      · replace h := it_t c44 h
        refine RN_aload_n (pc := 41) (k := 0) (by decide +kernel) rfl rfl ?_
        refine RN_bipush (pc := 42) (n := -12) (v := -12) (by decide +kernel) (by decide) ?_
        obtain ⟨x59, σ58, f57, h⟩ := bd_el h
        refine RN_callV (M := M_X11_put) (pc := 44) (idx := 256) (as := [.int (-12 : Int32)]) (st := []) (t_X11_refuse f57) (by decide +kernel) lk_RX11_256 rfl ⟨by decide, fun q hq => by cases hq; rfl⟩ c36 (Nat.le_of_ble_eq_true rfl) ⟨Nat.le_of_ble_eq_true rfl, Nat.le_of_ble_eq_true rfl⟩ rfl ?_
        show RN G M_X11_put 47 [some (.ref v0), some (.int v1), some (.int v2), some (.long v3), none, some (.ref r41)] [.int x59] σ58 _ _
        obtain ⟨rfl, rfl⟩ := some_el2 h
        exact RN_ireturn (by decide +kernel) rfl
    · replace h := it_t c43 h
      refine RN_aload_n (pc := 25) (k := 0) (by decide +kernel) rfl rfl ?_
      refine RN_bipush (pc := 26) (n := -11) (v := -11) (by decide +kernel) (by decide) ?_
      obtain ⟨x62, σ61, f60, h⟩ := bd_el h
      refine RN_callV (M := M_X11_put) (pc := 28) (idx := 256) (as := [.int (-11 : Int32)]) (st := []) (t_X11_refuse f60) (by decide +kernel) lk_RX11_256 rfl ⟨by decide, fun q hq => by cases hq; rfl⟩ c36 (Nat.le_of_ble_eq_true rfl) ⟨Nat.le_of_ble_eq_true rfl, Nat.le_of_ble_eq_true rfl⟩ rfl ?_
      show RN G M_X11_put 31 [some (.ref v0), some (.int v1), some (.int v2), some (.long v3), none, some (.ref r41)] [.int x62] σ61 _ _
      obtain ⟨rfl, rfl⟩ := some_el2 h
      exact RN_ireturn (by decide +kernel) rfl
  · replace h := it_t c35 h
    refine RN_iconst (pc := 7) (n := -1) (v := -1) (by decide +kernel) (by decide) ?_
    obtain ⟨rfl, rfl⟩ := some_el2 h
    exact RN_ireturn (by decide +kernel) rfl
