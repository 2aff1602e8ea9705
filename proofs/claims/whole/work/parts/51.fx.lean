def b_X11_account_10 (σ : Sg) : Option ((Int64 ⊕ String) × Sg) :=
  some (.inr nIA, nw σ 19 6)
set_option maxRecDepth 20000 in
theorem tb_X11_account_10 {G : Gl} {xr : Int64 ⊕ String} {σr : Sg} (σ : Sg) (h : b_X11_account_10 σ = some (xr, σr)) : RN G M_X11_account 10 [] [] σ (rcJ xr) σr := by
  unfold b_X11_account_10 at h
  obtain ⟨rfl, rfl⟩ := some_el2 h
  exact RN_throwS (pc := 10) (ik := 142) (is := 144) (ic := 146) (cls := nIA) (text := "no such account") (names := xNm) rfl rfl (by decide +kernel) (by decide +kernel) (by decide +kernel) (by decide +kernel) (by decide +kernel) kx_RX11_142 kxi_nIA (by decide) kxa_RX11_146 (by decide +kernel) (by decide +kernel) (by decide) (by decide) (Nat.le_of_ble_eq_true rfl)
def f_X11_account (v0 : Nat) (v1 : Int32) (σ : Sg) : Option ((Int64 ⊕ String) × Sg) :=
  if v1 < 0 then (
    b_X11_account_10 σ)
  else (
    if v1 < (8 : Int32) then (
      ck (okO σ v0 10) <|
      ck (¬ gR σ v0 2 = 0) <|
      nm (gR σ v0 2) fun r12 =>
      ck (okO σ r12 3) <|
      ck (¬ gR σ r12 0 = 0) <|
      nm (gR σ r12 0) fun r15 =>
      ck (okA σ r15 14 v1) <|
      some (.inl (gJ σ r15 v1.toNatClampNeg), σ))
    else (
      b_X11_account_10 σ))
set_option maxRecDepth 20000 in
theorem t_X11_account {G : Gl} {xr : Int64 ⊕ String} {σr : Sg} {v0 : Nat} {v1 : Int32} {σ : Sg} (h : f_X11_account v0 v1 σ = some (xr, σr)) : MX G M_X11_account [.ref v0, .int v1] σ (rcJ xr) σr := by
  refine MX_of rfl rfl (Nat.le_of_ble_eq_true rfl) ?_
  show RN G M_X11_account 0 [some (.ref v0), some (.int v1)] [] σ (rcJ xr) σr
  unfold f_X11_account at h
  refine RN_iload_n (pc := 0) (k := 1) (by decide +kernel) rfl rfl ?_
  refine RN_if_lt (pc := 1) (off := 9) (tgt := 10) (by decide +kernel) (by decide) (fun c8 => ?_) (fun c8 => ?_)
  · replace h := it_t c8 h
    exact RN_weak (l := []) trivial (tb_X11_account_10  σ h)
  · replace h := it_f c8 h
    refine RN_iload_n (pc := 4) (k := 1) (by decide +kernel) rfl rfl ?_
    refine RN_bipush (pc := 5) (n := 8) (v := 8) (by decide +kernel) (by decide) ?_
    refine RN_icmp_lt (pc := 7) (off := 13) (tgt := 20) (by decide +kernel) (by decide) (fun c9 => ?_) (fun c9 => ?_)
    · replace h := it_t c9 h
      refine RN_aload_n (pc := 20) (k := 0) (by decide +kernel) rfl rfl ?_
      obtain ⟨c10, h⟩ := ck_el h
      obtain ⟨c11, h⟩ := ck_el h
      refine RN_getR (pc := 21) (idx := 26) (ci := 10) (k := 2) (by decide +kernel) lf_RX11_26 rfl c10 c11 ?_
      obtain ⟨r12, er12, h⟩ := nm_el h
      refine RN_nmR er12 ?_
      obtain ⟨c13, h⟩ := ck_el h
      obtain ⟨c14, h⟩ := ck_el h
      refine RN_getR (pc := 24) (idx := 149) (ci := 3) (k := 0) (by decide +kernel) lf_RX11_149 rfl c13 c14 ?_
      obtain ⟨r15, er15, h⟩ := nm_el h
      refine RN_nmR er15 ?_
      refine RN_iload_n (pc := 27) (k := 1) (by decide +kernel) rfl rfl ?_
      obtain ⟨c16, h⟩ := ck_el h
      refine RN_lald (pc := 28) (by decide +kernel) c16 ?_
      obtain ⟨rfl, rfl⟩ := some_el2 h
      exact RN_lreturn (by decide +kernel) rfl
    · replace h := it_f c9 h
      exact RN_weak (l := []) trivial (tb_X11_account_10  σ h)
def b_X11_slot_16 (σ : Sg) : Option ((Int64 ⊕ String) × Sg) :=
  some (.inr nIA, nw σ 19 6)
set_option maxRecDepth 20000 in
theorem tb_X11_slot_16 {G : Gl} {xr : Int64 ⊕ String} {σr : Sg} (σ : Sg) (h : b_X11_slot_16 σ = some (xr, σr)) : RN G M_X11_slot 16 [] [] σ (rcJ xr) σr := by
  unfold b_X11_slot_16 at h
  obtain ⟨rfl, rfl⟩ := some_el2 h
  exact RN_throwS (pc := 16) (ik := 142) (is := 153) (ic := 146) (cls := nIA) (text := "no such slot or what") (names := xNm) rfl rfl (by decide +kernel) (by decide +kernel) (by decide +kernel) (by decide +kernel) (by decide +kernel) kx_RX11_142 kxi_nIA (by decide) kxa_RX11_146 (by decide +kernel) (by decide +kernel) (by decide) (by decide) (Nat.le_of_ble_eq_true rfl)
def f_X11_slot (v0 : Nat) (v1 : Int32) (v2 : Int32) (σ : Sg) : Option ((Int64 ⊕ String) × Sg) :=
  bp (f_X11_isSlot v1) fun x25 =>
  if x25 = 0 then (
    b_X11_slot_16 σ)
  else (
    if v2 < 0 then (
      b_X11_slot_16 σ)
    else (
      if v2 ≤ (2 : Int32) then (
        if v2 = (2 : Int32) then (
          ck (okO σ v0 10) <|
          ck (¬ gR σ v0 5 = 0) <|
          nm (gR σ v0 5) fun r47 =>
          ck (okO σ r47 4) <|
          ck (¬ gR σ r47 5 = 0) <|
          nm (gR σ r47 5) fun r50 =>
          ck (okA σ r50 15 v1) <|
          if (gI σ r50 v1.toNatClampNeg) = 0 then (
            some (.inl (0 : Int64), σ))
          else (
            some (.inl (1 : Int64), σ)))
        else (
          if v2 = 0 then (
            ck (okO σ v0 10) <|
            ck (¬ gR σ v0 5 = 0) <|
            nm (gR σ v0 5) fun r40 =>
            ck (okO σ r40 4) <|
            ck (¬ gR σ r40 3 = 0) <|
            nm (gR σ r40 3) fun r43 =>
            ck (okA σ r43 14 v1) <|
            some (.inl (gJ σ r43 v1.toNatClampNeg), σ))
          else (
            ck (okO σ v0 10) <|
            ck (¬ gR σ v0 5 = 0) <|
            nm (gR σ v0 5) fun r33 =>
            ck (okO σ r33 4) <|
            ck (¬ gR σ r33 4 = 0) <|
            nm (gR σ r33 4) fun r36 =>
            ck (okA σ r36 14 v1) <|
            some (.inl (gJ σ r36 v1.toNatClampNeg), σ))))
      else (
        b_X11_slot_16 σ)))
set_option maxRecDepth 20000 in
theorem t_X11_slot {G : Gl} {xr : Int64 ⊕ String} {σr : Sg} {v0 : Nat} {v1 : Int32} {v2 : Int32} {σ : Sg} (h : f_X11_slot v0 v1 v2 σ = some (xr, σr)) : MX G M_X11_slot [.ref v0, .int v1, .int v2] σ (rcJ xr) σr := by
  refine MX_of rfl rfl (Nat.le_of_ble_eq_true rfl) ?_
  show RN G M_X11_slot 0 [some (.ref v0), some (.int v1), some (.int v2)] [] σ (rcJ xr) σr
  unfold f_X11_slot at h
  refine RN_iload_n (pc := 0) (k := 1) (by decide +kernel) rfl rfl ?_
  obtain ⟨x25, f24, h⟩ := bp_el h
  refine RN_callS (M := M_X11_slot) (pc := 1) (idx := 111) (as := [.int v1]) (st := []) (t_X11_isSlot f24) (by decide +kernel) lk_RX11_111 rfl (Nat.le_of_ble_eq_true rfl) ⟨Nat.le_of_ble_eq_true rfl, Nat.le_of_ble_eq_true rfl⟩ rfl ?_
  show RN G M_X11_slot 4 [some (.ref v0), some (.int v1), some (.int v2)] [.int x25] σ _ _
  refine RN_if_eq (pc := 4) (off := 12) (tgt := 16) (by decide +kernel) (by decide) (fun c26 => ?_) (fun c26 => ?_)
  · replace h := it_t c26 h
    exact RN_weak (l := []) trivial (tb_X11_slot_16  σ h)
  · replace h := it_f c26 h
    refine RN_iload_n (pc := 7) (k := 2) (by decide +kernel) rfl rfl ?_
    refine RN_if_lt (pc := 8) (off := 8) (tgt := 16) (by decide +kernel) (by decide) (fun c27 => ?_) (fun c27 => ?_)
    · replace h := it_t c27 h
      exact RN_weak (l := []) trivial (tb_X11_slot_16  σ h)
    · replace h := it_f c27 h
      refine RN_iload_n (pc := 11) (k := 2) (by decide +kernel) rfl rfl ?_
      refine RN_iconst (pc := 12) (n := 2) (v := 2) (by decide +kernel) (by decide) ?_
      refine RN_icmp_le (pc := 13) (off := 13) (tgt := 26) (by decide +kernel) (by decide) (fun c28 => ?_) (fun c28 => ?_)
      · replace h := it_t c28 h
        refine RN_iload_n (pc := 26) (k := 2) (by decide +kernel) rfl rfl ?_
        refine RN_iconst (pc := 27) (n := 2) (v := 2) (by decide +kernel) (by decide) ?_
        refine RN_icmp_ne (pc := 28) (off := 21) (tgt := 49) (by decide +kernel) (by decide) (fun c29 => ?_) (fun c29 => ?_)
        · replace h := it_f c29 h
          refine RN_iload_n (pc := 49) (k := 2) (by decide +kernel) rfl rfl ?_
          refine RN_if_ne (pc := 50) (off := 15) (tgt := 65) (by decide +kernel) (by decide) (fun c30 => ?_) (fun c30 => ?_)
          · replace h := it_f c30 h
            refine RN_aload_n (pc := 65) (k := 0) (by decide +kernel) rfl rfl ?_
            obtain ⟨c31, h⟩ := ck_el h
            obtain ⟨c32, h⟩ := ck_el h
            refine RN_getR (pc := 66) (idx := 45) (ci := 10) (k := 5) (by decide +kernel) lf_RX11_45 rfl c31 c32 ?_
            obtain ⟨r33, er33, h⟩ := nm_el h
            refine RN_nmR er33 ?_
            obtain ⟨c34, h⟩ := ck_el h
            obtain ⟨c35, h⟩ := ck_el h
            refine RN_getR (pc := 69) (idx := 162) (ci := 4) (k := 4) (by decide +kernel) lf_RX11_162 rfl c34 c35 ?_
            obtain ⟨r36, er36, h⟩ := nm_el h
            refine RN_nmR er36 ?_
            refine RN_iload_n (pc := 72) (k := 1) (by decide +kernel) rfl rfl ?_
            obtain ⟨c37, h⟩ := ck_el h
            refine RN_lald (pc := 73) (by decide +kernel) c37 ?_
            obtain ⟨rfl, rfl⟩ := some_el2 h
            exact RN_lreturn (by decide +kernel) rfl
          · replace h := it_t c30 h
            refine RN_aload_n (pc := 53) (k := 0) (by decide +kernel) rfl rfl ?_
            obtain ⟨c38, h⟩ := ck_el h
            obtain ⟨c39, h⟩ := ck_el h
            refine RN_getR (pc := 54) (idx := 45) (ci := 10) (k := 5) (by decide +kernel) lf_RX11_45 rfl c38 c39 ?_
            obtain ⟨r40, er40, h⟩ := nm_el h
            refine RN_nmR er40 ?_
            obtain ⟨c41, h⟩ := ck_el h
            obtain ⟨c42, h⟩ := ck_el h
            refine RN_getR (pc := 57) (idx := 159) (ci := 4) (k := 3) (by decide +kernel) lf_RX11_159 rfl c41 c42 ?_
            obtain ⟨r43, er43, h⟩ := nm_el h
            refine RN_nmR er43 ?_
            refine RN_iload_n (pc := 60) (k := 1) (by decide +kernel) rfl rfl ?_
            obtain ⟨c44, h⟩ := ck_el h
            refine RN_lald (pc := 61) (by decide +kernel) c44 ?_
            refine RN_goto (pc := 62) (off := 12) (tgt := 74) (by decide +kernel) (by decide) ?_
            obtain ⟨rfl, rfl⟩ := some_el2 h
            exact RN_lreturn (by decide +kernel) rfl
        · replace h := it_t c29 h
          refine RN_aload_n (pc := 31) (k := 0) (by decide +kernel) rfl rfl ?_
          obtain ⟨c45, h⟩ := ck_el h
          obtain ⟨c46, h⟩ := ck_el h
          refine RN_getR (pc := 32) (idx := 45) (ci := 10) (k := 5) (by decide +kernel) lf_RX11_45 rfl c45 c46 ?_
          obtain ⟨r47, er47, h⟩ := nm_el h
          refine RN_nmR er47 ?_
          obtain ⟨c48, h⟩ := ck_el h
          obtain ⟨c49, h⟩ := ck_el h
          refine RN_getR (pc := 35) (idx := 155) (ci := 4) (k := 5) (by decide +kernel) lf_RX11_155 rfl c48 c49 ?_
          obtain ⟨r50, er50, h⟩ := nm_el h
          refine RN_nmR er50 ?_
          refine RN_iload_n (pc := 38) (k := 1) (by decide +kernel) rfl rfl ?_
          obtain ⟨c51, h⟩ := ck_el h
          refine RN_zald (pc := 39) (by decide +kernel) c51 ?_
          refine RN_if_eq (pc := 40) (off := 7) (tgt := 47) (by decide +kernel) (by decide) (fun c52 => ?_) (fun c52 => ?_)
          · replace h := it_t c52 h
            refine RN_lconst (pc := 47) (n := 0) (v := 0) (by decide +kernel) (by decide) ?_
            obtain ⟨rfl, rfl⟩ := some_el2 h
            exact RN_lreturn (by decide +kernel) rfl
          · replace h := it_f c52 h
            refine RN_lconst (pc := 43) (n := 1) (v := 1) (by decide +kernel) (by decide) ?_
            refine RN_goto (pc := 44) (off := 4) (tgt := 48) (by decide +kernel) (by decide) ?_
            obtain ⟨rfl, rfl⟩ := some_el2 h
            exact RN_lreturn (by decide +kernel) rfl
      · replace h := it_f c28 h
        exact RN_weak (l := []) trivial (tb_X11_slot_16  σ h)
def b_X11_part_10 (σ : Sg) : Option ((Int64 ⊕ String) × Sg) :=
  some (.inr nIA, nw σ 19 6)
set_option maxRecDepth 20000 in
theorem tb_X11_part_10 {G : Gl} {xr : Int64 ⊕ String} {σr : Sg} (σ : Sg) (h : b_X11_part_10 σ = some (xr, σr)) : RN G M_X11_part 10 [] [] σ (rcJ xr) σr := by
  unfold b_X11_part_10 at h
  obtain ⟨rfl, rfl⟩ := some_el2 h
  exact RN_throwS (pc := 10) (ik := 142) (is := 165) (ic := 146) (cls := nIA) (text := "no such part") (names := xNm) rfl rfl (by decide +kernel) (by decide +kernel) (by decide +kernel) (by decide +kernel) (by decide +kernel) kx_RX11_142 kxi_nIA (by decide) kxa_RX11_146 (by decide +kernel) (by decide +kernel) (by decide) (by decide) (Nat.le_of_ble_eq_true rfl)
def f_X11_part (v0 : Nat) (v1 : Int32) (σ : Sg) : Option ((Int64 ⊕ String) × Sg) :=
  if v1 < 0 then (
    b_X11_part_10 σ)
  else (
    if v1 < (8 : Int32) then (
      ck (okO σ v0 10) <|
      ck (¬ gR σ v0 5 = 0) <|
      nm (gR σ v0 5) fun r15 =>
      ck (okO σ r15 4) <|
      ck (¬ gR σ r15 2 = 0) <|
      nm (gR σ r15 2) fun r18 =>
      ck (okO σ r18 6) <|
      ck (¬ gR σ r18 0 = 0) <|
      nm (gR σ r18 0) fun r21 =>
      ck (okA σ r21 14 v1) <|
      some (.inl (gJ σ r21 v1.toNatClampNeg), σ))
    else (
      b_X11_part_10 σ))
set_option maxRecDepth 20000 in
theorem t_X11_part {G : Gl} {xr : Int64 ⊕ String} {σr : Sg} {v0 : Nat} {v1 : Int32} {σ : Sg} (h : f_X11_part v0 v1 σ = some (xr, σr)) : MX G M_X11_part [.ref v0, .int v1] σ (rcJ xr) σr := by
  refine MX_of rfl rfl (Nat.le_of_ble_eq_true rfl) ?_
  show RN G M_X11_part 0 [some (.ref v0), some (.int v1)] [] σ (rcJ xr) σr
  unfold f_X11_part at h
  refine RN_iload_n (pc := 0) (k := 1) (by decide +kernel) rfl rfl ?_
  refine RN_if_lt (pc := 1) (off := 9) (tgt := 10) (by decide +kernel) (by decide) (fun c11 => ?_) (fun c11 => ?_)
  · replace h := it_t c11 h
    exact RN_weak (l := []) trivial (tb_X11_part_10  σ h)
  · replace h := it_f c11 h
    refine RN_iload_n (pc := 4) (k := 1) (by decide +kernel) rfl rfl ?_
    refine RN_bipush (pc := 5) (n := 8) (v := 8) (by decide +kernel) (by decide) ?_
    refine RN_icmp_lt (pc := 7) (off := 13) (tgt := 20) (by decide +kernel) (by decide) (fun c12 => ?_) (fun c12 => ?_)
    · replace h := it_t c12 h
      refine RN_aload_n (pc := 20) (k := 0) (by decide +kernel) rfl rfl ?_
      obtain ⟨c13, h⟩ := ck_el h
      obtain ⟨c14, h⟩ := ck_el h
      refine RN_getR (pc := 21) (idx := 45) (ci := 10) (k := 5) (by decide +kernel) lf_RX11_45 rfl c13 c14 ?_
      obtain ⟨r15, er15, h⟩ := nm_el h
      refine RN_nmR er15 ?_
      obtain ⟨c16, h⟩ := ck_el h
      obtain ⟨c17, h⟩ := ck_el h
      refine RN_getR (pc := 24) (idx := 167) (ci := 4) (k := 2) (by decide +kernel) lf_RX11_167 rfl c16 c17 ?_
      obtain ⟨r18, er18, h⟩ := nm_el h
      refine RN_nmR er18 ?_
      obtain ⟨c19, h⟩ := ck_el h
      obtain ⟨c20, h⟩ := ck_el h
      refine RN_getR (pc := 27) (idx := 171) (ci := 6) (k := 0) (by decide +kernel) lf_RX11_171 rfl c19 c20 ?_
      obtain ⟨r21, er21, h⟩ := nm_el h
      refine RN_nmR er21 ?_
      refine RN_iload_n (pc := 30) (k := 1) (by decide +kernel) rfl rfl ?_
      obtain ⟨c22, h⟩ := ck_el h
      refine RN_lald (pc := 31) (by decide +kernel) c22 ?_
      obtain ⟨rfl, rfl⟩ := some_el2 h
      exact RN_lreturn (by decide +kernel) rfl
    · replace h := it_f c12 h
      exact RN_weak (l := []) trivial (tb_X11_part_10  σ h)
def b_X11_got_10 (σ : Sg) : Option ((Int64 ⊕ String) × Sg) :=
  some (.inr nIA, nw σ 19 6)
set_option maxRecDepth 20000 in
theorem tb_X11_got_10 {G : Gl} {xr : Int64 ⊕ String} {σr : Sg} (σ : Sg) (h : b_X11_got_10 σ = some (xr, σr)) : RN G M_X11_got 10 [] [] σ (rcJ xr) σr := by
  unfold b_X11_got_10 at h
  obtain ⟨rfl, rfl⟩ := some_el2 h
  exact RN_throwS (pc := 10) (ik := 142) (is := 176) (ic := 146) (cls := nIA) (text := "no such line") (names := xNm) rfl rfl (by decide +kernel) (by decide +kernel) (by decide +kernel) (by decide +kernel) (by decide +kernel) kx_RX11_142 kxi_nIA (by decide) kxa_RX11_146 (by decide +kernel) (by decide +kernel) (by decide) (by decide) (Nat.le_of_ble_eq_true rfl)
def f_X11_got (v0 : Nat) (v1 : Int32) (σ : Sg) : Option ((Int64 ⊕ String) × Sg) :=
  if v1 < 0 then (
    b_X11_got_10 σ)
  else (
    if v1 < (12 : Int32) then (
      ck (okO σ v0 10) <|
      ck (¬ gR σ v0 5 = 0) <|
      nm (gR σ v0 5) fun r12 =>
      ck (okO σ r12 4) <|
      ck (¬ gR σ r12 6 = 0) <|
      nm (gR σ r12 6) fun r15 =>
      ck (okA σ r15 14 v1) <|
      some (.inl (gJ σ r15 v1.toNatClampNeg), σ))
    else (
      b_X11_got_10 σ))
set_option maxRecDepth 20000 in
theorem t_X11_got {G : Gl} {xr : Int64 ⊕ String} {σr : Sg} {v0 : Nat} {v1 : Int32} {σ : Sg} (h : f_X11_got v0 v1 σ = some (xr, σr)) : MX G M_X11_got [.ref v0, .int v1] σ (rcJ xr) σr := by
  refine MX_of rfl rfl (Nat.le_of_ble_eq_true rfl) ?_
  show RN G M_X11_got 0 [some (.ref v0), some (.int v1)] [] σ (rcJ xr) σr
  unfold f_X11_got at h
  refine RN_iload_n (pc := 0) (k := 1) (by decide +kernel) rfl rfl ?_
  refine RN_if_lt (pc := 1) (off := 9) (tgt := 10) (by decide +kernel) (by decide) (fun c8 => ?_) (fun c8 => ?_)
  · replace h := it_t c8 h
    exact RN_weak (l := []) trivial (tb_X11_got_10  σ h)
  · replace h := it_f c8 h
    refine RN_iload_n (pc := 4) (k := 1) (by decide +kernel) rfl rfl ?_
    refine RN_bipush (pc := 5) (n := 12) (v := 12) (by decide +kernel) (by decide) ?_
    refine RN_icmp_lt (pc := 7) (off := 13) (tgt := 20) (by decide +kernel) (by decide) (fun c9 => ?_) (fun c9 => ?_)
    · replace h := it_t c9 h
      refine RN_aload_n (pc := 20) (k := 0) (by decide +kernel) rfl rfl ?_
      obtain ⟨c10, h⟩ := ck_el h
      obtain ⟨c11, h⟩ := ck_el h
      refine RN_getR (pc := 21) (idx := 45) (ci := 10) (k := 5) (by decide +kernel) lf_RX11_45 rfl c10 c11 ?_
      obtain ⟨r12, er12, h⟩ := nm_el h
      refine RN_nmR er12 ?_
      obtain ⟨c13, h⟩ := ck_el h
      obtain ⟨c14, h⟩ := ck_el h
      refine RN_getR (pc := 24) (idx := 178) (ci := 4) (k := 6) (by decide +kernel) lf_RX11_178 rfl c13 c14 ?_
      obtain ⟨r15, er15, h⟩ := nm_el h
      refine RN_nmR er15 ?_
      refine RN_iload_n (pc := 27) (k := 1) (by decide +kernel) rfl rfl ?_
      obtain ⟨c16, h⟩ := ck_el h
      refine RN_lald (pc := 28) (by decide +kernel) c16 ?_
      obtain ⟨rfl, rfl⟩ := some_el2 h
      exact RN_lreturn (by decide +kernel) rfl
    · replace h := it_f c9 h
      exact RN_weak (l := []) trivial (tb_X11_got_10  σ h)
def b_X11_carried_17 (σ : Sg) : Option ((Int64 ⊕ String) × Sg) :=
  some (.inr nIA, nw σ 19 6)
set_option maxRecDepth 20000 in
theorem tb_X11_carried_17 {G : Gl} {xr : Int64 ⊕ String} {σr : Sg} (σ : Sg) (h : b_X11_carried_17 σ = some (xr, σr)) : RN G M_X11_carried 17 [] [] σ (rcJ xr) σr := by
  unfold b_X11_carried_17 at h
  obtain ⟨rfl, rfl⟩ := some_el2 h
  exact RN_throwS (pc := 17) (ik := 142) (is := 181) (ic := 146) (cls := nIA) (text := "no such program or what") (names := xNm) rfl rfl (by decide +kernel) (by decide +kernel) (by decide +kernel) (by decide +kernel) (by decide +kernel) kx_RX11_142 kxi_nIA (by decide) kxa_RX11_146 (by decide +kernel) (by decide +kernel) (by decide) (by decide) (Nat.le_of_ble_eq_true rfl)
def f_X11_carried (v0 : Nat) (v1 : Int32) (v2 : Int32) (σ : Sg) : Option ((Int64 ⊕ String) × Sg) :=
  ck (okO σ v0 10) <|
  bp (f_X11_isProgram v0 v1 σ) fun x20 =>
  if x20 = 0 then (
    b_X11_carried_17 σ)
  else (
    if v2 < 0 then (
      b_X11_carried_17 σ)
    else (
      if v2 ≤ (1 : Int32) then (
        if v2 = 0 then (
          ck (¬ gR σ v0 3 = 0) <|
          nm (gR σ v0 3) fun r32 =>
          ck (okA σ r32 16 v1) <|
          ck (¬ gR σ r32 v1.toNatClampNeg = 0) <|
          nm (gR σ r32 v1.toNatClampNeg) fun r35 =>
          ck (okO σ r35 5) <|
          some (.inl (gJ σ r35 5), σ))
        else (
          ck (¬ gR σ v0 3 = 0) <|
          nm (gR σ v0 3) fun r26 =>
          ck (okA σ r26 16 v1) <|
          ck (¬ gR σ r26 v1.toNatClampNeg = 0) <|
          nm (gR σ r26 v1.toNatClampNeg) fun r29 =>
          ck (okO σ r29 5) <|
          some (.inl (gJ σ r29 6), σ)))
      else (
        b_X11_carried_17 σ)))
set_option maxRecDepth 20000 in
theorem t_X11_carried {G : Gl} {xr : Int64 ⊕ String} {σr : Sg} {v0 : Nat} {v1 : Int32} {v2 : Int32} {σ : Sg} (h : f_X11_carried v0 v1 v2 σ = some (xr, σr)) : MX G M_X11_carried [.ref v0, .int v1, .int v2] σ (rcJ xr) σr := by
  refine MX_of rfl rfl (Nat.le_of_ble_eq_true rfl) ?_
  show RN G M_X11_carried 0 [some (.ref v0), some (.int v1), some (.int v2)] [] σ (rcJ xr) σr
  unfold f_X11_carried at h
  refine RN_aload_n (pc := 0) (k := 0) (by decide +kernel) rfl rfl ?_
  refine RN_iload_n (pc := 1) (k := 1) (by decide +kernel) rfl rfl ?_
  obtain ⟨c18, h⟩ := ck_el h
  obtain ⟨x20, f19, h⟩ := bp_el h
  refine RN_callV (M := M_X11_carried) (pc := 2) (idx := 108) (as := [.int v1]) (st := []) (t_X11_isProgram f19) (by decide +kernel) lk_RX11_108 rfl ⟨by decide, fun q hq => by cases hq; rfl⟩ c18 (Nat.le_of_ble_eq_true rfl) ⟨Nat.le_of_ble_eq_true rfl, Nat.le_of_ble_eq_true rfl⟩ rfl ?_
  show RN G M_X11_carried 5 [some (.ref v0), some (.int v1), some (.int v2)] [.int x20] σ _ _
  refine RN_if_eq (pc := 5) (off := 12) (tgt := 17) (by decide +kernel) (by decide) (fun c21 => ?_) (fun c21 => ?_)
  · replace h := it_t c21 h
    exact RN_weak (l := []) trivial (tb_X11_carried_17  σ h)
  · replace h := it_f c21 h
    refine RN_iload_n (pc := 8) (k := 2) (by decide +kernel) rfl rfl ?_
    refine RN_if_lt (pc := 9) (off := 8) (tgt := 17) (by decide +kernel) (by decide) (fun c22 => ?_) (fun c22 => ?_)
    · replace h := it_t c22 h
      exact RN_weak (l := []) trivial (tb_X11_carried_17  σ h)
    · replace h := it_f c22 h
      refine RN_iload_n (pc := 12) (k := 2) (by decide +kernel) rfl rfl ?_
      refine RN_iconst (pc := 13) (n := 1) (v := 1) (by decide +kernel) (by decide) ?_
      refine RN_icmp_le (pc := 14) (off := 13) (tgt := 27) (by decide +kernel) (by decide) (fun c23 => ?_) (fun c23 => ?_)
      · replace h := it_t c23 h
        refine RN_iload_n (pc := 27) (k := 2) (by decide +kernel) rfl rfl ?_
        refine RN_if_ne (pc := 28) (off := 15) (tgt := 43) (by decide +kernel) (by decide) (fun c24 => ?_) (fun c24 => ?_)
        · replace h := it_f c24 h
          refine RN_aload_n (pc := 43) (k := 0) (by decide +kernel) rfl rfl ?_
          obtain ⟨c25, h⟩ := ck_el h
          refine RN_getR (pc := 44) (idx := 32) (ci := 10) (k := 3) (by decide +kernel) lf_RX11_32 rfl c18 c25 ?_
          obtain ⟨r26, er26, h⟩ := nm_el h
          refine RN_nmR er26 ?_
          refine RN_iload_n (pc := 47) (k := 1) (by decide +kernel) rfl rfl ?_
          obtain ⟨c27, h⟩ := ck_el h
          obtain ⟨c28, h⟩ := ck_el h
          refine RN_aald16 (pc := 48) (by decide +kernel) c27 c28 ?_
          obtain ⟨r29, er29, h⟩ := nm_el h
          refine RN_nmR er29 ?_
          obtain ⟨c30, h⟩ := ck_el h
          refine RN_getJ (pc := 49) (idx := 187) (ci := 5) (k := 6) (by decide +kernel) lf_RX11_187 rfl c30 ?_
          obtain ⟨rfl, rfl⟩ := some_el2 h
          exact RN_lreturn (by decide +kernel) rfl
        · replace h := it_t c24 h
          refine RN_aload_n (pc := 31) (k := 0) (by decide +kernel) rfl rfl ?_
          obtain ⟨c31, h⟩ := ck_el h
          refine RN_getR (pc := 32) (idx := 32) (ci := 10) (k := 3) (by decide +kernel) lf_RX11_32 rfl c18 c31 ?_
          obtain ⟨r32, er32, h⟩ := nm_el h
          refine RN_nmR er32 ?_
          refine RN_iload_n (pc := 35) (k := 1) (by decide +kernel) rfl rfl ?_
          obtain ⟨c33, h⟩ := ck_el h
          obtain ⟨c34, h⟩ := ck_el h
          refine RN_aald16 (pc := 36) (by decide +kernel) c33 c34 ?_
          obtain ⟨r35, er35, h⟩ := nm_el h
          refine RN_nmR er35 ?_
          obtain ⟨c36, h⟩ := ck_el h
          refine RN_getJ (pc := 37) (idx := 183) (ci := 5) (k := 5) (by decide +kernel) lf_RX11_183 rfl c36 ?_
          refine RN_goto (pc := 40) (off := 12) (tgt := 52) (by decide +kernel) (by decide) ?_
          obtain ⟨rfl, rfl⟩ := some_el2 h
          exact RN_lreturn (by decide +kernel) rfl
      · replace h := it_f c23 h
        exact RN_weak (l := []) trivial (tb_X11_carried_17  σ h)
def b_X11_drift_28 (n : Nat) (σ : Sg) : Option ((Int32 ⊕ String) × Sg) :=
  some (.inr nIA, nw σ 19 6)
set_option maxRecDepth 20000 in
theorem tb_X11_drift_28 {G : Gl} {xr : Int32 ⊕ String} {σr : Sg} (n : Nat) (σ : Sg) (h : b_X11_drift_28 n σ = some (xr, σr)) : RN G M_X11_drift 28 [] [] σ (rcI xr) σr := by
  unfold b_X11_drift_28 at h
  obtain ⟨rfl, rfl⟩ := some_el2 h
  exact RN_throwS (pc := 28) (ik := 142) (is := 207) (ic := 146) (cls := nIA) (text := "no such rate or mode") (names := xNm) rfl rfl (by decide +kernel) (by decide +kernel) (by decide +kernel) (by decide +kernel) (by decide +kernel) kx_RX11_142 kxi_nIA (by decide) kxa_RX11_146 (by decide +kernel) (by decide +kernel) (by decide) (by decide) (Nat.le_of_ble_eq_true rfl)
def b_X11_drift_73 (n : Nat) (σ : Sg) : Option ((Int32 ⊕ String) × Sg) :=
  some (.inr nIA, nw σ 19 6)
set_option maxRecDepth 20000 in
theorem tb_X11_drift_73 {G : Gl} {xr : Int32 ⊕ String} {σr : Sg} (n : Nat) (σ : Sg) (h : b_X11_drift_73 n σ = some (xr, σr)) : RN G M_X11_drift 73 [] [] σ (rcI xr) σr := by
  unfold b_X11_drift_73 at h
  obtain ⟨rfl, rfl⟩ := some_el2 h
  exact RN_throwS (pc := 73) (ik := 142) (is := 209) (ic := 146) (cls := nIA) (text := "no such n, most or what") (names := xNm) rfl rfl (by decide +kernel) (by decide +kernel) (by decide +kernel) (by decide +kernel) (by decide +kernel) kx_RX11_142 kxi_nIA (by decide) kxa_RX11_146 (by decide +kernel) (by decide +kernel) (by decide) (by decide) (Nat.le_of_ble_eq_true rfl)
def b_X11_drift_93 (n : Nat) (v0 : Nat) (v1 : Int32) (v2 : Int32) (v3 : Int32) (v4 : Int32) (s0 : Int32) (σ : Sg) : Option ((Int32 ⊕ String) × Sg) :=
  ck (okO σ v0 10) <|
  ck (¬ gR σ v0 7 = 0) <|
  nm (gR σ v0 7) fun r59 =>
  ck (¬ gR σ v0 0 = 0) <|
  nm (gR σ v0 0) fun r61 =>
  ck (okO σ r61 7) <|
  ck (¬ gR σ r61 0 = 0) <|
  nm (gR σ r61 0) fun r64 =>
  ck (okA σ r64 13 v1) <|
  nm (gR σ v0 0) fun r66 =>
  ck (okO σ r66 7) <|
  ck (¬ gR σ r66 1 = 0) <|
  nm (gR σ r66 1) fun r69 =>
  ck (okA σ r69 13 v1) <|
  ck (okO σ r59 1) <|
  bp (f_X1_measure n r59 (gI σ r64 v1.toNatClampNeg) (gI σ r69 v1.toNatClampNeg) v2 v4 s0 σ) fun σ73 =>
  ck (okO σ73 v0 10) <|
  ck (¬ gR σ73 v0 7 = 0) <|
  nm (gR σ73 v0 7) fun r76 =>
  ck (okO σ73 r76 1) <|
  bd (f_X1_greatest n r76 v3 σ73) fun x80 σ79 =>
  some (.inl (s0 * x80), σ79)
set_option maxRecDepth 20000 in
theorem tb_X11_drift_93 {G : Gl} {xr : Int32 ⊕ String} {σr : Sg} (n : Nat) (v0 : Nat) (v1 : Int32) (v2 : Int32) (v3 : Int32) (v4 : Int32) (s0 : Int32) (σ : Sg) (h : b_X11_drift_93 n v0 v1 v2 v3 v4 s0 σ = some (xr, σr)) : RN G M_X11_drift 93 [some (.ref v0), some (.int v1), some (.int v2), some (.int v3), some (.int v4)] [.int s0] σ (rcI xr) σr := by
  unfold b_X11_drift_93 at h
  refine RN_istore (pc := 93) (i := 6) (ls2 := [some (.ref v0), some (.int v1), some (.int v2), some (.int v3), some (.int v4), none, some (.int s0)]) (by decide +kernel) (by decide) rfl ?_
  refine RN_aload_n (pc := 95) (k := 0) (by decide +kernel) rfl rfl ?_
  obtain ⟨c57, h⟩ := ck_el h
  obtain ⟨c58, h⟩ := ck_el h
  refine RN_getR (pc := 96) (idx := 59) (ci := 10) (k := 7) (by decide +kernel) lf_RX11_59 rfl c57 c58 ?_
  obtain ⟨r59, er59, h⟩ := nm_el h
  refine RN_nmR er59 ?_
  refine RN_aload_n (pc := 99) (k := 0) (by decide +kernel) rfl rfl ?_
  obtain ⟨c60, h⟩ := ck_el h
  refine RN_getR (pc := 100) (idx := 10) (ci := 10) (k := 0) (by decide +kernel) lf_RX11_10 rfl c57 c60 ?_
  obtain ⟨r61, er61, h⟩ := nm_el h
  refine RN_nmR er61 ?_
  obtain ⟨c62, h⟩ := ck_el h
  obtain ⟨c63, h⟩ := ck_el h
  refine RN_getR (pc := 103) (idx := 86) (ci := 7) (k := 0) (by decide +kernel) lf_RX11_86 rfl c62 c63 ?_
  obtain ⟨r64, er64, h⟩ := nm_el h
  refine RN_nmR er64 ?_
  refine RN_iload_n (pc := 106) (k := 1) (by decide +kernel) rfl rfl ?_
  obtain ⟨c65, h⟩ := ck_el h
  refine RN_iald (pc := 107) (by decide +kernel) c65 ?_
  refine RN_aload_n (pc := 108) (k := 0) (by decide +kernel) rfl rfl ?_
  refine RN_getR (pc := 109) (idx := 10) (ci := 10) (k := 0) (by decide +kernel) lf_RX11_10 rfl c57 c60 ?_
  obtain ⟨r66, er66, h⟩ := nm_el h
  refine RN_nmR er66 ?_
  obtain ⟨c67, h⟩ := ck_el h
  obtain ⟨c68, h⟩ := ck_el h
  refine RN_getR (pc := 112) (idx := 90) (ci := 7) (k := 1) (by decide +kernel) lf_RX11_90 rfl c67 c68 ?_
  obtain ⟨r69, er69, h⟩ := nm_el h
  refine RN_nmR er69 ?_
  refine RN_iload_n (pc := 115) (k := 1) (by decide +kernel) rfl rfl ?_
  obtain ⟨c70, h⟩ := ck_el h
  refine RN_iald (pc := 116) (by decide +kernel) c70 ?_
  refine RN_iload_n (pc := 117) (k := 2) (by decide +kernel) rfl rfl ?_
  refine RN_iload (pc := 118) (i := 4) (by decide +kernel) rfl ?_
  refine RN_iload (pc := 120) (i := 6) (by decide +kernel) rfl ?_
  obtain ⟨c71, h⟩ := ck_el h
  obtain ⟨σ73, f72, h⟩ := bp_el h
  refine RN_callV (M := M_X11_drift) (pc := 122) (idx := 211) (as := [.int (gI σ r64 v1.toNatClampNeg), .int (gI σ r69 v1.toNatClampNeg), .int v2, .int v4, .int s0]) (st := []) (t_X1_measure f72) (by decide +kernel) lk_RX11_211 rfl ⟨by decide, fun q hq => by cases hq; rfl⟩ c71 (Nat.le_of_ble_eq_true rfl) ⟨Nat.le_of_ble_eq_true rfl, Nat.le_of_ble_eq_true rfl⟩ rfl ?_
  show RN G M_X11_drift 125 [some (.ref v0), some (.int v1), some (.int v2), some (.int v3), some (.int v4), none, some (.int s0)] [] σ73 _ _
  refine RN_iload (pc := 125) (i := 6) (by decide +kernel) rfl ?_
  refine RN_aload_n (pc := 127) (k := 0) (by decide +kernel) rfl rfl ?_
  obtain ⟨c74, h⟩ := ck_el h
  obtain ⟨c75, h⟩ := ck_el h
  refine RN_getR (pc := 128) (idx := 59) (ci := 10) (k := 7) (by decide +kernel) lf_RX11_59 rfl c74 c75 ?_
  obtain ⟨r76, er76, h⟩ := nm_el h
  refine RN_nmR er76 ?_
  refine RN_iload_n (pc := 131) (k := 3) (by decide +kernel) rfl rfl ?_
  obtain ⟨c77, h⟩ := ck_el h
  obtain ⟨x80, σ79, f78, h⟩ := bd_el h
  refine RN_callV (M := M_X11_drift) (pc := 132) (idx := 215) (as := [.int v3]) (st := [.int s0]) (t_X1_greatest f78) (by decide +kernel) lk_RX11_215 rfl ⟨by decide, fun q hq => by cases hq; rfl⟩ c77 (Nat.le_of_ble_eq_true rfl) ⟨Nat.le_of_ble_eq_true rfl, Nat.le_of_ble_eq_true rfl⟩ rfl ?_
  show RN G M_X11_drift 135 [some (.ref v0), some (.int v1), some (.int v2), some (.int v3), some (.int v4), none, some (.int s0)] [.int x80, .int s0] σ79 _ _
  refine RN_imul (pc := 135) (by decide +kernel) ?_
  obtain ⟨rfl, rfl⟩ := some_el2 h
  exact RN_ireturn (by decide +kernel) rfl
def f_X11_drift (n : Nat) (v0 : Nat) (v1 : Int32) (v2 : Int32) (v3 : Int32) (v4 : Int32) (v5 : Int32) (σ : Sg) : Option ((Int32 ⊕ String) × Sg) :=
  bp (f_X11_isRate v1) fun x37 =>
  if x37 = 0 then (
    b_X11_drift_28 n σ)
  else (
    ck (okO σ v0 10) <|
    ck (¬ gR σ v0 0 = 0) <|
    nm (gR σ v0 0) fun r41 =>
    ck (okO σ r41 7) <|
    ck (¬ gR σ r41 1 = 0) <|
    nm (gR σ r41 1) fun r44 =>
    ck (okA σ r44 13 v1) <|
    if (100 : Int32) < (gI σ r44 v1.toNatClampNeg) then (
      b_X11_drift_28 n σ)
    else (
      bp (f_X11_isMode v2) fun x48 =>
      if x48 = 0 then (
        b_X11_drift_28 n σ)
      else (
        if v3 < (1 : Int32) then (
          b_X11_drift_73 n σ)
        else (
          if (12 : Int32) < v3 then (
            b_X11_drift_73 n σ)
          else (
            if v4 < 0 then (
              b_X11_drift_73 n σ)
            else (
              if (1000 : Int32) < v4 then (
                b_X11_drift_73 n σ)
              else (
                if v5 < 0 then (
                  b_X11_drift_73 n σ)
                else (
                  if v5 ≤ (1 : Int32) then (
                    if v5 = 0 then (
                      b_X11_drift_93 n v0 v1 v2 v3 v4 (1 : Int32) σ)
                    else (
                      b_X11_drift_93 n v0 v1 v2 v3 v4 (-1 : Int32) σ))
                  else (
                    b_X11_drift_73 n σ)))))))))
set_option maxRecDepth 20000 in
theorem t_X11_drift {G : Gl} {xr : Int32 ⊕ String} {σr : Sg} {n : Nat} {v0 : Nat} {v1 : Int32} {v2 : Int32} {v3 : Int32} {v4 : Int32} {v5 : Int32} {σ : Sg} (h : f_X11_drift n v0 v1 v2 v3 v4 v5 σ = some (xr, σr)) : MX G M_X11_drift [.ref v0, .int v1, .int v2, .int v3, .int v4, .int v5] σ (rcI xr) σr := by
  refine MX_of rfl rfl (Nat.le_of_ble_eq_true rfl) ?_
  show RN G M_X11_drift 0 [some (.ref v0), some (.int v1), some (.int v2), some (.int v3), some (.int v4), some (.int v5)] [] σ (rcI xr) σr
  unfold f_X11_drift at h
  refine RN_iload_n (pc := 0) (k := 1) (by decide +kernel) rfl rfl ?_
  obtain ⟨x37, f36, h⟩ := bp_el h
  refine RN_callS (M := M_X11_drift) (pc := 1) (idx := 82) (as := [.int v1]) (st := []) (t_X11_isRate f36) (by decide +kernel) lk_RX11_82 rfl (Nat.le_of_ble_eq_true rfl) ⟨Nat.le_of_ble_eq_true rfl, Nat.le_of_ble_eq_true rfl⟩ rfl ?_
  show RN G M_X11_drift 4 [some (.ref v0), some (.int v1), some (.int v2), some (.int v3), some (.int v4), some (.int v5)] [.int x37] σ _ _
  refine RN_if_eq (pc := 4) (off := 24) (tgt := 28) (by decide +kernel) (by decide) (fun c38 => ?_) (fun c38 => ?_)
  · replace h := it_t c38 h
    exact RN_weak (l := []) trivial (tb_X11_drift_28 n  σ h)
  · replace h := it_f c38 h
    refine RN_aload_n (pc := 7) (k := 0) (by decide +kernel) rfl rfl ?_
    obtain ⟨c39, h⟩ := ck_el h
    obtain ⟨c40, h⟩ := ck_el h
    refine RN_getR (pc := 8) (idx := 10) (ci := 10) (k := 0) (by decide +kernel) lf_RX11_10 rfl c39 c40 ?_
    obtain ⟨r41, er41, h⟩ := nm_el h
    refine RN_nmR er41 ?_
    obtain ⟨c42, h⟩ := ck_el h
    obtain ⟨c43, h⟩ := ck_el h
    refine RN_getR (pc := 11) (idx := 90) (ci := 7) (k := 1) (by decide +kernel) lf_RX11_90 rfl c42 c43 ?_
    obtain ⟨r44, er44, h⟩ := nm_el h
    refine RN_nmR er44 ?_
    refine RN_iload_n (pc := 14) (k := 1) (by decide +kernel) rfl rfl ?_
    obtain ⟨c45, h⟩ := ck_el h
    refine RN_iald (pc := 15) (by decide +kernel) c45 ?_
    refine RN_bipush (pc := 16) (n := 100) (v := 100) (by decide +kernel) (by decide) ?_
    refine RN_icmp_gt (pc := 18) (off := 10) (tgt := 28) (by decide +kernel) (by decide) (fun c46 => ?_) (fun c46 => ?_)
    · replace h := it_t c46 h
      exact RN_weak (l := []) trivial (tb_X11_drift_28 n  σ h)
    · replace h := it_f c46 h
      refine RN_iload_n (pc := 21) (k := 2) (by decide +kernel) rfl rfl ?_
      obtain ⟨x48, f47, h⟩ := bp_el h
      refine RN_callS (M := M_X11_drift) (pc := 22) (idx := 204) (as := [.int v2]) (st := []) (t_X11_isMode f47) (by decide +kernel) lk_RX11_204 rfl (Nat.le_of_ble_eq_true rfl) ⟨Nat.le_of_ble_eq_true rfl, Nat.le_of_ble_eq_true rfl⟩ rfl ?_
      show RN G M_X11_drift 25 [some (.ref v0), some (.int v1), some (.int v2), some (.int v3), some (.int v4), some (.int v5)] [.int x48] σ _ _
      refine RN_if_ne (pc := 25) (off := 13) (tgt := 38) (by decide +kernel) (by decide) (fun c49 => ?_) (fun c49 => ?_)
      · replace h := it_f c49 h
        refine RN_iload_n (pc := 38) (k := 3) (by decide +kernel) rfl rfl ?_
        refine RN_iconst (pc := 39) (n := 1) (v := 1) (by decide +kernel) (by decide) ?_
        refine RN_icmp_lt (pc := 40) (off := 33) (tgt := 73) (by decide +kernel) (by decide) (fun c50 => ?_) (fun c50 => ?_)
        · replace h := it_t c50 h
          exact RN_weak (l := []) trivial (tb_X11_drift_73 n  σ h)
        · replace h := it_f c50 h
          refine RN_iload_n (pc := 43) (k := 3) (by decide +kernel) rfl rfl ?_
          refine RN_bipush (pc := 44) (n := 12) (v := 12) (by decide +kernel) (by decide) ?_
          refine RN_icmp_gt (pc := 46) (off := 27) (tgt := 73) (by decide +kernel) (by decide) (fun c51 => ?_) (fun c51 => ?_)
          · replace h := it_t c51 h
            exact RN_weak (l := []) trivial (tb_X11_drift_73 n  σ h)
          · replace h := it_f c51 h
            refine RN_iload (pc := 49) (i := 4) (by decide +kernel) rfl ?_
            refine RN_if_lt (pc := 51) (off := 22) (tgt := 73) (by decide +kernel) (by decide) (fun c52 => ?_) (fun c52 => ?_)
            · replace h := it_t c52 h
              exact RN_weak (l := []) trivial (tb_X11_drift_73 n  σ h)
            · replace h := it_f c52 h
              refine RN_iload (pc := 54) (i := 4) (by decide +kernel) rfl ?_
              refine RN_sipush (pc := 56) (n := 1000) (v := 1000) (by decide +kernel) (by decide) ?_
              refine RN_icmp_gt (pc := 59) (off := 14) (tgt := 73) (by decide +kernel) (by decide) (fun c53 => ?_) (fun c53 => ?_)
              · replace h := it_t c53 h
                exact RN_weak (l := []) trivial (tb_X11_drift_73 n  σ h)
              · replace h := it_f c53 h
                refine RN_iload (pc := 62) (i := 5) (by decide +kernel) rfl ?_
                refine RN_if_lt (pc := 64) (off := 9) (tgt := 73) (by decide +kernel) (by decide) (fun c54 => ?_) (fun c54 => ?_)
                · replace h := it_t c54 h
                  exact RN_weak (l := []) trivial (tb_X11_drift_73 n  σ h)
                · replace h := it_f c54 h
                  refine RN_iload (pc := 67) (i := 5) (by decide +kernel) rfl ?_
                  refine RN_iconst (pc := 69) (n := 1) (v := 1) (by decide +kernel) (by decide) ?_
                  refine RN_icmp_le (pc := 70) (off := 13) (tgt := 83) (by decide +kernel) (by decide) (fun c55 => ?_) (fun c55 => ?_)
                  · replace h := it_t c55 h
                    refine RN_iload (pc := 83) (i := 5) (by decide +kernel) rfl ?_
                    refine RN_if_ne (pc := 85) (off := 7) (tgt := 92) (by decide +kernel) (by decide) (fun c56 => ?_) (fun c56 => ?_)
                    · replace h := it_f c56 h
                      refine RN_iconst (pc := 92) (n := -1) (v := -1) (by decide +kernel) (by decide) ?_
                      exact RN_weak (l := [some (.ref v0), some (.int v1), some (.int v2), some (.int v3), some (.int v4)]) (And.intro rfl (And.intro rfl (And.intro rfl (And.intro rfl (And.intro rfl trivial))))) (tb_X11_drift_93 n v0 v1 v2 v3 v4 (-1 : Int32) σ h)
                    · replace h := it_t c56 h
                      refine RN_iconst (pc := 88) (n := 1) (v := 1) (by decide +kernel) (by decide) ?_
                      refine RN_goto (pc := 89) (off := 4) (tgt := 93) (by decide +kernel) (by decide) ?_
                      exact RN_weak (l := [some (.ref v0), some (.int v1), some (.int v2), some (.int v3), some (.int v4)]) (And.intro rfl (And.intro rfl (And.intro rfl (And.intro rfl (And.intro rfl trivial))))) (tb_X11_drift_93 n v0 v1 v2 v3 v4 (1 : Int32) σ h)
                  · replace h := it_f c55 h
                    exact RN_weak (l := []) trivial (tb_X11_drift_73 n  σ h)
      · replace h := it_t c49 h
        exact RN_weak (l := []) trivial (tb_X11_drift_28 n  σ h)
def b_X11_rounded_24 (σ : Sg) : Option ((Int64 ⊕ String) × Sg) :=
  some (.inr nIA, nw σ 19 6)
set_option maxRecDepth 20000 in
theorem tb_X11_rounded_24 {G : Gl} {xr : Int64 ⊕ String} {σr : Sg} (σ : Sg) (h : b_X11_rounded_24 σ = some (xr, σr)) : RN G M_X11_rounded 24 [] [] σ (rcJ xr) σr := by
  unfold b_X11_rounded_24 at h
  obtain ⟨rfl, rfl⟩ := some_el2 h
  exact RN_throwS (pc := 24) (ik := 142) (is := 239) (ic := 146) (cls := nIA) (text := "no such d or m") (names := xNm) rfl rfl (by decide +kernel) (by decide +kernel) (by decide +kernel) (by decide +kernel) (by decide +kernel) kx_RX11_142 kxi_nIA (by decide) kxa_RX11_146 (by decide +kernel) (by decide +kernel) (by decide) (by decide) (Nat.le_of_ble_eq_true rfl)
def b_X11_rounded_58 (σ : Sg) : Option ((Int64 ⊕ String) × Sg) :=
  some (.inr nIA, nw σ 19 6)
set_option maxRecDepth 20000 in
theorem tb_X11_rounded_58 {G : Gl} {xr : Int64 ⊕ String} {σr : Sg} (σ : Sg) (h : b_X11_rounded_58 σ = some (xr, σr)) : RN G M_X11_rounded 58 [] [] σ (rcJ xr) σr := by
  unfold b_X11_rounded_58 at h
  obtain ⟨rfl, rfl⟩ := some_el2 h
  exact RN_throwS (pc := 58) (ik := 142) (is := 245) (ic := 146) (cls := nIA) (text := "no such n or mode") (names := xNm) rfl rfl (by decide +kernel) (by decide +kernel) (by decide +kernel) (by decide +kernel) (by decide +kernel) kx_RX11_142 kxi_nIA (by decide) kxa_RX11_146 (by decide +kernel) (by decide +kernel) (by decide) (by decide) (Nat.le_of_ble_eq_true rfl)
def f_X11_rounded (v0 : Nat) (v1 : Int64) (v3 : Int32) (v4 : Int32) (v5 : Int32) (σ : Sg) : Option ((Int64 ⊕ String) × Sg) :=
  if v3 < (1 : Int32) then (
    b_X11_rounded_24 σ)
  else (
    if (1000000 : Int32) < v3 then (
      b_X11_rounded_24 σ)
    else (
      if v4 < (1 : Int32) then (
        b_X11_rounded_24 σ)
      else (
        if v4 ≤ (1000000 : Int32) then (
          if (1000000000000 : Int64) < v1 then (
            b_X11_rounded_58 σ)
          else (
            if v1 < (-1000000000000 : Int64) then (
              b_X11_rounded_58 σ)
            else (
              bp (f_X11_isMode v5) fun x12 =>
              if x12 = 0 then (
                b_X11_rounded_58 σ)
              else (
                bp (f_X3_rounding v1 (v3.toInt64) (v4.toInt64) v5) fun x15 =>
                some (.inl x15, σ)))))
        else (
          b_X11_rounded_24 σ))))
set_option maxRecDepth 20000 in
theorem t_X11_rounded {G : Gl} {xr : Int64 ⊕ String} {σr : Sg} {v0 : Nat} {v1 : Int64} {v3 : Int32} {v4 : Int32} {v5 : Int32} {σ : Sg} (h : f_X11_rounded v0 v1 v3 v4 v5 σ = some (xr, σr)) : MX G M_X11_rounded [.ref v0, .long v1, .int v3, .int v4, .int v5] σ (rcJ xr) σr := by
  refine MX_of rfl rfl (Nat.le_of_ble_eq_true rfl) ?_
  show RN G M_X11_rounded 0 [some (.ref v0), some (.long v1), none, some (.int v3), some (.int v4), some (.int v5)] [] σ (rcJ xr) σr
  unfold f_X11_rounded at h
  refine RN_iload_n (pc := 0) (k := 3) (by decide +kernel) rfl rfl ?_
  refine RN_iconst (pc := 1) (n := 1) (v := 1) (by decide +kernel) (by decide) ?_
  refine RN_icmp_lt (pc := 2) (off := 22) (tgt := 24) (by decide +kernel) (by decide) (fun c5 => ?_) (fun c5 => ?_)
  · replace h := it_t c5 h
    exact RN_weak (l := []) trivial (tb_X11_rounded_24  σ h)
  · replace h := it_f c5 h
    refine RN_iload_n (pc := 5) (k := 3) (by decide +kernel) rfl rfl ?_
    refine RN_ldc (pc := 6) (idx := 238) (v := 1000000) (by decide +kernel) kc_RX11_238 ?_
    refine RN_icmp_gt (pc := 8) (off := 16) (tgt := 24) (by decide +kernel) (by decide) (fun c6 => ?_) (fun c6 => ?_)
    · replace h := it_t c6 h
      exact RN_weak (l := []) trivial (tb_X11_rounded_24  σ h)
    · replace h := it_f c6 h
      refine RN_iload (pc := 11) (i := 4) (by decide +kernel) rfl ?_
      refine RN_iconst (pc := 13) (n := 1) (v := 1) (by decide +kernel) (by decide) ?_
      refine RN_icmp_lt (pc := 14) (off := 10) (tgt := 24) (by decide +kernel) (by decide) (fun c7 => ?_) (fun c7 => ?_)
      · replace h := it_t c7 h
        exact RN_weak (l := []) trivial (tb_X11_rounded_24  σ h)
      · replace h := it_f c7 h
        refine RN_iload (pc := 17) (i := 4) (by decide +kernel) rfl ?_
        refine RN_ldc (pc := 19) (idx := 238) (v := 1000000) (by decide +kernel) kc_RX11_238 ?_
        refine RN_icmp_le (pc := 21) (off := 13) (tgt := 34) (by decide +kernel) (by decide) (fun c8 => ?_) (fun c8 => ?_)
        · replace h := it_t c8 h
          refine RN_lload_n (pc := 34) (k := 1) (by decide +kernel) rfl rfl ?_
          refine RN_ldc2 (pc := 35) (idx := 241) (v := 1000000000000) (by decide +kernel) kc_RX11_241 ?_
          refine RN_lc_gt (pc := 38) (off := 19) (tgt := 58) (by decide +kernel) (by decide +kernel) (by decide) (fun c9 => ?_) (fun c9 => ?_)
          · replace h := it_t c9 h
            exact RN_weak (l := []) trivial (tb_X11_rounded_58  σ h)
          · replace h := it_f c9 h
            refine RN_lload_n (pc := 42) (k := 1) (by decide +kernel) rfl rfl ?_
            refine RN_ldc2 (pc := 43) (idx := 243) (v := -1000000000000) (by decide +kernel) kc_RX11_243 ?_
            refine RN_lc_lt (pc := 46) (off := 11) (tgt := 58) (by decide +kernel) (by decide +kernel) (by decide) (fun c10 => ?_) (fun c10 => ?_)
            · replace h := it_t c10 h
              exact RN_weak (l := []) trivial (tb_X11_rounded_58  σ h)
            · replace h := it_f c10 h
              refine RN_iload (pc := 50) (i := 5) (by decide +kernel) rfl ?_
              obtain ⟨x12, f11, h⟩ := bp_el h
              refine RN_callS (M := M_X11_rounded) (pc := 52) (idx := 204) (as := [.int v5]) (st := []) (t_X11_isMode f11) (by decide +kernel) lk_RX11_204 rfl (Nat.le_of_ble_eq_true rfl) ⟨Nat.le_of_ble_eq_true rfl, Nat.le_of_ble_eq_true rfl⟩ rfl ?_
              show RN G M_X11_rounded 55 [some (.ref v0), some (.long v1), none, some (.int v3), some (.int v4), some (.int v5)] [.int x12] σ _ _
              refine RN_if_ne (pc := 55) (off := 13) (tgt := 68) (by decide +kernel) (by decide) (fun c13 => ?_) (fun c13 => ?_)
              · replace h := it_f c13 h
                refine RN_lload_n (pc := 68) (k := 1) (by decide +kernel) rfl rfl ?_
                refine RN_iload_n (pc := 69) (k := 3) (by decide +kernel) rfl rfl ?_
                refine RN_i2l (pc := 70) (by decide +kernel) ?_
                refine RN_iload (pc := 71) (i := 4) (by decide +kernel) rfl ?_
                refine RN_i2l (pc := 73) (by decide +kernel) ?_
                refine RN_iload (pc := 74) (i := 5) (by decide +kernel) rfl ?_
                obtain ⟨x15, f14, h⟩ := bp_el h
                refine RN_callS (M := M_X11_rounded) (pc := 76) (idx := 247) (as := [.long v1, .long (v3.toInt64), .long (v4.toInt64), .int v5]) (st := []) (t_X3_rounding f14) (by decide +kernel) lk_RX11_247 rfl (Nat.le_of_ble_eq_true rfl) ⟨Nat.le_of_ble_eq_true rfl, Nat.le_of_ble_eq_true rfl⟩ rfl ?_
                show RN G M_X11_rounded 79 [some (.ref v0), some (.long v1), none, some (.int v3), some (.int v4), some (.int v5)] [.long x15] σ _ _
                obtain ⟨rfl, rfl⟩ := some_el2 h
                exact RN_lreturn (by decide +kernel) rfl
              · replace h := it_t c13 h
                exact RN_weak (l := []) trivial (tb_X11_rounded_58  σ h)
        · replace h := it_f c8 h
          exact RN_weak (l := []) trivial (tb_X11_rounded_24  σ h)
def b_X11_at_44 (σ : Sg) : Option ((Int64 ⊕ String) × Sg) :=
  some (.inr nIS, nw σ 19 6)
set_option maxRecDepth 20000 in
theorem tb_X11_at_44 {G : Gl} {xr : Int64 ⊕ String} {σr : Sg} (σ : Sg) (h : b_X11_at_44 σ = some (xr, σr)) : RN G M_X11_at 44 [] [] σ (rcJ xr) σr := by
  unfold b_X11_at_44 at h
  obtain ⟨rfl, rfl⟩ := some_el2 h
  exact RN_throwSW (pc := 44) (ik := 297) (is := 299) (ic := 301) (cls := nIS) (text := "no row with such a place") (names := xNm) rfl rfl (by decide +kernel) (by decide +kernel) (by decide +kernel) (by decide +kernel) (by decide +kernel) kx_RX11_297 kxi_nIS (by decide) kxa_RX11_301 (by decide +kernel) (by decide +kernel) (by decide) (by decide) (Nat.le_of_ble_eq_true rfl)
def f_X11_at (v0 : Nat) (v1 : Int32) (v2 : Int32) (σ : Sg) : Option ((Int64 ⊕ String) × Sg) :=
  bp (f_X11_isTape v1) fun x32 =>
  if x32 = 0 then (
    some (.inr nIA, nw σ 19 6))
  else (
    ck (okO σ v0 10) <|
    ck (¬ gR σ v0 4 = 0) <|
    nm (gR σ v0 4) fun r36 =>
    ck (okA σ r36 17 v1) <|
    ck (¬ gR σ r36 v1.toNatClampNeg = 0) <|
    nm (gR σ r36 v1.toNatClampNeg) fun r39 =>
    ck (okO σ r39 8) <|
    bp (f_X9_isRow r39 σ) fun x42 =>
    if x42 = 0 then (
      b_X11_at_44 σ)
    else (
      nm (gR σ v0 4) fun r44 =>
      ck (okA σ r44 17 v1) <|
      ck (¬ gR σ r44 v1.toNatClampNeg = 0) <|
      nm (gR σ r44 v1.toNatClampNeg) fun r47 =>
      ck (okO σ r47 8) <|
      bp (f_X9_hasPlaces r47 v2 (1 : Int32) σ) fun x50 =>
      if x50 = 0 then (
        b_X11_at_44 σ)
      else (
        nm (gR σ v0 4) fun r52 =>
        ck (okA σ r52 17 v1) <|
        ck (¬ gR σ r52 v1.toNatClampNeg = 0) <|
        nm (gR σ r52 v1.toNatClampNeg) fun r55 =>
        ck (okO σ r55 8) <|
        ck (¬ gR σ r55 1 = 0) <|
        nm (gR σ r55 1) fun r58 =>
        ck (okA σ r58 14 v2) <|
        some (.inl (gJ σ r58 v2.toNatClampNeg), σ))))
set_option maxRecDepth 20000 in
theorem t_X11_at {G : Gl} {xr : Int64 ⊕ String} {σr : Sg} {v0 : Nat} {v1 : Int32} {v2 : Int32} {σ : Sg} (h : f_X11_at v0 v1 v2 σ = some (xr, σr)) : MX G M_X11_at [.ref v0, .int v1, .int v2] σ (rcJ xr) σr := by
  refine MX_of rfl rfl (Nat.le_of_ble_eq_true rfl) ?_
  show RN G M_X11_at 0 [some (.ref v0), some (.int v1), some (.int v2)] [] σ (rcJ xr) σr
  unfold f_X11_at at h
  refine RN_iload_n (pc := 0) (k := 1) (by decide +kernel) rfl rfl ?_
  obtain ⟨x32, f31, h⟩ := bp_el h
  refine RN_callS (M := M_X11_at) (pc := 1) (idx := 253) (as := [.int v1]) (st := []) (t_X11_isTape f31) (by decide +kernel) lk_RX11_253 rfl (Nat.le_of_ble_eq_true rfl) ⟨Nat.le_of_ble_eq_true rfl, Nat.le_of_ble_eq_true rfl⟩ rfl ?_
  show RN G M_X11_at 4 [some (.ref v0), some (.int v1), some (.int v2)] [.int x32] σ _ _
  refine RN_if_ne (pc := 4) (off := 14) (tgt := 18) (by decide +kernel) (by decide) (fun c33 => ?_) (fun c33 => ?_)
  · replace h := it_f c33 h
    refine RN_aload_n (pc := 18) (k := 0) (by decide +kernel) rfl rfl ?_
    obtain ⟨c34, h⟩ := ck_el h
    obtain ⟨c35, h⟩ := ck_el h
    refine RN_getR (pc := 19) (idx := 38) (ci := 10) (k := 4) (by decide +kernel) lf_RX11_38 rfl c34 c35 ?_
    obtain ⟨r36, er36, h⟩ := nm_el h
    refine RN_nmR er36 ?_
    refine RN_iload_n (pc := 22) (k := 1) (by decide +kernel) rfl rfl ?_
    obtain ⟨c37, h⟩ := ck_el h
    obtain ⟨c38, h⟩ := ck_el h
    refine RN_aald17 (pc := 23) (by decide +kernel) c37 c38 ?_
    obtain ⟨r39, er39, h⟩ := nm_el h
    refine RN_nmR er39 ?_
    obtain ⟨c40, h⟩ := ck_el h
    obtain ⟨x42, f41, h⟩ := bp_el h
    refine RN_callV (M := M_X11_at) (pc := 24) (idx := 293) (as := []) (st := []) (t_X9_isRow f41) (by decide +kernel) lk_RX11_293 rfl ⟨by decide, fun q hq => by cases hq; rfl⟩ c40 (Nat.le_of_ble_eq_true rfl) ⟨Nat.le_of_ble_eq_true rfl, Nat.le_of_ble_eq_true rfl⟩ rfl ?_
    show RN G M_X11_at 27 [some (.ref v0), some (.int v1), some (.int v2)] [.int x42] σ _ _
    refine RN_if_eq (pc := 27) (off := 17) (tgt := 44) (by decide +kernel) (by decide) (fun c43 => ?_) (fun c43 => ?_)
    · replace h := it_t c43 h
      exact RN_weak (l := []) trivial (tb_X11_at_44  σ h)
    · replace h := it_f c43 h
      refine RN_aload_n (pc := 30) (k := 0) (by decide +kernel) rfl rfl ?_
      refine RN_getR (pc := 31) (idx := 38) (ci := 10) (k := 4) (by decide +kernel) lf_RX11_38 rfl c34 c35 ?_
      obtain ⟨r44, er44, h⟩ := nm_el h
      refine RN_nmR er44 ?_
      refine RN_iload_n (pc := 34) (k := 1) (by decide +kernel) rfl rfl ?_
      obtain ⟨c45, h⟩ := ck_el h
      obtain ⟨c46, h⟩ := ck_el h
      refine RN_aald17 (pc := 35) (by decide +kernel) c45 c46 ?_
      obtain ⟨r47, er47, h⟩ := nm_el h
      refine RN_nmR er47 ?_
      refine RN_iload_n (pc := 36) (k := 2) (by decide +kernel) rfl rfl ?_
      refine RN_iconst (pc := 37) (n := 1) (v := 1) (by decide +kernel) (by decide) ?_
      obtain ⟨c48, h⟩ := ck_el h
      obtain ⟨x50, f49, h⟩ := bp_el h
      refine RN_callV (M := M_X11_at) (pc := 38) (idx := 281) (as := [.int v2, .int (1 : Int32)]) (st := []) (t_X9_hasPlaces f49) (by decide +kernel) lk_RX11_281 rfl ⟨by decide, fun q hq => by cases hq; rfl⟩ c48 (Nat.le_of_ble_eq_true rfl) ⟨Nat.le_of_ble_eq_true rfl, Nat.le_of_ble_eq_true rfl⟩ rfl ?_
      show RN G M_X11_at 41 [some (.ref v0), some (.int v1), some (.int v2)] [.int x50] σ _ _
      refine RN_if_ne (pc := 41) (off := 14) (tgt := 55) (by decide +kernel) (by decide) (fun c51 => ?_) (fun c51 => ?_)
      · replace h := it_f c51 h
        refine RN_aload_n (pc := 55) (k := 0) (by decide +kernel) rfl rfl ?_
        refine RN_getR (pc := 56) (idx := 38) (ci := 10) (k := 4) (by decide +kernel) lf_RX11_38 rfl c34 c35 ?_
        obtain ⟨r52, er52, h⟩ := nm_el h
        refine RN_nmR er52 ?_
        refine RN_iload_n (pc := 59) (k := 1) (by decide +kernel) rfl rfl ?_
        obtain ⟨c53, h⟩ := ck_el h
        obtain ⟨c54, h⟩ := ck_el h
        refine RN_aald17 (pc := 60) (by decide +kernel) c53 c54 ?_
        obtain ⟨r55, er55, h⟩ := nm_el h
        refine RN_nmR er55 ?_
        obtain ⟨c56, h⟩ := ck_el h
        obtain ⟨c57, h⟩ := ck_el h
        refine RN_getR (pc := 61) (idx := 284) (ci := 8) (k := 1) (by decide +kernel) lf_RX11_284 rfl c56 c57 ?_
        obtain ⟨r58, er58, h⟩ := nm_el h
        refine RN_nmR er58 ?_
        refine RN_iload_n (pc := 64) (k := 2) (by decide +kernel) rfl rfl ?_
        obtain ⟨c59, h⟩ := ck_el h
        refine RN_lald (pc := 65) (by decide +kernel) c59 ?_
        obtain ⟨rfl, rfl⟩ := some_el2 h
        exact RN_lreturn (by decide +kernel) rfl
      · replace h := it_t c51 h
        exact RN_weak (l := []) trivial (tb_X11_at_44  σ h)
  · replace h := it_t c33 h
    obtain ⟨rfl, rfl⟩ := some_el2 h
    exact RN_throwSW (pc := 7) (ik := 142) (is := 291) (ic := 146) (cls := nIA) (text := "no such tape") (names := xNm) rfl rfl (by decide +kernel) (by decide +kernel) (by decide +kernel) (by decide +kernel) (by decide +kernel) kx_RX11_142 kxi_nIA (by decide) kxa_RX11_146 (by decide +kernel) (by decide +kernel) (by decide) (by decide) (Nat.le_of_ble_eq_true rfl)
