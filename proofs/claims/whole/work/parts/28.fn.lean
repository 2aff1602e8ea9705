def f_X11_set (v0 : Nat) (v1 : Int32) (v2 : Int32) (v3 : Int32) (v4 : Int32) (σ : Sg) : Option (Int32 × Sg) :=
  ck (okO σ v0 10) <|
  bp (f_X11_isAct v0 v1 v2 σ) fun x40 =>
  if x40 = 0 then (
    some ((-1 : Int32), σ))
  else (
    ck (¬ gR σ v0 3 = 0) <|
    nm (gR σ v0 3) fun r43 =>
    ck (okA σ r43 16 v1) <|
    ck (¬ gR σ r43 v1.toNatClampNeg = 0) <|
    nm (gR σ r43 v1.toNatClampNeg) fun r46 =>
    ck (okO σ r46 5) <|
    ck (¬ gR σ r46 0 = 0) <|
    nm (gR σ r46 0) fun r49 =>
    ck (okA σ r49 13 v2) <|
    bp (f_X11_fits (gI σ r49 v2.toNatClampNeg) v3 v4 σ) fun x52 =>
    if x52 = 0 then (
      some ((-1 : Int32), σ))
    else (
      nm (gR σ v0 3) fun r54 =>
      ck (okA σ r54 16 v1) <|
      ck (¬ gR σ r54 v1.toNatClampNeg = 0) <|
      nm (gR σ r54 v1.toNatClampNeg) fun r57 =>
      ck (okO σ r57 5) <|
      ck (¬ gR σ r57 2 = 0) <|
      nm (gR σ r57 2) fun r60 =>
      ck (okW σ r60 13 v2) <|
      nm (pI σ r60 v2.toNatClampNeg v3) fun σ62 =>
      ck (okO σ62 v0 10) <|
      ck (¬ gR σ62 v0 3 = 0) <|
      nm (gR σ62 v0 3) fun r65 =>
      ck (okA σ62 r65 16 v1) <|
      ck (¬ gR σ62 r65 v1.toNatClampNeg = 0) <|
      nm (gR σ62 r65 v1.toNatClampNeg) fun r68 =>
      ck (okO σ62 r68 5) <|
      ck (¬ gR σ62 r68 3 = 0) <|
      nm (gR σ62 r68 3) fun r71 =>
      ck (okW σ62 r71 13 v2) <|
      nm (pI σ62 r71 v2.toNatClampNeg v4) fun σ73 =>
      some ((0 : Int32), σ73)))
set_option maxRecDepth 20000 in
theorem t_X11_set {G : Gl} {xr : Int32} {σr : Sg} {v0 : Nat} {v1 : Int32} {v2 : Int32} {v3 : Int32} {v4 : Int32} {σ : Sg} (h : f_X11_set v0 v1 v2 v3 v4 σ = some (xr, σr)) : MT G M_X11_set [.ref v0, .int v1, .int v2, .int v3, .int v4] σ (some (.int xr)) σr := by
  refine MT_of rfl rfl (Nat.le_of_ble_eq_true rfl) ?_
  show RN G M_X11_set 0 [some (.ref v0), some (.int v1), some (.int v2), some (.int v3), some (.int v4)] [] σ (.inl (some (.int xr))) σr
  unfold f_X11_set at h
  refine RN_aload_n (pc := 0) (k := 0) (by decide +kernel) rfl rfl ?_
  refine RN_iload_n (pc := 1) (k := 1) (by decide +kernel) rfl rfl ?_
  refine RN_iload_n (pc := 2) (k := 2) (by decide +kernel) rfl rfl ?_
  obtain ⟨c38, h⟩ := ck_el h
  obtain ⟨x40, f39, h⟩ := bp_el h
  refine RN_callV (M := M_X11_set) (pc := 3) (idx := 131) (as := [.int v1, .int v2]) (st := []) (t_X11_isAct f39) (by decide +kernel) lk_RX11_131 rfl ⟨by decide, fun q hq => by cases hq; rfl⟩ c38 (Nat.le_of_ble_eq_true rfl) ⟨Nat.le_of_ble_eq_true rfl, Nat.le_of_ble_eq_true rfl⟩ rfl ?_
  show RN G M_X11_set 6 [some (.ref v0), some (.int v1), some (.int v2), some (.int v3), some (.int v4)] [.int x40] σ _ _
  refine RN_if_eq (pc := 6) (off := 23) (tgt := 29) (by decide +kernel) (by decide) (fun c41 => ?_) (fun c41 => ?_)
  · replace h := it_t c41 h
    refine RN_iconst (pc := 29) (n := -1) (v := -1) (by decide +kernel) (by decide) ?_
    obtain ⟨rfl, rfl⟩ := some_el2 h
    exact RN_ireturn (by decide +kernel) rfl
  · replace h := it_f c41 h
    refine RN_aload_n (pc := 9) (k := 0) (by decide +kernel) rfl rfl ?_
    obtain ⟨c42, h⟩ := ck_el h
    refine RN_getR (pc := 10) (idx := 32) (ci := 10) (k := 3) (by decide +kernel) lf_RX11_32 rfl c38 c42 ?_
    obtain ⟨r43, er43, h⟩ := nm_el h
    refine RN_nmR er43 ?_
    refine RN_iload_n (pc := 13) (k := 1) (by decide +kernel) rfl rfl ?_
    obtain ⟨c44, h⟩ := ck_el h
    obtain ⟨c45, h⟩ := ck_el h
    refine RN_aald16 (pc := 14) (by decide +kernel) c44 c45 ?_
    obtain ⟨r46, er46, h⟩ := nm_el h
    refine RN_nmR er46 ?_
    obtain ⟨c47, h⟩ := ck_el h
    obtain ⟨c48, h⟩ := ck_el h
    refine RN_getR (pc := 15) (idx := 119) (ci := 5) (k := 0) (by decide +kernel) lf_RX11_119 rfl c47 c48 ?_
    obtain ⟨r49, er49, h⟩ := nm_el h
    refine RN_nmR er49 ?_
    refine RN_iload_n (pc := 18) (k := 2) (by decide +kernel) rfl rfl ?_
    obtain ⟨c50, h⟩ := ck_el h
    refine RN_iald (pc := 19) (by decide +kernel) c50 ?_
    refine RN_iload_n (pc := 20) (k := 3) (by decide +kernel) rfl rfl ?_
    refine RN_iload (pc := 21) (i := 4) (by decide +kernel) rfl ?_
    obtain ⟨x52, f51, h⟩ := bp_el h
    refine RN_callS (M := M_X11_set) (pc := 23) (idx := 114) (as := [.int (gI σ r49 v2.toNatClampNeg), .int v3, .int v4]) (st := []) (t_X11_fits f51) (by decide +kernel) lk_RX11_114 rfl (Nat.le_of_ble_eq_true rfl) ⟨Nat.le_of_ble_eq_true rfl, Nat.le_of_ble_eq_true rfl⟩ rfl ?_
    show RN G M_X11_set 26 [some (.ref v0), some (.int v1), some (.int v2), some (.int v3), some (.int v4)] [.int x52] σ _ _
    refine RN_if_ne (pc := 26) (off := 5) (tgt := 31) (by decide +kernel) (by decide) (fun c53 => ?_) (fun c53 => ?_)
    · replace h := it_f c53 h
      refine RN_aload_n (pc := 31) (k := 0) (by decide +kernel) rfl rfl ?_
      refine RN_getR (pc := 32) (idx := 32) (ci := 10) (k := 3) (by decide +kernel) lf_RX11_32 rfl c38 c42 ?_
      obtain ⟨r54, er54, h⟩ := nm_el h
      refine RN_nmR er54 ?_
      refine RN_iload_n (pc := 35) (k := 1) (by decide +kernel) rfl rfl ?_
      obtain ⟨c55, h⟩ := ck_el h
      obtain ⟨c56, h⟩ := ck_el h
      refine RN_aald16 (pc := 36) (by decide +kernel) c55 c56 ?_
      obtain ⟨r57, er57, h⟩ := nm_el h
      refine RN_nmR er57 ?_
      obtain ⟨c58, h⟩ := ck_el h
      obtain ⟨c59, h⟩ := ck_el h
      refine RN_getR (pc := 37) (idx := 125) (ci := 5) (k := 2) (by decide +kernel) lf_RX11_125 rfl c58 c59 ?_
      obtain ⟨r60, er60, h⟩ := nm_el h
      refine RN_nmR er60 ?_
      refine RN_iload_n (pc := 40) (k := 2) (by decide +kernel) rfl rfl ?_
      refine RN_iload_n (pc := 41) (k := 3) (by decide +kernel) rfl rfl ?_
      obtain ⟨c61, h⟩ := ck_el h
      refine RN_iast (pc := 42) (by decide +kernel) c61 ?_
      obtain ⟨σ62, eσ62, h⟩ := nm_el h
      refine RN_nmS eσ62 ?_
      refine RN_aload_n (pc := 43) (k := 0) (by decide +kernel) rfl rfl ?_
      obtain ⟨c63, h⟩ := ck_el h
      obtain ⟨c64, h⟩ := ck_el h
      refine RN_getR (pc := 44) (idx := 32) (ci := 10) (k := 3) (by decide +kernel) lf_RX11_32 rfl c63 c64 ?_
      obtain ⟨r65, er65, h⟩ := nm_el h
      refine RN_nmR er65 ?_
      refine RN_iload_n (pc := 47) (k := 1) (by decide +kernel) rfl rfl ?_
      obtain ⟨c66, h⟩ := ck_el h
      obtain ⟨c67, h⟩ := ck_el h
      refine RN_aald16 (pc := 48) (by decide +kernel) c66 c67 ?_
      obtain ⟨r68, er68, h⟩ := nm_el h
      refine RN_nmR er68 ?_
      obtain ⟨c69, h⟩ := ck_el h
      obtain ⟨c70, h⟩ := ck_el h
      refine RN_getR (pc := 49) (idx := 128) (ci := 5) (k := 3) (by decide +kernel) lf_RX11_128 rfl c69 c70 ?_
      obtain ⟨r71, er71, h⟩ := nm_el h
      refine RN_nmR er71 ?_
      refine RN_iload_n (pc := 52) (k := 2) (by decide +kernel) rfl rfl ?_
      refine RN_iload (pc := 53) (i := 4) (by decide +kernel) rfl ?_
      obtain ⟨c72, h⟩ := ck_el h
      refine RN_iast (pc := 55) (by decide +kernel) c72 ?_
      obtain ⟨σ73, eσ73, h⟩ := nm_el h
      refine RN_nmS eσ73 ?_
      refine RN_iconst (pc := 56) (n := 0) (v := 0) (by decide +kernel) (by decide) ?_
      obtain ⟨rfl, rfl⟩ := some_el2 h
      exact RN_ireturn (by decide +kernel) rfl
    · replace h := it_t c53 h
      refine RN_iconst (pc := 29) (n := -1) (v := -1) (by decide +kernel) (by decide) ?_
      obtain ⟨rfl, rfl⟩ := some_el2 h
      exact RN_ireturn (by decide +kernel) rfl
def f_X11_told (v0 : Nat) (v1 : Int32) (v2 : Int32) (v3 : Int32) (σ : Sg) : Option Int32 :=
  ck (okO σ v0 10) <|
  bp (f_X11_isAct v0 v1 v2 σ) fun x46 =>
  if x46 = 0 then (
    some (-1 : Int32))
  else (
    if v3 = 0 then (
      ck (¬ gR σ v0 3 = 0) <|
      nm (gR σ v0 3) fun r50 =>
      ck (okA σ r50 16 v1) <|
      ck (¬ gR σ r50 v1.toNatClampNeg = 0) <|
      nm (gR σ r50 v1.toNatClampNeg) fun r53 =>
      ck (okO σ r53 5) <|
      ck (¬ gR σ r53 0 = 0) <|
      nm (gR σ r53 0) fun r56 =>
      ck (okA σ r56 13 v2) <|
      some (gI σ r56 v2.toNatClampNeg))
    else (
    if v3 = 1 then (
      ck (¬ gR σ v0 3 = 0) <|
      nm (gR σ v0 3) fun r60 =>
      ck (okA σ r60 16 v1) <|
      ck (¬ gR σ r60 v1.toNatClampNeg = 0) <|
      nm (gR σ r60 v1.toNatClampNeg) fun r63 =>
      ck (okO σ r63 5) <|
      ck (¬ gR σ r63 1 = 0) <|
      nm (gR σ r63 1) fun r66 =>
      ck (okA σ r66 13 v2) <|
      some (gI σ r66 v2.toNatClampNeg))
    else (
    if v3 = 2 then (
      ck (¬ gR σ v0 3 = 0) <|
      nm (gR σ v0 3) fun r70 =>
      ck (okA σ r70 16 v1) <|
      ck (¬ gR σ r70 v1.toNatClampNeg = 0) <|
      nm (gR σ r70 v1.toNatClampNeg) fun r73 =>
      ck (okO σ r73 5) <|
      ck (¬ gR σ r73 2 = 0) <|
      nm (gR σ r73 2) fun r76 =>
      ck (okA σ r76 13 v2) <|
      some (gI σ r76 v2.toNatClampNeg))
    else (
    if v3 = 3 then (
      ck (¬ gR σ v0 3 = 0) <|
      nm (gR σ v0 3) fun r80 =>
      ck (okA σ r80 16 v1) <|
      ck (¬ gR σ r80 v1.toNatClampNeg = 0) <|
      nm (gR σ r80 v1.toNatClampNeg) fun r83 =>
      ck (okO σ r83 5) <|
      ck (¬ gR σ r83 3 = 0) <|
      nm (gR σ r83 3) fun r86 =>
      ck (okA σ r86 13 v2) <|
      some (gI σ r86 v2.toNatClampNeg))
    else (
      some (-1 : Int32))))))
set_option maxRecDepth 20000 in
theorem t_X11_told {G : Gl} {xr : Int32} {v0 : Nat} {v1 : Int32} {v2 : Int32} {v3 : Int32} {σ : Sg} (h : f_X11_told v0 v1 v2 v3 σ = some xr) : MT G M_X11_told [.ref v0, .int v1, .int v2, .int v3] σ (some (.int xr)) σ := by
  refine MT_of rfl rfl (Nat.le_of_ble_eq_true rfl) ?_
  show RN G M_X11_told 0 [some (.ref v0), some (.int v1), some (.int v2), some (.int v3)] [] σ (.inl (some (.int xr))) σ
  unfold f_X11_told at h
  refine RN_aload_n (pc := 0) (k := 0) (by decide +kernel) rfl rfl ?_
  refine RN_iload_n (pc := 1) (k := 1) (by decide +kernel) rfl rfl ?_
  refine RN_iload_n (pc := 2) (k := 2) (by decide +kernel) rfl rfl ?_
  obtain ⟨c44, h⟩ := ck_el h
  obtain ⟨x46, f45, h⟩ := bp_el h
  refine RN_callV (M := M_X11_told) (pc := 3) (idx := 131) (as := [.int v1, .int v2]) (st := []) (t_X11_isAct f45) (by decide +kernel) lk_RX11_131 rfl ⟨by decide, fun q hq => by cases hq; rfl⟩ c44 (Nat.le_of_ble_eq_true rfl) ⟨Nat.le_of_ble_eq_true rfl, Nat.le_of_ble_eq_true rfl⟩ rfl ?_
  show RN G M_X11_told 6 [some (.ref v0), some (.int v1), some (.int v2), some (.int v3)] [.int x46] σ _ _
  refine RN_if_ne (pc := 6) (off := 5) (tgt := 11) (by decide +kernel) (by decide) (fun c47 => ?_) (fun c47 => ?_)
  · replace h := it_f c47 h
    refine RN_iload_n (pc := 11) (k := 3) (by decide +kernel) rfl rfl ?_
    by_cases c48 : v3 = 0
    · replace h := it_t c48 h
      refine RN_tsw (pc := 12) (dflt := 80) (lo := 0) (hi := 3) (offs := #[32, 44, 56, 68]) (len := 32) (v := 0) (off := 32) (tgt := 44) c48 (by decide +kernel) (by decide) (by decide) (by decide +kernel) (by decide) ?_
      refine RN_aload_n (pc := 44) (k := 0) (by decide +kernel) rfl rfl ?_
      obtain ⟨c49, h⟩ := ck_el h
      refine RN_getR (pc := 45) (idx := 32) (ci := 10) (k := 3) (by decide +kernel) lf_RX11_32 rfl c44 c49 ?_
      obtain ⟨r50, er50, h⟩ := nm_el h
      refine RN_nmR er50 ?_
      refine RN_iload_n (pc := 48) (k := 1) (by decide +kernel) rfl rfl ?_
      obtain ⟨c51, h⟩ := ck_el h
      obtain ⟨c52, h⟩ := ck_el h
      refine RN_aald16 (pc := 49) (by decide +kernel) c51 c52 ?_
      obtain ⟨r53, er53, h⟩ := nm_el h
      refine RN_nmR er53 ?_
      obtain ⟨c54, h⟩ := ck_el h
      obtain ⟨c55, h⟩ := ck_el h
      refine RN_getR (pc := 50) (idx := 119) (ci := 5) (k := 0) (by decide +kernel) lf_RX11_119 rfl c54 c55 ?_
      obtain ⟨r56, er56, h⟩ := nm_el h
      refine RN_nmR er56 ?_
      refine RN_iload_n (pc := 53) (k := 2) (by decide +kernel) rfl rfl ?_
      obtain ⟨c57, h⟩ := ck_el h
      refine RN_iald (pc := 54) (by decide +kernel) c57 ?_
      obtain rfl := some_el h
      exact RN_ireturn (by decide +kernel) rfl
    · replace h := it_f c48 h
      by_cases c58 : v3 = 1
      · replace h := it_t c58 h
        refine RN_tsw (pc := 12) (dflt := 80) (lo := 0) (hi := 3) (offs := #[32, 44, 56, 68]) (len := 32) (v := 1) (off := 44) (tgt := 56) c58 (by decide +kernel) (by decide) (by decide) (by decide +kernel) (by decide) ?_
        refine RN_aload_n (pc := 56) (k := 0) (by decide +kernel) rfl rfl ?_
        obtain ⟨c59, h⟩ := ck_el h
        refine RN_getR (pc := 57) (idx := 32) (ci := 10) (k := 3) (by decide +kernel) lf_RX11_32 rfl c44 c59 ?_
        obtain ⟨r60, er60, h⟩ := nm_el h
        refine RN_nmR er60 ?_
        refine RN_iload_n (pc := 60) (k := 1) (by decide +kernel) rfl rfl ?_
        obtain ⟨c61, h⟩ := ck_el h
        obtain ⟨c62, h⟩ := ck_el h
        refine RN_aald16 (pc := 61) (by decide +kernel) c61 c62 ?_
        obtain ⟨r63, er63, h⟩ := nm_el h
        refine RN_nmR er63 ?_
        obtain ⟨c64, h⟩ := ck_el h
        obtain ⟨c65, h⟩ := ck_el h
        refine RN_getR (pc := 62) (idx := 122) (ci := 5) (k := 1) (by decide +kernel) lf_RX11_122 rfl c64 c65 ?_
        obtain ⟨r66, er66, h⟩ := nm_el h
        refine RN_nmR er66 ?_
        refine RN_iload_n (pc := 65) (k := 2) (by decide +kernel) rfl rfl ?_
        obtain ⟨c67, h⟩ := ck_el h
        refine RN_iald (pc := 66) (by decide +kernel) c67 ?_
        obtain rfl := some_el h
        exact RN_ireturn (by decide +kernel) rfl
      · replace h := it_f c58 h
        by_cases c68 : v3 = 2
        · replace h := it_t c68 h
          refine RN_tsw (pc := 12) (dflt := 80) (lo := 0) (hi := 3) (offs := #[32, 44, 56, 68]) (len := 32) (v := 2) (off := 56) (tgt := 68) c68 (by decide +kernel) (by decide) (by decide) (by decide +kernel) (by decide) ?_
          refine RN_aload_n (pc := 68) (k := 0) (by decide +kernel) rfl rfl ?_
          obtain ⟨c69, h⟩ := ck_el h
          refine RN_getR (pc := 69) (idx := 32) (ci := 10) (k := 3) (by decide +kernel) lf_RX11_32 rfl c44 c69 ?_
          obtain ⟨r70, er70, h⟩ := nm_el h
          refine RN_nmR er70 ?_
          refine RN_iload_n (pc := 72) (k := 1) (by decide +kernel) rfl rfl ?_
          obtain ⟨c71, h⟩ := ck_el h
          obtain ⟨c72, h⟩ := ck_el h
          refine RN_aald16 (pc := 73) (by decide +kernel) c71 c72 ?_
          obtain ⟨r73, er73, h⟩ := nm_el h
          refine RN_nmR er73 ?_
          obtain ⟨c74, h⟩ := ck_el h
          obtain ⟨c75, h⟩ := ck_el h
          refine RN_getR (pc := 74) (idx := 125) (ci := 5) (k := 2) (by decide +kernel) lf_RX11_125 rfl c74 c75 ?_
          obtain ⟨r76, er76, h⟩ := nm_el h
          refine RN_nmR er76 ?_
          refine RN_iload_n (pc := 77) (k := 2) (by decide +kernel) rfl rfl ?_
          obtain ⟨c77, h⟩ := ck_el h
          refine RN_iald (pc := 78) (by decide +kernel) c77 ?_
          obtain rfl := some_el h
          exact RN_ireturn (by decide +kernel) rfl
        · replace h := it_f c68 h
          by_cases c78 : v3 = 3
          · replace h := it_t c78 h
            refine RN_tsw (pc := 12) (dflt := 80) (lo := 0) (hi := 3) (offs := #[32, 44, 56, 68]) (len := 32) (v := 3) (off := 68) (tgt := 80) c78 (by decide +kernel) (by decide) (by decide) (by decide +kernel) (by decide) ?_
            refine RN_aload_n (pc := 80) (k := 0) (by decide +kernel) rfl rfl ?_
            obtain ⟨c79, h⟩ := ck_el h
            refine RN_getR (pc := 81) (idx := 32) (ci := 10) (k := 3) (by decide +kernel) lf_RX11_32 rfl c44 c79 ?_
            obtain ⟨r80, er80, h⟩ := nm_el h
            refine RN_nmR er80 ?_
            refine RN_iload_n (pc := 84) (k := 1) (by decide +kernel) rfl rfl ?_
            obtain ⟨c81, h⟩ := ck_el h
            obtain ⟨c82, h⟩ := ck_el h
            refine RN_aald16 (pc := 85) (by decide +kernel) c81 c82 ?_
            obtain ⟨r83, er83, h⟩ := nm_el h
            refine RN_nmR er83 ?_
            obtain ⟨c84, h⟩ := ck_el h
            obtain ⟨c85, h⟩ := ck_el h
            refine RN_getR (pc := 86) (idx := 128) (ci := 5) (k := 3) (by decide +kernel) lf_RX11_128 rfl c84 c85 ?_
            obtain ⟨r86, er86, h⟩ := nm_el h
            refine RN_nmR er86 ?_
            refine RN_iload_n (pc := 89) (k := 2) (by decide +kernel) rfl rfl ?_
            obtain ⟨c87, h⟩ := ck_el h
            refine RN_iald (pc := 90) (by decide +kernel) c87 ?_
            obtain rfl := some_el h
            exact RN_ireturn (by decide +kernel) rfl
          · replace h := it_f c78 h
            refine RN_tableOut (pc := 12) (dflt := 80) (lo := 0) (hi := 3) (offs := #[32, 44, 56, 68]) (len := 32) (tgt := 92) (by decide +kernel) (tsw_s (hi := 2) (hi' := 3) (tsw_s (hi := 1) (hi' := 2) (tsw_s (hi := 0) (hi' := 1) (tsw_s (hi := -1) (hi' := 0) (tsw_0 (0)) (by decide) (by decide) c48) (by decide) (by decide) c58) (by decide) (by decide) c68) (by decide) (by decide) c78) (by decide) ?_
            refine RN_iconst (pc := 92) (n := -1) (v := -1) (by decide +kernel) (by decide) ?_
            obtain rfl := some_el h
            exact RN_ireturn (by decide +kernel) rfl
  · replace h := it_t c47 h
    refine RN_iconst (pc := 9) (n := -1) (v := -1) (by decide +kernel) (by decide) ?_
    obtain rfl := some_el h
    exact RN_ireturn (by decide +kernel) rfl
def f_X11_runOnce (n : Nat) (v0 : Nat) (v1 : Nat) (σ : Sg) : Option (Int32 × Sg) :=
  ck (okO σ v0 10) <|
  ck (¬ gR σ v0 5 = 0) <|
  nm (gR σ v0 5) fun r69 =>
  ck (okO σ r69 4) <|
  ck (¬ gR σ r69 0 = 0) <|
  nm (gR σ r69 0) fun r72 =>
  ck (¬ gR σ v0 1 = 0) <|
  nm (gR σ v0 1) fun r74 =>
  ck (okO σ r72 0) <|
  bp (f_X0_become n r72 r74 σ) fun σ77 =>
  ck (okO σ77 v0 10) <|
  ck (¬ gR σ77 v0 5 = 0) <|
  nm (gR σ77 v0 5) fun r80 =>
  ck (okO σ77 r80 4) <|
  ck (¬ gR σ77 r80 1 = 0) <|
  nm (gR σ77 r80 1) fun r83 =>
  ck (¬ gR σ77 v0 2 = 0) <|
  nm (gR σ77 v0 2) fun r85 =>
  ck (okO σ77 r83 3) <|
  bp (f_X4_become n r83 r85 σ77) fun σ88 =>
  ck (okO σ88 v0 10) <|
  ck (¬ gR σ88 v0 5 = 0) <|
  nm (gR σ88 v0 5) fun r91 =>
  ck (okO σ88 v1 5) <|
  ck (okO σ88 r91 4) <|
  nm (pJ σ88 r91 7 (gJ σ88 v1 5)) fun σ94 =>
  ck (okO σ94 v0 10) <|
  ck (¬ gR σ94 v0 5 = 0) <|
  nm (gR σ94 v0 5) fun r97 =>
  ck (okO σ94 v1 5) <|
  ck (okO σ94 r97 4) <|
  nm (pJ σ94 r97 8 (gJ σ94 v1 6)) fun σ100 =>
  ck (okO σ100 v0 10) <|
  ck (¬ gR σ100 v0 5 = 0) <|
  nm (gR σ100 v0 5) fun r103 =>
  ck (¬ gR σ100 v0 0 = 0) <|
  nm (gR σ100 v0 0) fun r105 =>
  ck (okO σ100 r103 4) <|
  bd (f_X5_perform n r103 v1 r105 σ100) fun x109 σ108 =>
  if x109 = 0 then (
    ck (okO σ108 v0 10) <|
    ck (¬ gR σ108 v0 2 = 0) <|
    nm (gR σ108 v0 2) fun r113 =>
    ck (¬ gR σ108 v0 5 = 0) <|
    nm (gR σ108 v0 5) fun r115 =>
    ck (okO σ108 r115 4) <|
    ck (¬ gR σ108 r115 1 = 0) <|
    nm (gR σ108 r115 1) fun r118 =>
    ck (okO σ108 r113 3) <|
    bp (f_X4_become n r113 r118 σ108) fun σ121 =>
    ck (okO σ121 v0 10) <|
    ck (¬ gR σ121 v0 5 = 0) <|
    nm (gR σ121 v0 5) fun r124 =>
    ck (okO σ121 r124 4) <|
    ck (okO σ121 v1 5) <|
    nm (pJ σ121 v1 5 (gJ σ121 r124 7)) fun σ127 =>
    ck (okO σ127 v0 10) <|
    ck (¬ gR σ127 v0 5 = 0) <|
    nm (gR σ127 v0 5) fun r130 =>
    ck (okO σ127 r130 4) <|
    ck (okO σ127 v1 5) <|
    nm (pJ σ127 v1 6 (gJ σ127 r130 8)) fun σ133 =>
    some (x109, σ133))
  else (
    some (x109, σ108))
set_option maxRecDepth 20000 in
theorem t_X11_runOnce {G : Gl} {xr : Int32} {σr : Sg} {n : Nat} {v0 : Nat} {v1 : Nat} {σ : Sg} (h : f_X11_runOnce n v0 v1 σ = some (xr, σr)) : MT G M_X11_runOnce [.ref v0, .ref v1] σ (some (.int xr)) σr := by
  refine MT_of rfl rfl (Nat.le_of_ble_eq_true rfl) ?_
  show RN G M_X11_runOnce 0 [some (.ref v0), some (.ref v1)] [] σ (.inl (some (.int xr))) σr
  unfold f_X11_runOnce at h
  refine RN_aload_n (pc := 0) (k := 0) (by decide +kernel) rfl rfl ?_
  obtain ⟨c67, h⟩ := ck_el h
  obtain ⟨c68, h⟩ := ck_el h
  refine RN_getR (pc := 1) (idx := 45) (ci := 10) (k := 5) (by decide +kernel) lf_RX11_45 rfl c67 c68 ?_
  obtain ⟨r69, er69, h⟩ := nm_el h
  refine RN_nmR er69 ?_
  obtain ⟨c70, h⟩ := ck_el h
  obtain ⟨c71, h⟩ := ck_el h
  refine RN_getR (pc := 4) (idx := 308) (ci := 4) (k := 0) (by decide +kernel) lf_RX11_308 rfl c70 c71 ?_
  obtain ⟨r72, er72, h⟩ := nm_el h
  refine RN_nmR er72 ?_
  refine RN_aload_n (pc := 7) (k := 0) (by decide +kernel) rfl rfl ?_
  obtain ⟨c73, h⟩ := ck_el h
  refine RN_getR (pc := 8) (idx := 19) (ci := 10) (k := 1) (by decide +kernel) lf_RX11_19 rfl c67 c73 ?_
  obtain ⟨r74, er74, h⟩ := nm_el h
  refine RN_nmR er74 ?_
  obtain ⟨c75, h⟩ := ck_el h
  obtain ⟨σ77, f76, h⟩ := bp_el h
  refine RN_callV (M := M_X11_runOnce) (pc := 11) (idx := 309) (as := [.ref r74]) (st := []) (t_X0_become f76) (by decide +kernel) lk_RX11_309 rfl ⟨by decide, fun q hq => by cases hq; rfl⟩ c75 (Nat.le_of_ble_eq_true rfl) ⟨Nat.le_of_ble_eq_true rfl, Nat.le_of_ble_eq_true rfl⟩ rfl ?_
  show RN G M_X11_runOnce 14 [some (.ref v0), some (.ref v1)] [] σ77 _ _
  refine RN_aload_n (pc := 14) (k := 0) (by decide +kernel) rfl rfl ?_
  obtain ⟨c78, h⟩ := ck_el h
  obtain ⟨c79, h⟩ := ck_el h
  refine RN_getR (pc := 15) (idx := 45) (ci := 10) (k := 5) (by decide +kernel) lf_RX11_45 rfl c78 c79 ?_
  obtain ⟨r80, er80, h⟩ := nm_el h
  refine RN_nmR er80 ?_
  obtain ⟨c81, h⟩ := ck_el h
  obtain ⟨c82, h⟩ := ck_el h
  refine RN_getR (pc := 18) (idx := 312) (ci := 4) (k := 1) (by decide +kernel) lf_RX11_312 rfl c81 c82 ?_
  obtain ⟨r83, er83, h⟩ := nm_el h
  refine RN_nmR er83 ?_
  refine RN_aload_n (pc := 21) (k := 0) (by decide +kernel) rfl rfl ?_
  obtain ⟨c84, h⟩ := ck_el h
  refine RN_getR (pc := 22) (idx := 26) (ci := 10) (k := 2) (by decide +kernel) lf_RX11_26 rfl c78 c84 ?_
  obtain ⟨r85, er85, h⟩ := nm_el h
  refine RN_nmR er85 ?_
  obtain ⟨c86, h⟩ := ck_el h
  obtain ⟨σ88, f87, h⟩ := bp_el h
  refine RN_callV (M := M_X11_runOnce) (pc := 25) (idx := 268) (as := [.ref r85]) (st := []) (t_X4_become f87) (by decide +kernel) lk_RX11_268 rfl ⟨by decide, fun q hq => by cases hq; rfl⟩ c86 (Nat.le_of_ble_eq_true rfl) ⟨Nat.le_of_ble_eq_true rfl, Nat.le_of_ble_eq_true rfl⟩ rfl ?_
  show RN G M_X11_runOnce 28 [some (.ref v0), some (.ref v1)] [] σ88 _ _
  refine RN_aload_n (pc := 28) (k := 0) (by decide +kernel) rfl rfl ?_
  obtain ⟨c89, h⟩ := ck_el h
  obtain ⟨c90, h⟩ := ck_el h
  refine RN_getR (pc := 29) (idx := 45) (ci := 10) (k := 5) (by decide +kernel) lf_RX11_45 rfl c89 c90 ?_
  obtain ⟨r91, er91, h⟩ := nm_el h
  refine RN_nmR er91 ?_
  refine RN_aload_n (pc := 32) (k := 1) (by decide +kernel) rfl rfl ?_
  obtain ⟨c92, h⟩ := ck_el h
  refine RN_getJ (pc := 33) (idx := 183) (ci := 5) (k := 5) (by decide +kernel) lf_RX11_183 rfl c92 ?_
  obtain ⟨c93, h⟩ := ck_el h
  refine RN_putJ (pc := 36) (idx := 313) (ci := 4) (k := 7) (by decide +kernel) lf_RX11_313 rfl (fun q hq => by cases hq; exact Or.inl rfl) c93 ?_
  obtain ⟨σ94, eσ94, h⟩ := nm_el h
  refine RN_nmS eσ94 ?_
  refine RN_aload_n (pc := 39) (k := 0) (by decide +kernel) rfl rfl ?_
  obtain ⟨c95, h⟩ := ck_el h
  obtain ⟨c96, h⟩ := ck_el h
  refine RN_getR (pc := 40) (idx := 45) (ci := 10) (k := 5) (by decide +kernel) lf_RX11_45 rfl c95 c96 ?_
  obtain ⟨r97, er97, h⟩ := nm_el h
  refine RN_nmR er97 ?_
  refine RN_aload_n (pc := 43) (k := 1) (by decide +kernel) rfl rfl ?_
  obtain ⟨c98, h⟩ := ck_el h
  refine RN_getJ (pc := 44) (idx := 187) (ci := 5) (k := 6) (by decide +kernel) lf_RX11_187 rfl c98 ?_
  obtain ⟨c99, h⟩ := ck_el h
  refine RN_putJ (pc := 47) (idx := 314) (ci := 4) (k := 8) (by decide +kernel) lf_RX11_314 rfl (fun q hq => by cases hq; exact Or.inl rfl) c99 ?_
  obtain ⟨σ100, eσ100, h⟩ := nm_el h
  refine RN_nmS eσ100 ?_
  refine RN_aload_n (pc := 50) (k := 0) (by decide +kernel) rfl rfl ?_
  obtain ⟨c101, h⟩ := ck_el h
  obtain ⟨c102, h⟩ := ck_el h
  refine RN_getR (pc := 51) (idx := 45) (ci := 10) (k := 5) (by decide +kernel) lf_RX11_45 rfl c101 c102 ?_
  obtain ⟨r103, er103, h⟩ := nm_el h
  refine RN_nmR er103 ?_
  refine RN_aload_n (pc := 54) (k := 1) (by decide +kernel) rfl rfl ?_
  refine RN_aload_n (pc := 55) (k := 0) (by decide +kernel) rfl rfl ?_
  obtain ⟨c104, h⟩ := ck_el h
  refine RN_getR (pc := 56) (idx := 10) (ci := 10) (k := 0) (by decide +kernel) lf_RX11_10 rfl c101 c104 ?_
  obtain ⟨r105, er105, h⟩ := nm_el h
  refine RN_nmR er105 ?_
  obtain ⟨c106, h⟩ := ck_el h
  obtain ⟨x109, σ108, f107, h⟩ := bd_el h
  refine RN_callV (M := M_X11_runOnce) (pc := 59) (idx := 315) (as := [.ref v1, .ref r105]) (st := []) (t_X5_perform f107) (by decide +kernel) lk_RX11_315 rfl ⟨by decide, fun q hq => by cases hq; rfl⟩ c106 (Nat.le_of_ble_eq_true rfl) ⟨Nat.le_of_ble_eq_true rfl, Nat.le_of_ble_eq_true rfl⟩ rfl ?_
  show RN G M_X11_runOnce 62 [some (.ref v0), some (.ref v1)] [.int x109] σ108 _ _
  refine RN_istore_n (pc := 62) (k := 2) (ls2 := [some (.ref v0), some (.ref v1), some (.int x109)]) (by decide +kernel) rfl (by decide) rfl ?_
  refine RN_iload_n (pc := 63) (k := 2) (by decide +kernel) rfl rfl ?_
  refine RN_if_ne (pc := 64) (off := 39) (tgt := 103) (by decide +kernel) (by decide) (fun c110 => ?_) (fun c110 => ?_)
  · replace h := it_f c110 h
    refine RN_iload_n (pc := 103) (k := 2) (by decide +kernel) rfl rfl ?_
    obtain ⟨rfl, rfl⟩ := some_el2 h
    exact RN_ireturn (by decide +kernel) rfl
  · replace h := it_t c110 h
    refine RN_aload_n (pc := 67) (k := 0) (by decide +kernel) rfl rfl ?_
    obtain ⟨c111, h⟩ := ck_el h
    obtain ⟨c112, h⟩ := ck_el h
    refine RN_getR (pc := 68) (idx := 26) (ci := 10) (k := 2) (by decide +kernel) lf_RX11_26 rfl c111 c112 ?_
    obtain ⟨r113, er113, h⟩ := nm_el h
    refine RN_nmR er113 ?_
    refine RN_aload_n (pc := 71) (k := 0) (by decide +kernel) rfl rfl ?_
    obtain ⟨c114, h⟩ := ck_el h
    refine RN_getR (pc := 72) (idx := 45) (ci := 10) (k := 5) (by decide +kernel) lf_RX11_45 rfl c111 c114 ?_
    obtain ⟨r115, er115, h⟩ := nm_el h
    refine RN_nmR er115 ?_
    obtain ⟨c116, h⟩ := ck_el h
    obtain ⟨c117, h⟩ := ck_el h
    refine RN_getR (pc := 75) (idx := 312) (ci := 4) (k := 1) (by decide +kernel) lf_RX11_312 rfl c116 c117 ?_
    obtain ⟨r118, er118, h⟩ := nm_el h
    refine RN_nmR er118 ?_
    obtain ⟨c119, h⟩ := ck_el h
    obtain ⟨σ121, f120, h⟩ := bp_el h
    refine RN_callV (M := M_X11_runOnce) (pc := 78) (idx := 268) (as := [.ref r118]) (st := []) (t_X4_become f120) (by decide +kernel) lk_RX11_268 rfl ⟨by decide, fun q hq => by cases hq; rfl⟩ c119 (Nat.le_of_ble_eq_true rfl) ⟨Nat.le_of_ble_eq_true rfl, Nat.le_of_ble_eq_true rfl⟩ rfl ?_
    show RN G M_X11_runOnce 81 [some (.ref v0), some (.ref v1), some (.int x109)] [] σ121 _ _
    refine RN_aload_n (pc := 81) (k := 1) (by decide +kernel) rfl rfl ?_
    refine RN_aload_n (pc := 82) (k := 0) (by decide +kernel) rfl rfl ?_
    obtain ⟨c122, h⟩ := ck_el h
    obtain ⟨c123, h⟩ := ck_el h
    refine RN_getR (pc := 83) (idx := 45) (ci := 10) (k := 5) (by decide +kernel) lf_RX11_45 rfl c122 c123 ?_
    obtain ⟨r124, er124, h⟩ := nm_el h
    refine RN_nmR er124 ?_
    obtain ⟨c125, h⟩ := ck_el h
    refine RN_getJ (pc := 86) (idx := 313) (ci := 4) (k := 7) (by decide +kernel) lf_RX11_313 rfl c125 ?_
    obtain ⟨c126, h⟩ := ck_el h
    refine RN_putJ (pc := 89) (idx := 183) (ci := 5) (k := 5) (by decide +kernel) lf_RX11_183 rfl (fun q hq => by cases hq; exact Or.inl rfl) c126 ?_
    obtain ⟨σ127, eσ127, h⟩ := nm_el h
    refine RN_nmS eσ127 ?_
    refine RN_aload_n (pc := 92) (k := 1) (by decide +kernel) rfl rfl ?_
    refine RN_aload_n (pc := 93) (k := 0) (by decide +kernel) rfl rfl ?_
    obtain ⟨c128, h⟩ := ck_el h
    obtain ⟨c129, h⟩ := ck_el h
    refine RN_getR (pc := 94) (idx := 45) (ci := 10) (k := 5) (by decide +kernel) lf_RX11_45 rfl c128 c129 ?_
    obtain ⟨r130, er130, h⟩ := nm_el h
    refine RN_nmR er130 ?_
    obtain ⟨c131, h⟩ := ck_el h
    refine RN_getJ (pc := 97) (idx := 314) (ci := 4) (k := 8) (by decide +kernel) lf_RX11_314 rfl c131 ?_
    obtain ⟨c132, h⟩ := ck_el h
    refine RN_putJ (pc := 100) (idx := 187) (ci := 5) (k := 6) (by decide +kernel) lf_RX11_187 rfl (fun q hq => by cases hq; exact Or.inl rfl) c132 ?_
    obtain ⟨σ133, eσ133, h⟩ := nm_el h
    refine RN_nmS eσ133 ?_
    refine RN_iload_n (pc := 103) (k := 2) (by decide +kernel) rfl rfl ?_
    obtain ⟨rfl, rfl⟩ := some_el2 h
    exact RN_ireturn (by decide +kernel) rfl
def f_X11_run (n : Nat) (v0 : Nat) (v1 : Int32) (σ : Sg) : Option (Int32 × Sg) :=
  ck (okO σ v0 10) <|
  bp (f_X11_isProgram v0 v1 σ) fun x22 =>
  if x22 = 0 then (
    some ((-1 : Int32), σ))
  else (
    ck (¬ gR σ v0 3 = 0) <|
    nm (gR σ v0 3) fun r25 =>
    ck (okA σ r25 16 v1) <|
    ck (¬ gR σ r25 v1.toNatClampNeg = 0) <|
    nm (gR σ r25 v1.toNatClampNeg) fun r28 =>
    bd (f_X11_runOnce n v0 r28 σ) fun x31 σ30 =>
    if x31 = 0 then (
      ck (okO σ30 v0 10) <|
      ck (¬ gR σ30 v0 3 = 0) <|
      nm (gR σ30 v0 3) fun r35 =>
      ck (okA σ30 r35 16 v1) <|
      ck (¬ gR σ30 r35 v1.toNatClampNeg = 0) <|
      nm (gR σ30 r35 v1.toNatClampNeg) fun r38 =>
      ck (okO σ30 r38 5) <|
      some (gI σ30 r38 4, σ30))
    else (
      some (x31, σ30)))
set_option maxRecDepth 20000 in
theorem t_X11_run {G : Gl} {xr : Int32} {σr : Sg} {n : Nat} {v0 : Nat} {v1 : Int32} {σ : Sg} (h : f_X11_run n v0 v1 σ = some (xr, σr)) : MT G M_X11_run [.ref v0, .int v1] σ (some (.int xr)) σr := by
  refine MT_of rfl rfl (Nat.le_of_ble_eq_true rfl) ?_
  show RN G M_X11_run 0 [some (.ref v0), some (.int v1)] [] σ (.inl (some (.int xr))) σr
  unfold f_X11_run at h
  refine RN_aload_n (pc := 0) (k := 0) (by decide +kernel) rfl rfl ?_
  refine RN_iload_n (pc := 1) (k := 1) (by decide +kernel) rfl rfl ?_
  obtain ⟨c20, h⟩ := ck_el h
  obtain ⟨x22, f21, h⟩ := bp_el h
  refine RN_callV (M := M_X11_run) (pc := 2) (idx := 108) (as := [.int v1]) (st := []) (t_X11_isProgram f21) (by decide +kernel) lk_RX11_108 rfl ⟨by decide, fun q hq => by cases hq; rfl⟩ c20 (Nat.le_of_ble_eq_true rfl) ⟨Nat.le_of_ble_eq_true rfl, Nat.le_of_ble_eq_true rfl⟩ rfl ?_
  show RN G M_X11_run 5 [some (.ref v0), some (.int v1)] [.int x22] σ _ _
  refine RN_if_ne (pc := 5) (off := 5) (tgt := 10) (by decide +kernel) (by decide) (fun c23 => ?_) (fun c23 => ?_)
  · replace h := it_f c23 h
    refine RN_aload_n (pc := 10) (k := 0) (by decide +kernel) rfl rfl ?_
    refine RN_aload_n (pc := 11) (k := 0) (by decide +kernel) rfl rfl ?_
    obtain ⟨c24, h⟩ := ck_el h
    refine RN_getR (pc := 12) (idx := 32) (ci := 10) (k := 3) (by decide +kernel) lf_RX11_32 rfl c20 c24 ?_
    obtain ⟨r25, er25, h⟩ := nm_el h
    refine RN_nmR er25 ?_
    refine RN_iload_n (pc := 15) (k := 1) (by decide +kernel) rfl rfl ?_
    obtain ⟨c26, h⟩ := ck_el h
    obtain ⟨c27, h⟩ := ck_el h
    refine RN_aald16 (pc := 16) (by decide +kernel) c26 c27 ?_
    obtain ⟨r28, er28, h⟩ := nm_el h
    refine RN_nmR er28 ?_
    obtain ⟨x31, σ30, f29, h⟩ := bd_el h
    refine RN_callV (M := M_X11_run) (pc := 17) (idx := 135) (as := [.ref r28]) (st := []) (t_X11_runOnce f29) (by decide +kernel) lk_RX11_135 rfl ⟨by decide, fun q hq => by cases hq; rfl⟩ c20 (Nat.le_of_ble_eq_true rfl) ⟨Nat.le_of_ble_eq_true rfl, Nat.le_of_ble_eq_true rfl⟩ rfl ?_
    show RN G M_X11_run 20 [some (.ref v0), some (.int v1)] [.int x31] σ30 _ _
    refine RN_istore_n (pc := 20) (k := 2) (ls2 := [some (.ref v0), some (.int v1), some (.int x31)]) (by decide +kernel) rfl (by decide) rfl ?_
    refine RN_iload_n (pc := 21) (k := 2) (by decide +kernel) rfl rfl ?_
    refine RN_if_ne (pc := 22) (off := 15) (tgt := 37) (by decide +kernel) (by decide) (fun c32 => ?_) (fun c32 => ?_)
    · replace h := it_f c32 h
      refine RN_iload_n (pc := 37) (k := 2) (by decide +kernel) rfl rfl ?_
      obtain ⟨rfl, rfl⟩ := some_el2 h
      exact RN_ireturn (by decide +kernel) rfl
    · replace h := it_t c32 h
      refine RN_aload_n (pc := 25) (k := 0) (by decide +kernel) rfl rfl ?_
      obtain ⟨c33, h⟩ := ck_el h
      obtain ⟨c34, h⟩ := ck_el h
      refine RN_getR (pc := 26) (idx := 32) (ci := 10) (k := 3) (by decide +kernel) lf_RX11_32 rfl c33 c34 ?_
      obtain ⟨r35, er35, h⟩ := nm_el h
      refine RN_nmR er35 ?_
      refine RN_iload_n (pc := 29) (k := 1) (by decide +kernel) rfl rfl ?_
      obtain ⟨c36, h⟩ := ck_el h
      obtain ⟨c37, h⟩ := ck_el h
      refine RN_aald16 (pc := 30) (by decide +kernel) c36 c37 ?_
      obtain ⟨r38, er38, h⟩ := nm_el h
      refine RN_nmR er38 ?_
      obtain ⟨c39, h⟩ := ck_el h
      refine RN_getI (pc := 31) (idx := 118) (ci := 5) (k := 4) (by decide +kernel) lf_RX11_118 (Or.inl rfl) c39 ?_
      refine RN_goto (pc := 34) (off := 4) (tgt := 38) (by decide +kernel) (by decide) ?_
      obtain ⟨rfl, rfl⟩ := some_el2 h
      exact RN_ireturn (by decide +kernel) rfl
  · replace h := it_t c23 h
    refine RN_iconst (pc := 8) (n := -1) (v := -1) (by decide +kernel) (by decide) ?_
    obtain ⟨rfl, rfl⟩ := some_el2 h
    exact RN_ireturn (by decide +kernel) rfl
def b_X11_years_22 : Nat → Nat → Int32 → Int32 → Int32 → Sg → Option (Int32 × Sg)
  | 0, _, _, _, _, _ => none
  | n + 1, v0, v1, v2, v3, σ =>
  if v2 ≤ v3 then (
    some (v2, σ))
  else (
    ck (okO σ v0 10) <|
    ck (¬ gR σ v0 3 = 0) <|
    nm (gR σ v0 3) fun r23 =>
    ck (okA σ r23 16 v1) <|
    ck (¬ gR σ r23 v1.toNatClampNeg = 0) <|
    nm (gR σ r23 v1.toNatClampNeg) fun r26 =>
    bd (f_X11_runOnce n v0 r26 σ) fun x29 σ28 =>
    if x29 = 0 then (
      nm (v3 + (1 : Int32)) fun x31 =>
      b_X11_years_22 n v0 v1 v2 x31 σ28)
    else (
      some (v3, σ28)))
set_option maxRecDepth 20000 in
theorem tb_X11_years_22 {G : Gl} {xr : Int32} {σr : Sg} (v0 : Nat) (v1 : Int32) (v2 : Int32) : ∀ (n : Nat) (v3 : Int32) (σ : Sg), b_X11_years_22 n v0 v1 v2 v3 σ = some (xr, σr) → RN G M_X11_years 22 [some (.ref v0), some (.int v1), some (.int v2), some (.int v3)] [] σ (.inl (some (.int xr))) σr := by
  intro n
  induction n with
  | zero =>
    intro v3 σ h
    exact none_el h
  | succ n ih =>
    intro v3 σ h
    rw [b_X11_years_22] at h
    refine RN_iload_n (pc := 22) (k := 3) (by decide +kernel) rfl rfl ?_
    refine RN_iload_n (pc := 23) (k := 2) (by decide +kernel) rfl rfl ?_
    refine RN_icmp_ge (pc := 24) (off := 24) (tgt := 48) (by decide +kernel) (by decide) (fun c20 => ?_) (fun c20 => ?_)
    · replace h := it_t c20 h
      refine RN_iload_n (pc := 48) (k := 2) (by decide +kernel) rfl rfl ?_
      obtain ⟨rfl, rfl⟩ := some_el2 h
      exact RN_ireturn (by decide +kernel) rfl
    · replace h := it_f c20 h
      refine RN_aload_n (pc := 27) (k := 0) (by decide +kernel) rfl rfl ?_
      refine RN_aload_n (pc := 28) (k := 0) (by decide +kernel) rfl rfl ?_
      obtain ⟨c21, h⟩ := ck_el h
      obtain ⟨c22, h⟩ := ck_el h
      refine RN_getR (pc := 29) (idx := 32) (ci := 10) (k := 3) (by decide +kernel) lf_RX11_32 rfl c21 c22 ?_
      obtain ⟨r23, er23, h⟩ := nm_el h
      refine RN_nmR er23 ?_
      refine RN_iload_n (pc := 32) (k := 1) (by decide +kernel) rfl rfl ?_
      obtain ⟨c24, h⟩ := ck_el h
      obtain ⟨c25, h⟩ := ck_el h
      refine RN_aald16 (pc := 33) (by decide +kernel) c24 c25 ?_
      obtain ⟨r26, er26, h⟩ := nm_el h
      refine RN_nmR er26 ?_
      obtain ⟨x29, σ28, f27, h⟩ := bd_el h
      refine RN_callV (M := M_X11_years) (pc := 34) (idx := 135) (as := [.ref r26]) (st := []) (t_X11_runOnce f27) (by decide +kernel) lk_RX11_135 rfl ⟨by decide, fun q hq => by cases hq; rfl⟩ c21 (Nat.le_of_ble_eq_true rfl) ⟨Nat.le_of_ble_eq_true rfl, Nat.le_of_ble_eq_true rfl⟩ rfl ?_
      show RN G M_X11_years 37 [some (.ref v0), some (.int v1), some (.int v2), some (.int v3)] [.int x29] σ28 _ _
      refine RN_if_eq (pc := 37) (off := 5) (tgt := 42) (by decide +kernel) (by decide) (fun c30 => ?_) (fun c30 => ?_)
      · replace h := it_t c30 h
        obtain ⟨x31, ex31, h⟩ := nm_el h
        refine RN_iinc (pc := 42) (i := 3) (n := 1) (v := x31) (ls2 := [some (.ref v0), some (.int v1), some (.int v2), some (.int x31)]) (by decide +kernel) rfl (by rw [ex31]; rfl) (by decide) rfl ?_
        refine RN_goto (pc := 45) (off := -23) (tgt := 22) (by decide +kernel) (by decide) ?_
        exact RN_weak (l := [some (.ref v0), some (.int v1), some (.int v2), some (.int x31)]) (And.intro rfl (And.intro rfl (And.intro rfl (And.intro rfl trivial)))) (ih x31 σ28 h)
      · replace h := it_f c30 h
        refine RN_iload_n (pc := 40) (k := 3) (by decide +kernel) rfl rfl ?_
        obtain ⟨rfl, rfl⟩ := some_el2 h
        exact RN_ireturn (by decide +kernel) rfl
def f_X11_years (n : Nat) (v0 : Nat) (v1 : Int32) (v2 : Int32) (σ : Sg) : Option (Int32 × Sg) :=
  ck (okO σ v0 10) <|
  bp (f_X11_isProgram v0 v1 σ) fun x16 =>
  if x16 = 0 then (
    some ((-1 : Int32), σ))
  else (
    if v2 < 0 then (
      some ((-1 : Int32), σ))
    else (
      if v2 ≤ (40 : Int32) then (
        b_X11_years_22 n v0 v1 v2 (0 : Int32) σ)
      else (
        some ((-1 : Int32), σ))))
set_option maxRecDepth 20000 in
theorem t_X11_years {G : Gl} {xr : Int32} {σr : Sg} {n : Nat} {v0 : Nat} {v1 : Int32} {v2 : Int32} {σ : Sg} (h : f_X11_years n v0 v1 v2 σ = some (xr, σr)) : MT G M_X11_years [.ref v0, .int v1, .int v2] σ (some (.int xr)) σr := by
  refine MT_of rfl rfl (Nat.le_of_ble_eq_true rfl) ?_
  show RN G M_X11_years 0 [some (.ref v0), some (.int v1), some (.int v2)] [] σ (.inl (some (.int xr))) σr
  unfold f_X11_years at h
  refine RN_aload_n (pc := 0) (k := 0) (by decide +kernel) rfl rfl ?_
  refine RN_iload_n (pc := 1) (k := 1) (by decide +kernel) rfl rfl ?_
  obtain ⟨c14, h⟩ := ck_el h
  obtain ⟨x16, f15, h⟩ := bp_el h
  refine RN_callV (M := M_X11_years) (pc := 2) (idx := 108) (as := [.int v1]) (st := []) (t_X11_isProgram f15) (by decide +kernel) lk_RX11_108 rfl ⟨by decide, fun q hq => by cases hq; rfl⟩ c14 (Nat.le_of_ble_eq_true rfl) ⟨Nat.le_of_ble_eq_true rfl, Nat.le_of_ble_eq_true rfl⟩ rfl ?_
  show RN G M_X11_years 5 [some (.ref v0), some (.int v1), some (.int v2)] [.int x16] σ _ _
  refine RN_if_eq (pc := 5) (off := 13) (tgt := 18) (by decide +kernel) (by decide) (fun c17 => ?_) (fun c17 => ?_)
  · replace h := it_t c17 h
    refine RN_iconst (pc := 18) (n := -1) (v := -1) (by decide +kernel) (by decide) ?_
    obtain ⟨rfl, rfl⟩ := some_el2 h
    exact RN_ireturn (by decide +kernel) rfl
  · replace h := it_f c17 h
    refine RN_iload_n (pc := 8) (k := 2) (by decide +kernel) rfl rfl ?_
    refine RN_if_lt (pc := 9) (off := 9) (tgt := 18) (by decide +kernel) (by decide) (fun c18 => ?_) (fun c18 => ?_)
    · replace h := it_t c18 h
      refine RN_iconst (pc := 18) (n := -1) (v := -1) (by decide +kernel) (by decide) ?_
      obtain ⟨rfl, rfl⟩ := some_el2 h
      exact RN_ireturn (by decide +kernel) rfl
    · replace h := it_f c18 h
      refine RN_iload_n (pc := 12) (k := 2) (by decide +kernel) rfl rfl ?_
      refine RN_bipush (pc := 13) (n := 40) (v := 40) (by decide +kernel) (by decide) ?_
      refine RN_icmp_le (pc := 15) (off := 5) (tgt := 20) (by decide +kernel) (by decide) (fun c19 => ?_) (fun c19 => ?_)
      · replace h := it_t c19 h
        refine RN_iconst (pc := 20) (n := 0) (v := 0) (by decide +kernel) (by decide) ?_
        refine RN_istore_n (pc := 21) (k := 3) (ls2 := [some (.ref v0), some (.int v1), some (.int v2), some (.int (0 : Int32))]) (by decide +kernel) rfl (by decide) rfl ?_
        exact RN_weak (l := [some (.ref v0), some (.int v1), some (.int v2), some (.int (0 : Int32))]) (And.intro rfl (And.intro rfl (And.intro rfl (And.intro rfl trivial)))) (tb_X11_years_22 v0 v1 v2 n (0 : Int32) σ h)
      · replace h := it_f c19 h
        refine RN_iconst (pc := 18) (n := -1) (v := -1) (by decide +kernel) (by decide) ?_
        obtain ⟨rfl, rfl⟩ := some_el2 h
        exact RN_ireturn (by decide +kernel) rfl
def f_X11_failed (v0 : Nat) (σ : Sg) : Option Int32 :=
  ck (okO σ v0 10) <|
  ck (¬ gR σ v0 5 = 0) <|
  nm (gR σ v0 5) fun r7 =>
  ck (okO σ r7 4) <|
  some (gI σ r7 9)
set_option maxRecDepth 20000 in
theorem t_X11_failed {G : Gl} {xr : Int32} {v0 : Nat} {σ : Sg} (h : f_X11_failed v0 σ = some xr) : MT G M_X11_failed [.ref v0] σ (some (.int xr)) σ := by
  refine MT_of rfl rfl (Nat.le_of_ble_eq_true rfl) ?_
  show RN G M_X11_failed 0 [some (.ref v0)] [] σ (.inl (some (.int xr))) σ
  unfold f_X11_failed at h
  refine RN_aload_n (pc := 0) (k := 0) (by decide +kernel) rfl rfl ?_
  obtain ⟨c5, h⟩ := ck_el h
  obtain ⟨c6, h⟩ := ck_el h
  refine RN_getR (pc := 1) (idx := 45) (ci := 10) (k := 5) (by decide +kernel) lf_RX11_45 rfl c5 c6 ?_
  obtain ⟨r7, er7, h⟩ := nm_el h
  refine RN_nmR er7 ?_
  obtain ⟨c8, h⟩ := ck_el h
  refine RN_getI (pc := 4) (idx := 139) (ci := 4) (k := 9) (by decide +kernel) lf_RX11_139 (Or.inl rfl) c8 ?_
  obtain rfl := some_el h
  exact RN_ireturn (by decide +kernel) rfl
def b_X11_isLaw_14 : Option Int32 :=
  some (0 : Int32)
set_option maxRecDepth 20000 in
theorem tb_X11_isLaw_14 {G : Gl} {xr : Int32} {σ : Sg} (h : b_X11_isLaw_14 = some xr) : RN G M_X11_isLaw 14 [] [] σ (.inl (some (.int xr))) σ := by
  unfold b_X11_isLaw_14 at h
  refine RN_iconst (pc := 14) (n := 0) (v := 0) (by decide +kernel) (by decide) ?_
  obtain rfl := some_el h
  exact RN_zreturn (by decide +kernel) rfl (Or.inl rfl)
def f_X11_isLaw (v0 : Int32) : Option Int32 :=
  if v0 < 0 then (
    b_X11_isLaw_14)
  else (
    if (7 : Int32) ≤ v0 then (
      b_X11_isLaw_14)
    else (
      some (1 : Int32)))
set_option maxRecDepth 20000 in
theorem t_X11_isLaw {G : Gl} {xr : Int32} {v0 : Int32} {σ : Sg} (h : f_X11_isLaw v0 = some xr) : MT G M_X11_isLaw [.int v0] σ (some (.int xr)) σ := by
  refine MT_of rfl rfl (Nat.le_of_ble_eq_true rfl) ?_
  show RN G M_X11_isLaw 0 [some (.int v0)] [] σ (.inl (some (.int xr))) σ
  unfold f_X11_isLaw at h
  refine RN_iload_n (pc := 0) (k := 0) (by decide +kernel) rfl rfl ?_
  refine RN_if_lt (pc := 1) (off := 13) (tgt := 14) (by decide +kernel) (by decide) (fun c1 => ?_) (fun c1 => ?_)
  · replace h := it_t c1 h
    exact RN_weak (l := []) trivial (tb_X11_isLaw_14  h)
  · replace h := it_f c1 h
    refine RN_iload_n (pc := 4) (k := 0) (by decide +kernel) rfl rfl ?_
    refine RN_bipush (pc := 5) (n := 7) (v := 7) (by decide +kernel) (by decide) ?_
    refine RN_icmp_ge (pc := 7) (off := 7) (tgt := 14) (by decide +kernel) (by decide) (fun c2 => ?_) (fun c2 => ?_)
    · replace h := it_t c2 h
      exact RN_weak (l := []) trivial (tb_X11_isLaw_14  h)
    · replace h := it_f c2 h
      refine RN_iconst (pc := 10) (n := 1) (v := 1) (by decide +kernel) (by decide) ?_
      refine RN_goto (pc := 11) (off := 4) (tgt := 15) (by decide +kernel) (by decide) ?_
      obtain rfl := some_el h
      exact RN_zreturn (by decide +kernel) rfl (Or.inr rfl)
def b_X11_isSpan_32 : Option Int32 :=
  some (0 : Int32)
set_option maxRecDepth 20000 in
theorem tb_X11_isSpan_32 {G : Gl} {xr : Int32} {σ : Sg} (h : b_X11_isSpan_32 = some xr) : RN G M_X11_isSpan 32 [] [] σ (.inl (some (.int xr))) σ := by
  unfold b_X11_isSpan_32 at h
  refine RN_iconst (pc := 32) (n := 0) (v := 0) (by decide +kernel) (by decide) ?_
  obtain rfl := some_el h
  exact RN_zreturn (by decide +kernel) rfl (Or.inl rfl)
def f_X11_isSpan (v0 : Int32) (v1 : Int32) (v2 : Int32) : Option Int32 :=
  bp (f_X11_isLine (v0.toInt64)) fun x6 =>
  if x6 = 0 then (
    b_X11_isSpan_32)
  else (
    bp (f_X11_isLine (v1.toInt64)) fun x9 =>
    if x9 = 0 then (
      b_X11_isSpan_32)
    else (
      if v1 < v0 then (
        b_X11_isSpan_32)
      else (
        if v2 < (v1 - v0) then (
          b_X11_isSpan_32)
        else (
          some (1 : Int32)))))
set_option maxRecDepth 20000 in
theorem t_X11_isSpan {G : Gl} {xr : Int32} {v0 : Int32} {v1 : Int32} {v2 : Int32} {σ : Sg} (h : f_X11_isSpan v0 v1 v2 = some xr) : MT G M_X11_isSpan [.int v0, .int v1, .int v2] σ (some (.int xr)) σ := by
  refine MT_of rfl rfl (Nat.le_of_ble_eq_true rfl) ?_
  show RN G M_X11_isSpan 0 [some (.int v0), some (.int v1), some (.int v2)] [] σ (.inl (some (.int xr))) σ
  unfold f_X11_isSpan at h
  refine RN_iload_n (pc := 0) (k := 0) (by decide +kernel) rfl rfl ?_
  refine RN_i2l (pc := 1) (by decide +kernel) ?_
  obtain ⟨x6, f5, h⟩ := bp_el h
  refine RN_callS (M := M_X11_isSpan) (pc := 2) (idx := 93) (as := [.long (v0.toInt64)]) (st := []) (t_X11_isLine f5) (by decide +kernel) lk_RX11_93 rfl (Nat.le_of_ble_eq_true rfl) ⟨Nat.le_of_ble_eq_true rfl, Nat.le_of_ble_eq_true rfl⟩ rfl ?_
  show RN G M_X11_isSpan 5 [some (.int v0), some (.int v1), some (.int v2)] [.int x6] σ _ _
  refine RN_if_eq (pc := 5) (off := 27) (tgt := 32) (by decide +kernel) (by decide) (fun c7 => ?_) (fun c7 => ?_)
  · replace h := it_t c7 h
    exact RN_weak (l := []) trivial (tb_X11_isSpan_32  h)
  · replace h := it_f c7 h
    refine RN_iload_n (pc := 8) (k := 1) (by decide +kernel) rfl rfl ?_
    refine RN_i2l (pc := 9) (by decide +kernel) ?_
    obtain ⟨x9, f8, h⟩ := bp_el h
    refine RN_callS (M := M_X11_isSpan) (pc := 10) (idx := 93) (as := [.long (v1.toInt64)]) (st := []) (t_X11_isLine f8) (by decide +kernel) lk_RX11_93 rfl (Nat.le_of_ble_eq_true rfl) ⟨Nat.le_of_ble_eq_true rfl, Nat.le_of_ble_eq_true rfl⟩ rfl ?_
    show RN G M_X11_isSpan 13 [some (.int v0), some (.int v1), some (.int v2)] [.int x9] σ _ _
    refine RN_if_eq (pc := 13) (off := 19) (tgt := 32) (by decide +kernel) (by decide) (fun c10 => ?_) (fun c10 => ?_)
    · replace h := it_t c10 h
      exact RN_weak (l := []) trivial (tb_X11_isSpan_32  h)
    · replace h := it_f c10 h
      refine RN_iload_n (pc := 16) (k := 1) (by decide +kernel) rfl rfl ?_
      refine RN_iload_n (pc := 17) (k := 0) (by decide +kernel) rfl rfl ?_
      refine RN_icmp_lt (pc := 18) (off := 14) (tgt := 32) (by decide +kernel) (by decide) (fun c11 => ?_) (fun c11 => ?_)
      · replace h := it_t c11 h
        exact RN_weak (l := []) trivial (tb_X11_isSpan_32  h)
      · replace h := it_f c11 h
        refine RN_iload_n (pc := 21) (k := 1) (by decide +kernel) rfl rfl ?_
        refine RN_iload_n (pc := 22) (k := 0) (by decide +kernel) rfl rfl ?_
        refine RN_isub (pc := 23) (by decide +kernel) ?_
        refine RN_iload_n (pc := 24) (k := 2) (by decide +kernel) rfl rfl ?_
        refine RN_icmp_gt (pc := 25) (off := 7) (tgt := 32) (by decide +kernel) (by decide) (fun c12 => ?_) (fun c12 => ?_)
        · replace h := it_t c12 h
          exact RN_weak (l := []) trivial (tb_X11_isSpan_32  h)
        · replace h := it_f c12 h
          refine RN_iconst (pc := 28) (n := 1) (v := 1) (by decide +kernel) (by decide) ?_
          refine RN_goto (pc := 29) (off := 4) (tgt := 33) (by decide +kernel) (by decide) ?_
          obtain rfl := some_el h
          exact RN_zreturn (by decide +kernel) rfl (Or.inr rfl)
def b_X11_least_73 (n : Nat) (v0 : Nat) (v1 : Int32) (v2 : Int32) (v4 : Int32) (v5 : Int32) (s0 : Nat) (σ : Sg) : Option (Int32 × Sg) :=
  ck (okO σ v0 10) <|
  ck (¬ gR σ v0 6 = 0) <|
  nm (gR σ v0 6) fun r58 =>
  ck (¬ gR σ v0 0 = 0) <|
  nm (gR σ v0 0) fun r60 =>
  ck (¬ gR σ v0 3 = 0) <|
  nm (gR σ v0 3) fun r62 =>
  ck (okA σ r62 16 v1) <|
  ck (¬ gR σ r62 v1.toNatClampNeg = 0) <|
  nm (gR σ r62 v1.toNatClampNeg) fun r65 =>
  ck (okO σ r58 9) <|
  bd (f_X10_firstBreak n r58 r60 r65 s0 v2 v4 v5 σ) fun x69 σ68 =>
  some (x69, σ68)
set_option maxRecDepth 20000 in
theorem tb_X11_least_73 {G : Gl} {xr : Int32} {σr : Sg} (n : Nat) (v0 : Nat) (v1 : Int32) (v2 : Int32) (v4 : Int32) (v5 : Int32) (s0 : Nat) (σ : Sg) (h : b_X11_least_73 n v0 v1 v2 v4 v5 s0 σ = some (xr, σr)) : RN G M_X11_least 73 [some (.ref v0), some (.int v1), some (.int v2), none, some (.int v4), some (.int v5)] [.ref s0] σ (.inl (some (.int xr))) σr := by
  unfold b_X11_least_73 at h
  refine RN_astore (pc := 73) (i := 6) (ls2 := [some (.ref v0), some (.int v1), some (.int v2), none, some (.int v4), some (.int v5), some (.ref s0)]) (by decide +kernel) (by decide) rfl ?_
  refine RN_aload_n (pc := 75) (k := 0) (by decide +kernel) rfl rfl ?_
  obtain ⟨c56, h⟩ := ck_el h
  obtain ⟨c57, h⟩ := ck_el h
  refine RN_getR (pc := 76) (idx := 52) (ci := 10) (k := 6) (by decide +kernel) lf_RX11_52 rfl c56 c57 ?_
  obtain ⟨r58, er58, h⟩ := nm_el h
  refine RN_nmR er58 ?_
  refine RN_aload_n (pc := 79) (k := 0) (by decide +kernel) rfl rfl ?_
  obtain ⟨c59, h⟩ := ck_el h
  refine RN_getR (pc := 80) (idx := 10) (ci := 10) (k := 0) (by decide +kernel) lf_RX11_10 rfl c56 c59 ?_
  obtain ⟨r60, er60, h⟩ := nm_el h
  refine RN_nmR er60 ?_
  refine RN_aload_n (pc := 83) (k := 0) (by decide +kernel) rfl rfl ?_
  obtain ⟨c61, h⟩ := ck_el h
  refine RN_getR (pc := 84) (idx := 32) (ci := 10) (k := 3) (by decide +kernel) lf_RX11_32 rfl c56 c61 ?_
  obtain ⟨r62, er62, h⟩ := nm_el h
  refine RN_nmR er62 ?_
  refine RN_iload_n (pc := 87) (k := 1) (by decide +kernel) rfl rfl ?_
  obtain ⟨c63, h⟩ := ck_el h
  obtain ⟨c64, h⟩ := ck_el h
  refine RN_aald16 (pc := 88) (by decide +kernel) c63 c64 ?_
  obtain ⟨r65, er65, h⟩ := nm_el h
  refine RN_nmR er65 ?_
  refine RN_aload (pc := 89) (i := 6) (by decide +kernel) rfl ?_
  refine RN_iload_n (pc := 91) (k := 2) (by decide +kernel) rfl rfl ?_
  refine RN_iload (pc := 92) (i := 4) (by decide +kernel) rfl ?_
  refine RN_iload (pc := 94) (i := 5) (by decide +kernel) rfl ?_
  obtain ⟨c66, h⟩ := ck_el h
  obtain ⟨x69, σ68, f67, h⟩ := bd_el h
  refine RN_callV (M := M_X11_least) (pc := 96) (idx := 196) (as := [.ref r60, .ref r65, .ref s0, .int v2, .int v4, .int v5]) (st := []) (t_X10_firstBreak f67) (by decide +kernel) lk_RX11_196 rfl ⟨by decide, fun q hq => by cases hq; rfl⟩ c66 (Nat.le_of_ble_eq_true rfl) ⟨Nat.le_of_ble_eq_true rfl, Nat.le_of_ble_eq_true rfl⟩ rfl ?_
  show RN G M_X11_least 99 [some (.ref v0), some (.int v1), some (.int v2), none, some (.int v4), some (.int v5), some (.ref s0)] [.int x69] σ68 _ _
  obtain ⟨rfl, rfl⟩ := some_el2 h
  exact RN_ireturn (by decide +kernel) rfl
def b_X11_least_53 (n : Nat) (v0 : Nat) (v1 : Int32) (v2 : Int32) (v3 : Int32) (v4 : Int32) (v5 : Int32) (σ : Sg) : Option (Int32 × Sg) :=
  if v2 = (2 : Int32) then (
    ck (okO σ v0 10) <|
    ck (¬ gR σ v0 3 = 0) <|
    nm (gR σ v0 3) fun r72 =>
    ck (okA σ r72 16 v3) <|
    ck (¬ gR σ r72 v3.toNatClampNeg = 0) <|
    nm (gR σ r72 v3.toNatClampNeg) fun r75 =>
    b_X11_least_73 n v0 v1 v2 v4 v5 r75 σ)
  else (
    ck (okO σ v0 10) <|
    ck (¬ gR σ v0 3 = 0) <|
    nm (gR σ v0 3) fun r52 =>
    ck (okA σ r52 16 v1) <|
    ck (¬ gR σ r52 v1.toNatClampNeg = 0) <|
    nm (gR σ r52 v1.toNatClampNeg) fun r55 =>
    b_X11_least_73 n v0 v1 v2 v4 v5 r55 σ)
set_option maxRecDepth 20000 in
theorem tb_X11_least_53 {G : Gl} {xr : Int32} {σr : Sg} (n : Nat) (v0 : Nat) (v1 : Int32) (v2 : Int32) (v3 : Int32) (v4 : Int32) (v5 : Int32) (σ : Sg) (h : b_X11_least_53 n v0 v1 v2 v3 v4 v5 σ = some (xr, σr)) : RN G M_X11_least 53 [some (.ref v0), some (.int v1), some (.int v2), some (.int v3), some (.int v4), some (.int v5)] [] σ (.inl (some (.int xr))) σr := by
  unfold b_X11_least_53 at h
  refine RN_iload_n (pc := 53) (k := 2) (by decide +kernel) rfl rfl ?_
  refine RN_iconst (pc := 54) (n := 2) (v := 2) (by decide +kernel) (by decide) ?_
  refine RN_icmp_ne (pc := 55) (off := 12) (tgt := 67) (by decide +kernel) (by decide) (fun c49 => ?_) (fun c49 => ?_)
  · replace h := it_f c49 h
    refine RN_aload_n (pc := 67) (k := 0) (by decide +kernel) rfl rfl ?_
    obtain ⟨c50, h⟩ := ck_el h
    obtain ⟨c51, h⟩ := ck_el h
    refine RN_getR (pc := 68) (idx := 32) (ci := 10) (k := 3) (by decide +kernel) lf_RX11_32 rfl c50 c51 ?_
    obtain ⟨r52, er52, h⟩ := nm_el h
    refine RN_nmR er52 ?_
    refine RN_iload_n (pc := 71) (k := 1) (by decide +kernel) rfl rfl ?_
    obtain ⟨c53, h⟩ := ck_el h
    obtain ⟨c54, h⟩ := ck_el h
    refine RN_aald16 (pc := 72) (by decide +kernel) c53 c54 ?_
    obtain ⟨r55, er55, h⟩ := nm_el h
    refine RN_nmR er55 ?_
    exact RN_weak (l := [some (.ref v0), some (.int v1), some (.int v2), none, some (.int v4), some (.int v5)]) (And.intro rfl (And.intro rfl (And.intro rfl (And.intro rfl (And.intro rfl trivial))))) (tb_X11_least_73 n v0 v1 v2 v4 v5 r55 σ h)
  · replace h := it_t c49 h
    refine RN_aload_n (pc := 58) (k := 0) (by decide +kernel) rfl rfl ?_
    obtain ⟨c70, h⟩ := ck_el h
    obtain ⟨c71, h⟩ := ck_el h
    refine RN_getR (pc := 59) (idx := 32) (ci := 10) (k := 3) (by decide +kernel) lf_RX11_32 rfl c70 c71 ?_
    obtain ⟨r72, er72, h⟩ := nm_el h
    refine RN_nmR er72 ?_
    refine RN_iload_n (pc := 62) (k := 3) (by decide +kernel) rfl rfl ?_
    obtain ⟨c73, h⟩ := ck_el h
    obtain ⟨c74, h⟩ := ck_el h
    refine RN_aald16 (pc := 63) (by decide +kernel) c73 c74 ?_
    obtain ⟨r75, er75, h⟩ := nm_el h
    refine RN_nmR er75 ?_
    refine RN_goto (pc := 64) (off := 9) (tgt := 73) (by decide +kernel) (by decide) ?_
    exact RN_weak (l := [some (.ref v0), some (.int v1), some (.int v2), none, some (.int v4), some (.int v5)]) (And.intro rfl (And.intro rfl (And.intro rfl (And.intro rfl (And.intro rfl trivial))))) (tb_X11_least_73 n v0 v1 v2 v4 v5 r75 σ h)
def f_X11_least (n : Nat) (v0 : Nat) (v1 : Int32) (v2 : Int32) (v3 : Int32) (v4 : Int32) (v5 : Int32) (σ : Sg) : Option (Int32 × Sg) :=
  ck (okO σ v0 10) <|
  bp (f_X11_isProgram v0 v1 σ) fun x39 =>
  if x39 = 0 then (
    some ((-1 : Int32), σ))
  else (
    bp (f_X11_isLaw v2) fun x42 =>
    if x42 = 0 then (
      some ((-1 : Int32), σ))
    else (
      bp (f_X11_isSpan v4 v5 (2000 : Int32)) fun x45 =>
      if x45 = 0 then (
        some ((-1 : Int32), σ))
      else (
        if v2 = (2 : Int32) then (
          bp (f_X11_isProgram v0 v3 σ) fun x77 =>
          if x77 = 0 then (
            some ((-1 : Int32), σ))
          else (
            b_X11_least_53 n v0 v1 v2 v3 v4 v5 σ))
        else (
          if v3 = (-1 : Int32) then (
            b_X11_least_53 n v0 v1 v2 v3 v4 v5 σ)
          else (
            some ((-1 : Int32), σ))))))
set_option maxRecDepth 20000 in
theorem t_X11_least {G : Gl} {xr : Int32} {σr : Sg} {n : Nat} {v0 : Nat} {v1 : Int32} {v2 : Int32} {v3 : Int32} {v4 : Int32} {v5 : Int32} {σ : Sg} (h : f_X11_least n v0 v1 v2 v3 v4 v5 σ = some (xr, σr)) : MT G M_X11_least [.ref v0, .int v1, .int v2, .int v3, .int v4, .int v5] σ (some (.int xr)) σr := by
  refine MT_of rfl rfl (Nat.le_of_ble_eq_true rfl) ?_
  show RN G M_X11_least 0 [some (.ref v0), some (.int v1), some (.int v2), some (.int v3), some (.int v4), some (.int v5)] [] σ (.inl (some (.int xr))) σr
  unfold f_X11_least at h
  refine RN_aload_n (pc := 0) (k := 0) (by decide +kernel) rfl rfl ?_
  refine RN_iload_n (pc := 1) (k := 1) (by decide +kernel) rfl rfl ?_
  obtain ⟨c37, h⟩ := ck_el h
  obtain ⟨x39, f38, h⟩ := bp_el h
  refine RN_callV (M := M_X11_least) (pc := 2) (idx := 108) (as := [.int v1]) (st := []) (t_X11_isProgram f38) (by decide +kernel) lk_RX11_108 rfl ⟨by decide, fun q hq => by cases hq; rfl⟩ c37 (Nat.le_of_ble_eq_true rfl) ⟨Nat.le_of_ble_eq_true rfl, Nat.le_of_ble_eq_true rfl⟩ rfl ?_
  show RN G M_X11_least 5 [some (.ref v0), some (.int v1), some (.int v2), some (.int v3), some (.int v4), some (.int v5)] [.int x39] σ _ _
  refine RN_if_eq (pc := 5) (off := 23) (tgt := 28) (by decide +kernel) (by decide) (fun c40 => ?_) (fun c40 => ?_)
  · replace h := it_t c40 h
    refine RN_iconst (pc := 28) (n := -1) (v := -1) (by decide +kernel) (by decide) ?_
    obtain ⟨rfl, rfl⟩ := some_el2 h
    exact RN_ireturn (by decide +kernel) rfl
  · replace h := it_f c40 h
    refine RN_iload_n (pc := 8) (k := 2) (by decide +kernel) rfl rfl ?_
    obtain ⟨x42, f41, h⟩ := bp_el h
    refine RN_callS (M := M_X11_least) (pc := 9) (idx := 190) (as := [.int v2]) (st := []) (t_X11_isLaw f41) (by decide +kernel) lk_RX11_190 rfl (Nat.le_of_ble_eq_true rfl) ⟨Nat.le_of_ble_eq_true rfl, Nat.le_of_ble_eq_true rfl⟩ rfl ?_
    show RN G M_X11_least 12 [some (.ref v0), some (.int v1), some (.int v2), some (.int v3), some (.int v4), some (.int v5)] [.int x42] σ _ _
    refine RN_if_eq (pc := 12) (off := 16) (tgt := 28) (by decide +kernel) (by decide) (fun c43 => ?_) (fun c43 => ?_)
    · replace h := it_t c43 h
      refine RN_iconst (pc := 28) (n := -1) (v := -1) (by decide +kernel) (by decide) ?_
      obtain ⟨rfl, rfl⟩ := some_el2 h
      exact RN_ireturn (by decide +kernel) rfl
    · replace h := it_f c43 h
      refine RN_iload (pc := 15) (i := 4) (by decide +kernel) rfl ?_
      refine RN_iload (pc := 17) (i := 5) (by decide +kernel) rfl ?_
      refine RN_sipush (pc := 19) (n := 2000) (v := 2000) (by decide +kernel) (by decide) ?_
      obtain ⟨x45, f44, h⟩ := bp_el h
      refine RN_callS (M := M_X11_least) (pc := 22) (idx := 193) (as := [.int v4, .int v5, .int (2000 : Int32)]) (st := []) (t_X11_isSpan f44) (by decide +kernel) lk_RX11_193 rfl (Nat.le_of_ble_eq_true rfl) ⟨Nat.le_of_ble_eq_true rfl, Nat.le_of_ble_eq_true rfl⟩ rfl ?_
      show RN G M_X11_least 25 [some (.ref v0), some (.int v1), some (.int v2), some (.int v3), some (.int v4), some (.int v5)] [.int x45] σ _ _
      refine RN_if_ne (pc := 25) (off := 5) (tgt := 30) (by decide +kernel) (by decide) (fun c46 => ?_) (fun c46 => ?_)
      · replace h := it_f c46 h
        refine RN_iload_n (pc := 30) (k := 2) (by decide +kernel) rfl rfl ?_
        refine RN_iconst (pc := 31) (n := 2) (v := 2) (by decide +kernel) (by decide) ?_
        refine RN_icmp_ne (pc := 32) (off := 14) (tgt := 46) (by decide +kernel) (by decide) (fun c47 => ?_) (fun c47 => ?_)
        · replace h := it_f c47 h
          refine RN_iload_n (pc := 46) (k := 3) (by decide +kernel) rfl rfl ?_
          refine RN_iconst (pc := 47) (n := -1) (v := -1) (by decide +kernel) (by decide) ?_
          refine RN_icmp_eq (pc := 48) (off := 5) (tgt := 53) (by decide +kernel) (by decide) (fun c48 => ?_) (fun c48 => ?_)
          · replace h := it_t c48 h
            exact RN_weak (l := [some (.ref v0), some (.int v1), some (.int v2), some (.int v3), some (.int v4), some (.int v5)]) (And.intro rfl (And.intro rfl (And.intro rfl (And.intro rfl (And.intro rfl (And.intro rfl trivial)))))) (tb_X11_least_53 n v0 v1 v2 v3 v4 v5 σ h)
          · replace h := it_f c48 h
            refine RN_iconst (pc := 51) (n := -1) (v := -1) (by decide +kernel) (by decide) ?_
            obtain ⟨rfl, rfl⟩ := some_el2 h
            exact RN_ireturn (by decide +kernel) rfl
        · replace h := it_t c47 h
          refine RN_aload_n (pc := 35) (k := 0) (by decide +kernel) rfl rfl ?_
          refine RN_iload_n (pc := 36) (k := 3) (by decide +kernel) rfl rfl ?_
          obtain ⟨x77, f76, h⟩ := bp_el h
          refine RN_callV (M := M_X11_least) (pc := 37) (idx := 108) (as := [.int v3]) (st := []) (t_X11_isProgram f76) (by decide +kernel) lk_RX11_108 rfl ⟨by decide, fun q hq => by cases hq; rfl⟩ c37 (Nat.le_of_ble_eq_true rfl) ⟨Nat.le_of_ble_eq_true rfl, Nat.le_of_ble_eq_true rfl⟩ rfl ?_
          show RN G M_X11_least 40 [some (.ref v0), some (.int v1), some (.int v2), some (.int v3), some (.int v4), some (.int v5)] [.int x77] σ _ _
          refine RN_if_ne (pc := 40) (off := 13) (tgt := 53) (by decide +kernel) (by decide) (fun c78 => ?_) (fun c78 => ?_)
          · replace h := it_f c78 h
            exact RN_weak (l := [some (.ref v0), some (.int v1), some (.int v2), some (.int v3), some (.int v4), some (.int v5)]) (And.intro rfl (And.intro rfl (And.intro rfl (And.intro rfl (And.intro rfl (And.intro rfl trivial)))))) (tb_X11_least_53 n v0 v1 v2 v3 v4 v5 σ h)
          · replace h := it_t c78 h
            refine RN_goto (pc := 43) (off := 8) (tgt := 51) (by decide +kernel) (by decide) ?_
            refine RN_iconst (pc := 51) (n := -1) (v := -1) (by decide +kernel) (by decide) ?_
            obtain ⟨rfl, rfl⟩ := some_el2 h
            exact RN_ireturn (by decide +kernel) rfl
      · replace h := it_t c46 h
        refine RN_iconst (pc := 28) (n := -1) (v := -1) (by decide +kernel) (by decide) ?_
        obtain ⟨rfl, rfl⟩ := some_el2 h
        exact RN_ireturn (by decide +kernel) rfl
def f_X11_order (n : Nat) (v0 : Nat) (v1 : Int32) (σ : Sg) : Option (Int32 × Sg) :=
  ck (okO σ v0 10) <|
  bp (f_X11_isProgram v0 v1 σ) fun x26 =>
  if x26 = 0 then (
    some ((-1 : Int32), σ))
  else (
    ck (¬ gR σ v0 1 = 0) <|
    nm (gR σ v0 1) fun r29 =>
    ck (okO σ r29 0) <|
    if (gI σ r29 1) ≤ (6 : Int32) then (
      ck (¬ gR σ v0 6 = 0) <|
      nm (gR σ v0 6) fun r33 =>
      ck (¬ gR σ v0 0 = 0) <|
      nm (gR σ v0 0) fun r35 =>
      ck (¬ gR σ v0 3 = 0) <|
      nm (gR σ v0 3) fun r37 =>
      ck (okA σ r37 16 v1) <|
      ck (¬ gR σ r37 v1.toNatClampNeg = 0) <|
      nm (gR σ r37 v1.toNatClampNeg) fun r40 =>
      nm (gR σ v0 1) fun r41 =>
      ck (okO σ r33 9) <|
      bd (f_X10_firstOrderThatMatters n r33 r35 r40 r41 σ) fun x45 σ44 =>
      some (x45, σ44))
    else (
      some ((-2 : Int32), σ)))
set_option maxRecDepth 20000 in
theorem t_X11_order {G : Gl} {xr : Int32} {σr : Sg} {n : Nat} {v0 : Nat} {v1 : Int32} {σ : Sg} (h : f_X11_order n v0 v1 σ = some (xr, σr)) : MT G M_X11_order [.ref v0, .int v1] σ (some (.int xr)) σr := by
  refine MT_of rfl rfl (Nat.le_of_ble_eq_true rfl) ?_
  show RN G M_X11_order 0 [some (.ref v0), some (.int v1)] [] σ (.inl (some (.int xr))) σr
  unfold f_X11_order at h
  refine RN_aload_n (pc := 0) (k := 0) (by decide +kernel) rfl rfl ?_
  refine RN_iload_n (pc := 1) (k := 1) (by decide +kernel) rfl rfl ?_
  obtain ⟨c24, h⟩ := ck_el h
  obtain ⟨x26, f25, h⟩ := bp_el h
  refine RN_callV (M := M_X11_order) (pc := 2) (idx := 108) (as := [.int v1]) (st := []) (t_X11_isProgram f25) (by decide +kernel) lk_RX11_108 rfl ⟨by decide, fun q hq => by cases hq; rfl⟩ c24 (Nat.le_of_ble_eq_true rfl) ⟨Nat.le_of_ble_eq_true rfl, Nat.le_of_ble_eq_true rfl⟩ rfl ?_
  show RN G M_X11_order 5 [some (.ref v0), some (.int v1)] [.int x26] σ _ _
  refine RN_if_ne (pc := 5) (off := 5) (tgt := 10) (by decide +kernel) (by decide) (fun c27 => ?_) (fun c27 => ?_)
  · replace h := it_f c27 h
    refine RN_aload_n (pc := 10) (k := 0) (by decide +kernel) rfl rfl ?_
    obtain ⟨c28, h⟩ := ck_el h
    refine RN_getR (pc := 11) (idx := 19) (ci := 10) (k := 1) (by decide +kernel) lf_RX11_19 rfl c24 c28 ?_
    obtain ⟨r29, er29, h⟩ := nm_el h
    refine RN_nmR er29 ?_
    obtain ⟨c30, h⟩ := ck_el h
    refine RN_getI (pc := 14) (idx := 72) (ci := 0) (k := 1) (by decide +kernel) lf_RX11_72 (Or.inl rfl) c30 ?_
    refine RN_bipush (pc := 17) (n := 6) (v := 6) (by decide +kernel) (by decide) ?_
    refine RN_icmp_le (pc := 19) (off := 6) (tgt := 25) (by decide +kernel) (by decide) (fun c31 => ?_) (fun c31 => ?_)
    · replace h := it_t c31 h
      refine RN_aload_n (pc := 25) (k := 0) (by decide +kernel) rfl rfl ?_
      obtain ⟨c32, h⟩ := ck_el h
      refine RN_getR (pc := 26) (idx := 52) (ci := 10) (k := 6) (by decide +kernel) lf_RX11_52 rfl c24 c32 ?_
      obtain ⟨r33, er33, h⟩ := nm_el h
      refine RN_nmR er33 ?_
      refine RN_aload_n (pc := 29) (k := 0) (by decide +kernel) rfl rfl ?_
      obtain ⟨c34, h⟩ := ck_el h
      refine RN_getR (pc := 30) (idx := 10) (ci := 10) (k := 0) (by decide +kernel) lf_RX11_10 rfl c24 c34 ?_
      obtain ⟨r35, er35, h⟩ := nm_el h
      refine RN_nmR er35 ?_
      refine RN_aload_n (pc := 33) (k := 0) (by decide +kernel) rfl rfl ?_
      obtain ⟨c36, h⟩ := ck_el h
      refine RN_getR (pc := 34) (idx := 32) (ci := 10) (k := 3) (by decide +kernel) lf_RX11_32 rfl c24 c36 ?_
      obtain ⟨r37, er37, h⟩ := nm_el h
      refine RN_nmR er37 ?_
      refine RN_iload_n (pc := 37) (k := 1) (by decide +kernel) rfl rfl ?_
      obtain ⟨c38, h⟩ := ck_el h
      obtain ⟨c39, h⟩ := ck_el h
      refine RN_aald16 (pc := 38) (by decide +kernel) c38 c39 ?_
      obtain ⟨r40, er40, h⟩ := nm_el h
      refine RN_nmR er40 ?_
      refine RN_aload_n (pc := 39) (k := 0) (by decide +kernel) rfl rfl ?_
      refine RN_getR (pc := 40) (idx := 19) (ci := 10) (k := 1) (by decide +kernel) lf_RX11_19 rfl c24 c28 ?_
      obtain ⟨r41, er41, h⟩ := nm_el h
      refine RN_nmR er41 ?_
      obtain ⟨c42, h⟩ := ck_el h
      obtain ⟨x45, σ44, f43, h⟩ := bd_el h
      refine RN_callV (M := M_X11_order) (pc := 43) (idx := 200) (as := [.ref r35, .ref r40, .ref r41]) (st := []) (t_X10_firstOrderThatMatters f43) (by decide +kernel) lk_RX11_200 rfl ⟨by decide, fun q hq => by cases hq; rfl⟩ c42 (Nat.le_of_ble_eq_true rfl) ⟨Nat.le_of_ble_eq_true rfl, Nat.le_of_ble_eq_true rfl⟩ rfl ?_
      show RN G M_X11_order 46 [some (.ref v0), some (.int v1)] [.int x45] σ44 _ _
      obtain ⟨rfl, rfl⟩ := some_el2 h
      exact RN_ireturn (by decide +kernel) rfl
    · replace h := it_f c31 h
      refine RN_bipush (pc := 22) (n := -2) (v := -2) (by decide +kernel) (by decide) ?_
      obtain ⟨rfl, rfl⟩ := some_el2 h
      exact RN_ireturn (by decide +kernel) rfl
  · replace h := it_t c27 h
    refine RN_iconst (pc := 8) (n := -1) (v := -1) (by decide +kernel) (by decide) ?_
    obtain ⟨rfl, rfl⟩ := some_el2 h
    exact RN_ireturn (by decide +kernel) rfl
def b_X11_isMode_14 : Option Int32 :=
  some (0 : Int32)
set_option maxRecDepth 20000 in
theorem tb_X11_isMode_14 {G : Gl} {xr : Int32} {σ : Sg} (h : b_X11_isMode_14 = some xr) : RN G M_X11_isMode 14 [] [] σ (.inl (some (.int xr))) σ := by
  unfold b_X11_isMode_14 at h
  refine RN_iconst (pc := 14) (n := 0) (v := 0) (by decide +kernel) (by decide) ?_
  obtain rfl := some_el h
  exact RN_zreturn (by decide +kernel) rfl (Or.inl rfl)
def f_X11_isMode (v0 : Int32) : Option Int32 :=
  if v0 < 0 then (
    b_X11_isMode_14)
  else (
    if (6 : Int32) ≤ v0 then (
      b_X11_isMode_14)
    else (
      some (1 : Int32)))
set_option maxRecDepth 20000 in
theorem t_X11_isMode {G : Gl} {xr : Int32} {v0 : Int32} {σ : Sg} (h : f_X11_isMode v0 = some xr) : MT G M_X11_isMode [.int v0] σ (some (.int xr)) σ := by
  refine MT_of rfl rfl (Nat.le_of_ble_eq_true rfl) ?_
  show RN G M_X11_isMode 0 [some (.int v0)] [] σ (.inl (some (.int xr))) σ
  unfold f_X11_isMode at h
  refine RN_iload_n (pc := 0) (k := 0) (by decide +kernel) rfl rfl ?_
  refine RN_if_lt (pc := 1) (off := 13) (tgt := 14) (by decide +kernel) (by decide) (fun c1 => ?_) (fun c1 => ?_)
  · replace h := it_t c1 h
    exact RN_weak (l := []) trivial (tb_X11_isMode_14  h)
  · replace h := it_f c1 h
    refine RN_iload_n (pc := 4) (k := 0) (by decide +kernel) rfl rfl ?_
    refine RN_bipush (pc := 5) (n := 6) (v := 6) (by decide +kernel) (by decide) ?_
    refine RN_icmp_ge (pc := 7) (off := 7) (tgt := 14) (by decide +kernel) (by decide) (fun c2 => ?_) (fun c2 => ?_)
    · replace h := it_t c2 h
      exact RN_weak (l := []) trivial (tb_X11_isMode_14  h)
    · replace h := it_f c2 h
      refine RN_iconst (pc := 10) (n := 1) (v := 1) (by decide +kernel) (by decide) ?_
      refine RN_goto (pc := 11) (off := 4) (tgt := 15) (by decide +kernel) (by decide) ?_
      obtain rfl := some_el h
      exact RN_zreturn (by decide +kernel) rfl (Or.inr rfl)
def b_X11_mend_206 (k76 : Int32 → Int32 → Sg → Option (Int32 × Sg)) (n : Nat) (v0 : Nat) (v2 : Int32) (v3 : Int32) (v4 : Int32) (v5 : Nat) (v6 : Int32) (v7 : Int32) (σ : Sg) : Option (Int32 × Sg) :=
  nm (v7 + (1 : Int32)) fun x86 =>
  k76 v6 x86 σ
set_option maxRecDepth 20000 in
theorem tb_X11_mend_206 {G : Gl} {xr : Int32} {σr : Sg} (n : Nat) (v0 : Nat) (v2 : Int32) (v3 : Int32) (v4 : Int32) (v5 : Nat) (v6 : Int32) (v7 : Int32) (σ : Sg) (k76 : Int32 → Int32 → Sg → Option (Int32 × Sg)) (hk76 : ∀ (c6 : Int32) (c7 : Int32) (τ : Sg), k76 c6 c7 τ = some (xr, σr) → RN G M_X11_mend 76 [some (.ref v0), none, some (.int v2), some (.int v3), some (.int v4), some (.ref v5), some (.int c6), some (.int c7)] [] τ (.inl (some (.int xr))) σr) (h : b_X11_mend_206 k76 n v0 v2 v3 v4 v5 v6 v7 σ = some (xr, σr)) : RN G M_X11_mend 206 [some (.ref v0), none, some (.int v2), some (.int v3), some (.int v4), some (.ref v5), some (.int v6), some (.int v7)] [] σ (.inl (some (.int xr))) σr := by
  unfold b_X11_mend_206 at h
  obtain ⟨x86, ex86, h⟩ := nm_el h
  refine RN_iinc (pc := 206) (i := 7) (n := 1) (v := x86) (ls2 := [some (.ref v0), none, some (.int v2), some (.int v3), some (.int v4), some (.ref v5), some (.int v6), some (.int x86)]) (by decide +kernel) rfl (by rw [ex86]; rfl) (by decide) rfl ?_
  refine RN_goto (pc := 209) (off := -133) (tgt := 76) (by decide +kernel) (by decide) ?_
  exact RN_weak (l := [some (.ref v0), none, some (.int v2), some (.int v3), some (.int v4), some (.ref v5), some (.int v6), some (.int x86)]) (And.intro rfl (And.intro rfl (And.intro rfl (And.intro rfl (And.intro rfl (And.intro rfl (And.intro rfl trivial))))))) (hk76 v6 x86 σ h)
def b_X11_mend_200 (k76 : Int32 → Int32 → Sg → Option (Int32 × Sg)) (k107 : Int32 → Int32 → Sg → Option (Int32 × Sg)) (n : Nat) (v0 : Nat) (v2 : Int32) (v3 : Int32) (v4 : Int32) (v5 : Nat) (v6 : Int32) (v7 : Int32) (v8 : Int32) (v9 : Int32) (v10 : Int32) (σ : Sg) : Option (Int32 × Sg) :=
  nm (v10 + (1 : Int32)) fun x105 =>
  k107 v6 x105 σ
set_option maxRecDepth 20000 in
theorem tb_X11_mend_200 {G : Gl} {xr : Int32} {σr : Sg} (n : Nat) (v0 : Nat) (v2 : Int32) (v3 : Int32) (v4 : Int32) (v5 : Nat) (v6 : Int32) (v7 : Int32) (v8 : Int32) (v9 : Int32) (v10 : Int32) (σ : Sg) (k76 : Int32 → Int32 → Sg → Option (Int32 × Sg)) (hk76 : ∀ (c6 : Int32) (c7 : Int32) (τ : Sg), k76 c6 c7 τ = some (xr, σr) → RN G M_X11_mend 76 [some (.ref v0), none, some (.int v2), some (.int v3), some (.int v4), some (.ref v5), some (.int c6), some (.int c7)] [] τ (.inl (some (.int xr))) σr) (k107 : Int32 → Int32 → Sg → Option (Int32 × Sg)) (hk107 : ∀ (c6 : Int32) (c10 : Int32) (τ : Sg), k107 c6 c10 τ = some (xr, σr) → RN G M_X11_mend 107 [some (.ref v0), none, some (.int v2), some (.int v3), some (.int v4), some (.ref v5), some (.int c6), some (.int v7), some (.int v8), some (.int v9), some (.int c10)] [] τ (.inl (some (.int xr))) σr) (h : b_X11_mend_200 k76 k107 n v0 v2 v3 v4 v5 v6 v7 v8 v9 v10 σ = some (xr, σr)) : RN G M_X11_mend 200 [some (.ref v0), none, some (.int v2), some (.int v3), some (.int v4), some (.ref v5), some (.int v6), some (.int v7), some (.int v8), some (.int v9), some (.int v10)] [] σ (.inl (some (.int xr))) σr := by
  unfold b_X11_mend_200 at h
  obtain ⟨x105, ex105, h⟩ := nm_el h
  refine RN_iinc (pc := 200) (i := 10) (n := 1) (v := x105) (ls2 := [some (.ref v0), none, some (.int v2), some (.int v3), some (.int v4), some (.ref v5), some (.int v6), some (.int v7), some (.int v8), some (.int v9), some (.int x105)]) (by decide +kernel) rfl (by rw [ex105]; rfl) (by decide) rfl ?_
  refine RN_goto (pc := 203) (off := -96) (tgt := 107) (by decide +kernel) (by decide) ?_
  exact RN_weak (l := [some (.ref v0), none, some (.int v2), some (.int v3), some (.int v4), some (.ref v5), some (.int v6), some (.int v7), some (.int v8), some (.int v9), some (.int x105)]) (And.intro rfl (And.intro rfl (And.intro rfl (And.intro rfl (And.intro rfl (And.intro rfl (And.intro rfl (And.intro rfl (And.intro rfl (And.intro rfl trivial)))))))))) (hk107 v6 x105 σ h)
def b_X11_mend_175 (k76 : Int32 → Int32 → Sg → Option (Int32 × Sg)) (k107 : Int32 → Int32 → Sg → Option (Int32 × Sg)) (n : Nat) (v0 : Nat) (v2 : Int32) (v3 : Int32) (v4 : Int32) (v5 : Nat) (v6 : Int32) (v7 : Int32) (v8 : Int32) (v9 : Int32) (v10 : Int32) (σ : Sg) : Option (Int32 × Sg) :=
  ck (okO σ v5 5) <|
  bp (f_X6_choose v5 v7 v8 σ) fun σ103 =>
  if v6 = (9999999 : Int32) then (
    some (((10 : Int32) * v7) + v10, σ103))
  else (
    b_X11_mend_200 k76 k107 n v0 v2 v3 v4 v5 v6 v7 v8 v9 v10 σ103)
set_option maxRecDepth 20000 in
theorem tb_X11_mend_175 {G : Gl} {xr : Int32} {σr : Sg} (n : Nat) (v0 : Nat) (v2 : Int32) (v3 : Int32) (v4 : Int32) (v5 : Nat) (v6 : Int32) (v7 : Int32) (v8 : Int32) (v9 : Int32) (v10 : Int32) (σ : Sg) (k76 : Int32 → Int32 → Sg → Option (Int32 × Sg)) (hk76 : ∀ (c6 : Int32) (c7 : Int32) (τ : Sg), k76 c6 c7 τ = some (xr, σr) → RN G M_X11_mend 76 [some (.ref v0), none, some (.int v2), some (.int v3), some (.int v4), some (.ref v5), some (.int c6), some (.int c7)] [] τ (.inl (some (.int xr))) σr) (k107 : Int32 → Int32 → Sg → Option (Int32 × Sg)) (hk107 : ∀ (c6 : Int32) (c10 : Int32) (τ : Sg), k107 c6 c10 τ = some (xr, σr) → RN G M_X11_mend 107 [some (.ref v0), none, some (.int v2), some (.int v3), some (.int v4), some (.ref v5), some (.int c6), some (.int v7), some (.int v8), some (.int v9), some (.int c10)] [] τ (.inl (some (.int xr))) σr) (h : b_X11_mend_175 k76 k107 n v0 v2 v3 v4 v5 v6 v7 v8 v9 v10 σ = some (xr, σr)) : RN G M_X11_mend 175 [some (.ref v0), none, some (.int v2), some (.int v3), some (.int v4), some (.ref v5), some (.int v6), some (.int v7), some (.int v8), some (.int v9), some (.int v10)] [] σ (.inl (some (.int xr))) σr := by
  unfold b_X11_mend_175 at h
  refine RN_aload (pc := 175) (i := 5) (by decide +kernel) rfl ?_
  refine RN_iload (pc := 177) (i := 7) (by decide +kernel) rfl ?_
  refine RN_iload (pc := 179) (i := 8) (by decide +kernel) rfl ?_
  obtain ⟨c101, h⟩ := ck_el h
  obtain ⟨σ103, f102, h⟩ := bp_el h
  refine RN_callV (M := M_X11_mend) (pc := 181) (idx := 226) (as := [.int v7, .int v8]) (st := []) (t_X6_choose f102) (by decide +kernel) lk_RX11_226 rfl ⟨by decide, fun q hq => by cases hq; rfl⟩ c101 (Nat.le_of_ble_eq_true rfl) ⟨Nat.le_of_ble_eq_true rfl, Nat.le_of_ble_eq_true rfl⟩ rfl ?_
  show RN G M_X11_mend 184 [some (.ref v0), none, some (.int v2), some (.int v3), some (.int v4), some (.ref v5), some (.int v6), some (.int v7), some (.int v8), some (.int v9), some (.int v10)] [] σ103 _ _
  refine RN_iload (pc := 184) (i := 6) (by decide +kernel) rfl ?_
  refine RN_ldc (pc := 186) (idx := 219) (v := 9999999) (by decide +kernel) kc_RX11_219 ?_
  refine RN_icmp_ne (pc := 188) (off := 12) (tgt := 200) (by decide +kernel) (by decide) (fun c104 => ?_) (fun c104 => ?_)
  · replace h := it_f c104 h
    exact RN_weak (l := [some (.ref v0), none, some (.int v2), some (.int v3), some (.int v4), some (.ref v5), some (.int v6), some (.int v7), some (.int v8), some (.int v9), some (.int v10)]) (And.intro rfl (And.intro rfl (And.intro rfl (And.intro rfl (And.intro rfl (And.intro rfl (And.intro rfl (And.intro rfl (And.intro rfl (And.intro rfl trivial)))))))))) (tb_X11_mend_200 n v0 v2 v3 v4 v5 v6 v7 v8 v9 v10 σ103 k76 hk76 k107 hk107 h)
  · replace h := it_t c104 h
    refine RN_bipush (pc := 191) (n := 10) (v := 10) (by decide +kernel) (by decide) ?_
    refine RN_iload (pc := 193) (i := 7) (by decide +kernel) rfl ?_
    refine RN_imul (pc := 195) (by decide +kernel) ?_
    refine RN_iload (pc := 196) (i := 10) (by decide +kernel) rfl ?_
    refine RN_iadd (pc := 198) (by decide +kernel) ?_
    obtain ⟨rfl, rfl⟩ := some_el2 h
    exact RN_ireturn (by decide +kernel) rfl
def b_X11_mend_107 (k76 : Int32 → Int32 → Sg → Option (Int32 × Sg)) : Nat → Nat → Int32 → Int32 → Int32 → Nat → Int32 → Int32 → Int32 → Int32 → Int32 → Sg → Option (Int32 × Sg)
  | 0, _, _, _, _, _, _, _, _, _, _, _ => none
  | n + 1, v0, v2, v3, v4, v5, v6, v7, v8, v9, v10, σ =>
  if v9 ≤ v10 then (
    b_X11_mend_206 k76 n v0 v2 v3 v4 v5 v6 v7 σ)
  else (
    if v10 = v8 then (
      b_X11_mend_200 k76 (fun c6 c10 τ => b_X11_mend_107 k76 n v0 v2 v3 v4 v5 c6 v7 v8 v9 c10 τ) n v0 v2 v3 v4 v5 v6 v7 v8 v9 v10 σ)
    else (
      ck (okO σ v5 5) <|
      bp (f_X6_choose v5 v7 v10 σ) fun σ90 =>
      ck (okO σ90 v0 10) <|
      ck (¬ gR σ90 v0 6 = 0) <|
      nm (gR σ90 v0 6) fun r93 =>
      ck (¬ gR σ90 v0 0 = 0) <|
      nm (gR σ90 v0 0) fun r95 =>
      ck (okO σ90 r93 9) <|
      bd (f_X10_breaks n r93 r95 v5 v5 v2 v6 σ90) fun x99 σ98 =>
      if x99 = 0 then (
        ck (okO σ98 v0 10) <|
        ck (¬ gR σ98 v0 6 = 0) <|
        nm (gR σ98 v0 6) fun r108 =>
        ck (¬ gR σ98 v0 0 = 0) <|
        nm (gR σ98 v0 0) fun r110 =>
        ck (okO σ98 r108 9) <|
        bd (f_X10_firstBreak n r108 r110 v5 v5 v2 v3 v4 σ98) fun x114 σ113 =>
        b_X11_mend_175 k76 (fun c6 c10 τ => b_X11_mend_107 k76 n v0 v2 v3 v4 v5 c6 v7 v8 v9 c10 τ) n v0 v2 v3 v4 v5 x114 v7 v8 v9 v10 σ113)
      else (
        b_X11_mend_175 k76 (fun c6 c10 τ => b_X11_mend_107 k76 n v0 v2 v3 v4 v5 c6 v7 v8 v9 c10 τ) n v0 v2 v3 v4 v5 v6 v7 v8 v9 v10 σ98)))
set_option maxRecDepth 20000 in
theorem tb_X11_mend_107 {G : Gl} {xr : Int32} {σr : Sg} (v0 : Nat) (v2 : Int32) (v3 : Int32) (v4 : Int32) (v5 : Nat) (v7 : Int32) (v8 : Int32) (v9 : Int32) (k76 : Int32 → Int32 → Sg → Option (Int32 × Sg)) (hk76 : ∀ (c6 : Int32) (c7 : Int32) (τ : Sg), k76 c6 c7 τ = some (xr, σr) → RN G M_X11_mend 76 [some (.ref v0), none, some (.int v2), some (.int v3), some (.int v4), some (.ref v5), some (.int c6), some (.int c7)] [] τ (.inl (some (.int xr))) σr) : ∀ (n : Nat) (v6 : Int32) (v10 : Int32) (σ : Sg), b_X11_mend_107 k76 n v0 v2 v3 v4 v5 v6 v7 v8 v9 v10 σ = some (xr, σr) → RN G M_X11_mend 107 [some (.ref v0), none, some (.int v2), some (.int v3), some (.int v4), some (.ref v5), some (.int v6), some (.int v7), some (.int v8), some (.int v9), some (.int v10)] [] σ (.inl (some (.int xr))) σr := by
  intro n
  induction n with
  | zero =>
    intro v6 v10 σ h
    exact none_el h
  | succ n ih =>
    intro v6 v10 σ h
    rw [b_X11_mend_107] at h
    refine RN_iload (pc := 107) (i := 10) (by decide +kernel) rfl ?_
    refine RN_iload (pc := 109) (i := 9) (by decide +kernel) rfl ?_
    refine RN_icmp_ge (pc := 111) (off := 95) (tgt := 206) (by decide +kernel) (by decide) (fun c85 => ?_) (fun c85 => ?_)
    · replace h := it_t c85 h
      exact RN_weak (l := [some (.ref v0), none, some (.int v2), some (.int v3), some (.int v4), some (.ref v5), some (.int v6), some (.int v7)]) (And.intro rfl (And.intro rfl (And.intro rfl (And.intro rfl (And.intro rfl (And.intro rfl (And.intro rfl trivial))))))) (tb_X11_mend_206 n v0 v2 v3 v4 v5 v6 v7 σ k76 hk76 h)
    · replace h := it_f c85 h
      refine RN_iload (pc := 114) (i := 10) (by decide +kernel) rfl ?_
      refine RN_iload (pc := 116) (i := 8) (by decide +kernel) rfl ?_
      refine RN_icmp_ne (pc := 118) (off := 6) (tgt := 124) (by decide +kernel) (by decide) (fun c87 => ?_) (fun c87 => ?_)
      · replace h := it_f c87 h
        refine RN_aload (pc := 124) (i := 5) (by decide +kernel) rfl ?_
        refine RN_iload (pc := 126) (i := 7) (by decide +kernel) rfl ?_
        refine RN_iload (pc := 128) (i := 10) (by decide +kernel) rfl ?_
        obtain ⟨c88, h⟩ := ck_el h
        obtain ⟨σ90, f89, h⟩ := bp_el h
        refine RN_callV (M := M_X11_mend) (pc := 130) (idx := 226) (as := [.int v7, .int v10]) (st := []) (t_X6_choose f89) (by decide +kernel) lk_RX11_226 rfl ⟨by decide, fun q hq => by cases hq; rfl⟩ c88 (Nat.le_of_ble_eq_true rfl) ⟨Nat.le_of_ble_eq_true rfl, Nat.le_of_ble_eq_true rfl⟩ rfl ?_
        show RN G M_X11_mend 133 [some (.ref v0), none, some (.int v2), some (.int v3), some (.int v4), some (.ref v5), some (.int v6), some (.int v7), some (.int v8), some (.int v9), some (.int v10)] [] σ90 _ _
        refine RN_aload_n (pc := 133) (k := 0) (by decide +kernel) rfl rfl ?_
        obtain ⟨c91, h⟩ := ck_el h
        obtain ⟨c92, h⟩ := ck_el h
        refine RN_getR (pc := 134) (idx := 52) (ci := 10) (k := 6) (by decide +kernel) lf_RX11_52 rfl c91 c92 ?_
        obtain ⟨r93, er93, h⟩ := nm_el h
        refine RN_nmR er93 ?_
        refine RN_aload_n (pc := 137) (k := 0) (by decide +kernel) rfl rfl ?_
        obtain ⟨c94, h⟩ := ck_el h
        refine RN_getR (pc := 138) (idx := 10) (ci := 10) (k := 0) (by decide +kernel) lf_RX11_10 rfl c91 c94 ?_
        obtain ⟨r95, er95, h⟩ := nm_el h
        refine RN_nmR er95 ?_
        refine RN_aload (pc := 141) (i := 5) (by decide +kernel) rfl ?_
        refine RN_aload (pc := 143) (i := 5) (by decide +kernel) rfl ?_
        refine RN_iload_n (pc := 145) (k := 2) (by decide +kernel) rfl rfl ?_
        refine RN_iload (pc := 146) (i := 6) (by decide +kernel) rfl ?_
        obtain ⟨c96, h⟩ := ck_el h
        obtain ⟨x99, σ98, f97, h⟩ := bd_el h
        refine RN_callV (M := M_X11_mend) (pc := 148) (idx := 230) (as := [.ref r95, .ref v5, .ref v5, .int v2, .int v6]) (st := []) (t_X10_breaks f97) (by decide +kernel) lk_RX11_230 rfl ⟨by decide, fun q hq => by cases hq; rfl⟩ c96 (Nat.le_of_ble_eq_true rfl) ⟨Nat.le_of_ble_eq_true rfl, Nat.le_of_ble_eq_true rfl⟩ rfl ?_
        show RN G M_X11_mend 151 [some (.ref v0), none, some (.int v2), some (.int v3), some (.int v4), some (.ref v5), some (.int v6), some (.int v7), some (.int v8), some (.int v9), some (.int v10)] [.int x99] σ98 _ _
        refine RN_if_ne (pc := 151) (off := 24) (tgt := 175) (by decide +kernel) (by decide) (fun c100 => ?_) (fun c100 => ?_)
        · replace h := it_f c100 h
          exact RN_weak (l := [some (.ref v0), none, some (.int v2), some (.int v3), some (.int v4), some (.ref v5), some (.int v6), some (.int v7), some (.int v8), some (.int v9), some (.int v10)]) (And.intro rfl (And.intro rfl (And.intro rfl (And.intro rfl (And.intro rfl (And.intro rfl (And.intro rfl (And.intro rfl (And.intro rfl (And.intro rfl trivial)))))))))) (tb_X11_mend_175 n v0 v2 v3 v4 v5 v6 v7 v8 v9 v10 σ98 k76 hk76 _ (fun c6 c10 τ h => ih c6 c10 τ h) h)
        · replace h := it_t c100 h
          refine RN_aload_n (pc := 154) (k := 0) (by decide +kernel) rfl rfl ?_
          obtain ⟨c106, h⟩ := ck_el h
          obtain ⟨c107, h⟩ := ck_el h
          refine RN_getR (pc := 155) (idx := 52) (ci := 10) (k := 6) (by decide +kernel) lf_RX11_52 rfl c106 c107 ?_
          obtain ⟨r108, er108, h⟩ := nm_el h
          refine RN_nmR er108 ?_
          refine RN_aload_n (pc := 158) (k := 0) (by decide +kernel) rfl rfl ?_
          obtain ⟨c109, h⟩ := ck_el h
          refine RN_getR (pc := 159) (idx := 10) (ci := 10) (k := 0) (by decide +kernel) lf_RX11_10 rfl c106 c109 ?_
          obtain ⟨r110, er110, h⟩ := nm_el h
          refine RN_nmR er110 ?_
          refine RN_aload (pc := 162) (i := 5) (by decide +kernel) rfl ?_
          refine RN_aload (pc := 164) (i := 5) (by decide +kernel) rfl ?_
          refine RN_iload_n (pc := 166) (k := 2) (by decide +kernel) rfl rfl ?_
          refine RN_iload_n (pc := 167) (k := 3) (by decide +kernel) rfl rfl ?_
          refine RN_iload (pc := 168) (i := 4) (by decide +kernel) rfl ?_
          obtain ⟨c111, h⟩ := ck_el h
          obtain ⟨x114, σ113, f112, h⟩ := bd_el h
          refine RN_callV (M := M_X11_mend) (pc := 170) (idx := 196) (as := [.ref r110, .ref v5, .ref v5, .int v2, .int v3, .int v4]) (st := []) (t_X10_firstBreak f112) (by decide +kernel) lk_RX11_196 rfl ⟨by decide, fun q hq => by cases hq; rfl⟩ c111 (Nat.le_of_ble_eq_true rfl) ⟨Nat.le_of_ble_eq_true rfl, Nat.le_of_ble_eq_true rfl⟩ rfl ?_
          show RN G M_X11_mend 173 [some (.ref v0), none, some (.int v2), some (.int v3), some (.int v4), some (.ref v5), some (.int v6), some (.int v7), some (.int v8), some (.int v9), some (.int v10)] [.int x114] σ113 _ _
          refine RN_istore (pc := 173) (i := 6) (ls2 := [some (.ref v0), none, some (.int v2), some (.int v3), some (.int v4), some (.ref v5), some (.int x114), some (.int v7), some (.int v8), some (.int v9), some (.int v10)]) (by decide +kernel) (by decide) rfl ?_
          exact RN_weak (l := [some (.ref v0), none, some (.int v2), some (.int v3), some (.int v4), some (.ref v5), some (.int x114), some (.int v7), some (.int v8), some (.int v9), some (.int v10)]) (And.intro rfl (And.intro rfl (And.intro rfl (And.intro rfl (And.intro rfl (And.intro rfl (And.intro rfl (And.intro rfl (And.intro rfl (And.intro rfl trivial)))))))))) (tb_X11_mend_175 n v0 v2 v3 v4 v5 x114 v7 v8 v9 v10 σ113 k76 hk76 _ (fun c6 c10 τ h => ih c6 c10 τ h) h)
      · replace h := it_t c87 h
        refine RN_goto (pc := 121) (off := 79) (tgt := 200) (by decide +kernel) (by decide) ?_
        exact RN_weak (l := [some (.ref v0), none, some (.int v2), some (.int v3), some (.int v4), some (.ref v5), some (.int v6), some (.int v7), some (.int v8), some (.int v9), some (.int v10)]) (And.intro rfl (And.intro rfl (And.intro rfl (And.intro rfl (And.intro rfl (And.intro rfl (And.intro rfl (And.intro rfl (And.intro rfl (And.intro rfl trivial)))))))))) (tb_X11_mend_200 n v0 v2 v3 v4 v5 v6 v7 v8 v9 v10 σ k76 hk76 _ (fun c6 c10 τ h => ih c6 c10 τ h) h)
def b_X11_mend_76 : Nat → Nat → Int32 → Int32 → Int32 → Nat → Int32 → Int32 → Sg → Option (Int32 × Sg)
  | 0, _, _, _, _, _, _, _, _ => none
  | n + 1, v0, v2, v3, v4, v5, v6, v7, σ =>
  ck (okO σ v5 5) <|
  if (gI σ v5 4) ≤ v7 then (
    some ((-3 : Int32), σ))
  else (
    bp (f_X6_choice v5 v7 σ) fun x82 =>
    bp (f_X6_choices v5 v7 σ) fun x84 =>
    b_X11_mend_107 (fun c6 c7 τ => b_X11_mend_76 n v0 v2 v3 v4 v5 c6 c7 τ) n v0 v2 v3 v4 v5 v6 v7 x82 x84 (0 : Int32) σ)
set_option maxRecDepth 20000 in
theorem tb_X11_mend_76 {G : Gl} {xr : Int32} {σr : Sg} (v0 : Nat) (v2 : Int32) (v3 : Int32) (v4 : Int32) (v5 : Nat) : ∀ (n : Nat) (v6 : Int32) (v7 : Int32) (σ : Sg), b_X11_mend_76 n v0 v2 v3 v4 v5 v6 v7 σ = some (xr, σr) → RN G M_X11_mend 76 [some (.ref v0), none, some (.int v2), some (.int v3), some (.int v4), some (.ref v5), some (.int v6), some (.int v7)] [] σ (.inl (some (.int xr))) σr := by
  intro n
  induction n with
  | zero =>
    intro v6 v7 σ h
    exact none_el h
  | succ n ih =>
    intro v6 v7 σ h
    rw [b_X11_mend_76] at h
    refine RN_iload (pc := 76) (i := 7) (by decide +kernel) rfl ?_
    refine RN_aload (pc := 78) (i := 5) (by decide +kernel) rfl ?_
    obtain ⟨c79, h⟩ := ck_el h
    refine RN_getI (pc := 80) (idx := 118) (ci := 5) (k := 4) (by decide +kernel) lf_RX11_118 (Or.inl rfl) c79 ?_
    refine RN_icmp_ge (pc := 83) (off := 129) (tgt := 212) (by decide +kernel) (by decide) (fun c80 => ?_) (fun c80 => ?_)
    · replace h := it_t c80 h
      refine RN_bipush (pc := 212) (n := -3) (v := -3) (by decide +kernel) (by decide) ?_
      obtain ⟨rfl, rfl⟩ := some_el2 h
      exact RN_ireturn (by decide +kernel) rfl
    · replace h := it_f c80 h
      refine RN_aload (pc := 86) (i := 5) (by decide +kernel) rfl ?_
      refine RN_iload (pc := 88) (i := 7) (by decide +kernel) rfl ?_
      obtain ⟨x82, f81, h⟩ := bp_el h
      refine RN_callV (M := M_X11_mend) (pc := 90) (idx := 220) (as := [.int v7]) (st := []) (t_X6_choice f81) (by decide +kernel) lk_RX11_220 rfl ⟨by decide, fun q hq => by cases hq; rfl⟩ c79 (Nat.le_of_ble_eq_true rfl) ⟨Nat.le_of_ble_eq_true rfl, Nat.le_of_ble_eq_true rfl⟩ rfl ?_
      show RN G M_X11_mend 93 [some (.ref v0), none, some (.int v2), some (.int v3), some (.int v4), some (.ref v5), some (.int v6), some (.int v7)] [.int x82] σ _ _
      refine RN_istore (pc := 93) (i := 8) (ls2 := [some (.ref v0), none, some (.int v2), some (.int v3), some (.int v4), some (.ref v5), some (.int v6), some (.int v7), some (.int x82)]) (by decide +kernel) (by decide) rfl ?_
      refine RN_aload (pc := 95) (i := 5) (by decide +kernel) rfl ?_
      refine RN_iload (pc := 97) (i := 7) (by decide +kernel) rfl ?_
      obtain ⟨x84, f83, h⟩ := bp_el h
      refine RN_callV (M := M_X11_mend) (pc := 99) (idx := 223) (as := [.int v7]) (st := []) (t_X6_choices f83) (by decide +kernel) lk_RX11_223 rfl ⟨by decide, fun q hq => by cases hq; rfl⟩ c79 (Nat.le_of_ble_eq_true rfl) ⟨Nat.le_of_ble_eq_true rfl, Nat.le_of_ble_eq_true rfl⟩ rfl ?_
      show RN G M_X11_mend 102 [some (.ref v0), none, some (.int v2), some (.int v3), some (.int v4), some (.ref v5), some (.int v6), some (.int v7), some (.int x82)] [.int x84] σ _ _
      refine RN_istore (pc := 102) (i := 9) (ls2 := [some (.ref v0), none, some (.int v2), some (.int v3), some (.int v4), some (.ref v5), some (.int v6), some (.int v7), some (.int x82), some (.int x84)]) (by decide +kernel) (by decide) rfl ?_
      refine RN_iconst (pc := 104) (n := 0) (v := 0) (by decide +kernel) (by decide) ?_
      refine RN_istore (pc := 105) (i := 10) (ls2 := [some (.ref v0), none, some (.int v2), some (.int v3), some (.int v4), some (.ref v5), some (.int v6), some (.int v7), some (.int x82), some (.int x84), some (.int (0 : Int32))]) (by decide +kernel) (by decide) rfl ?_
      exact RN_weak (l := [some (.ref v0), none, some (.int v2), some (.int v3), some (.int v4), some (.ref v5), some (.int v6), some (.int v7), some (.int x82), some (.int x84), some (.int (0 : Int32))]) (And.intro rfl (And.intro rfl (And.intro rfl (And.intro rfl (And.intro rfl (And.intro rfl (And.intro rfl (And.intro rfl (And.intro rfl (And.intro rfl trivial)))))))))) (tb_X11_mend_107 v0 v2 v3 v4 v5 v7 x82 x84 _ (fun c6 c7 τ h => ih c6 c7 τ h) n v6 (0 : Int32) σ h)
def f_X11_mend (n : Nat) (v0 : Nat) (v1 : Int32) (v2 : Int32) (v3 : Int32) (v4 : Int32) (σ : Sg) : Option (Int32 × Sg) :=
  ck (okO σ v0 10) <|
  bp (f_X11_isProgram v0 v1 σ) fun x56 =>
  if x56 = 0 then (
    some ((-1 : Int32), σ))
  else (
    bp (f_X11_isLaw v2) fun x59 =>
    if x59 = 0 then (
      some ((-1 : Int32), σ))
    else (
      if v2 = (2 : Int32) then (
        some ((-1 : Int32), σ))
      else (
        bp (f_X11_isSpan v3 v4 (300 : Int32)) fun x63 =>
        if x63 = 0 then (
          some ((-1 : Int32), σ))
        else (
          ck (¬ gR σ v0 3 = 0) <|
          nm (gR σ v0 3) fun r66 =>
          ck (okA σ r66 16 v1) <|
          ck (¬ gR σ r66 v1.toNatClampNeg = 0) <|
          nm (gR σ r66 v1.toNatClampNeg) fun r69 =>
          ck (¬ gR σ v0 6 = 0) <|
          nm (gR σ v0 6) fun r71 =>
          ck (¬ gR σ v0 0 = 0) <|
          nm (gR σ v0 0) fun r73 =>
          ck (okO σ r71 9) <|
          bd (f_X10_firstBreak n r71 r73 r69 r69 v2 v3 v4 σ) fun x77 σ76 =>
          if x77 = (9999999 : Int32) then (
            some ((9999999 : Int32), σ76))
          else (
            b_X11_mend_76 n v0 v2 v3 v4 r69 x77 (0 : Int32) σ76)))))
set_option maxRecDepth 20000 in
theorem t_X11_mend {G : Gl} {xr : Int32} {σr : Sg} {n : Nat} {v0 : Nat} {v1 : Int32} {v2 : Int32} {v3 : Int32} {v4 : Int32} {σ : Sg} (h : f_X11_mend n v0 v1 v2 v3 v4 σ = some (xr, σr)) : MT G M_X11_mend [.ref v0, .int v1, .int v2, .int v3, .int v4] σ (some (.int xr)) σr := by
  refine MT_of rfl rfl (Nat.le_of_ble_eq_true rfl) ?_
  show RN G M_X11_mend 0 [some (.ref v0), some (.int v1), some (.int v2), some (.int v3), some (.int v4)] [] σ (.inl (some (.int xr))) σr
  unfold f_X11_mend at h
  refine RN_aload_n (pc := 0) (k := 0) (by decide +kernel) rfl rfl ?_
  refine RN_iload_n (pc := 1) (k := 1) (by decide +kernel) rfl rfl ?_
  obtain ⟨c54, h⟩ := ck_el h
  obtain ⟨x56, f55, h⟩ := bp_el h
  refine RN_callV (M := M_X11_mend) (pc := 2) (idx := 108) (as := [.int v1]) (st := []) (t_X11_isProgram f55) (by decide +kernel) lk_RX11_108 rfl ⟨by decide, fun q hq => by cases hq; rfl⟩ c54 (Nat.le_of_ble_eq_true rfl) ⟨Nat.le_of_ble_eq_true rfl, Nat.le_of_ble_eq_true rfl⟩ rfl ?_
  show RN G M_X11_mend 5 [some (.ref v0), some (.int v1), some (.int v2), some (.int v3), some (.int v4)] [.int x56] σ _ _
  refine RN_if_eq (pc := 5) (off := 27) (tgt := 32) (by decide +kernel) (by decide) (fun c57 => ?_) (fun c57 => ?_)
  · replace h := it_t c57 h
    refine RN_iconst (pc := 32) (n := -1) (v := -1) (by decide +kernel) (by decide) ?_
    obtain ⟨rfl, rfl⟩ := some_el2 h
    exact RN_ireturn (by decide +kernel) rfl
  · replace h := it_f c57 h
    refine RN_iload_n (pc := 8) (k := 2) (by decide +kernel) rfl rfl ?_
    obtain ⟨x59, f58, h⟩ := bp_el h
    refine RN_callS (M := M_X11_mend) (pc := 9) (idx := 190) (as := [.int v2]) (st := []) (t_X11_isLaw f58) (by decide +kernel) lk_RX11_190 rfl (Nat.le_of_ble_eq_true rfl) ⟨Nat.le_of_ble_eq_true rfl, Nat.le_of_ble_eq_true rfl⟩ rfl ?_
    show RN G M_X11_mend 12 [some (.ref v0), some (.int v1), some (.int v2), some (.int v3), some (.int v4)] [.int x59] σ _ _
    refine RN_if_eq (pc := 12) (off := 20) (tgt := 32) (by decide +kernel) (by decide) (fun c60 => ?_) (fun c60 => ?_)
    · replace h := it_t c60 h
      refine RN_iconst (pc := 32) (n := -1) (v := -1) (by decide +kernel) (by decide) ?_
      obtain ⟨rfl, rfl⟩ := some_el2 h
      exact RN_ireturn (by decide +kernel) rfl
    · replace h := it_f c60 h
      refine RN_iload_n (pc := 15) (k := 2) (by decide +kernel) rfl rfl ?_
      refine RN_iconst (pc := 16) (n := 2) (v := 2) (by decide +kernel) (by decide) ?_
      refine RN_icmp_eq (pc := 17) (off := 15) (tgt := 32) (by decide +kernel) (by decide) (fun c61 => ?_) (fun c61 => ?_)
      · replace h := it_t c61 h
        refine RN_iconst (pc := 32) (n := -1) (v := -1) (by decide +kernel) (by decide) ?_
        obtain ⟨rfl, rfl⟩ := some_el2 h
        exact RN_ireturn (by decide +kernel) rfl
      · replace h := it_f c61 h
        refine RN_iload_n (pc := 20) (k := 3) (by decide +kernel) rfl rfl ?_
        refine RN_iload (pc := 21) (i := 4) (by decide +kernel) rfl ?_
        refine RN_sipush (pc := 23) (n := 300) (v := 300) (by decide +kernel) (by decide) ?_
        obtain ⟨x63, f62, h⟩ := bp_el h
        refine RN_callS (M := M_X11_mend) (pc := 26) (idx := 193) (as := [.int v3, .int v4, .int (300 : Int32)]) (st := []) (t_X11_isSpan f62) (by decide +kernel) lk_RX11_193 rfl (Nat.le_of_ble_eq_true rfl) ⟨Nat.le_of_ble_eq_true rfl, Nat.le_of_ble_eq_true rfl⟩ rfl ?_
        show RN G M_X11_mend 29 [some (.ref v0), some (.int v1), some (.int v2), some (.int v3), some (.int v4)] [.int x63] σ _ _
        refine RN_if_ne (pc := 29) (off := 5) (tgt := 34) (by decide +kernel) (by decide) (fun c64 => ?_) (fun c64 => ?_)
        · replace h := it_f c64 h
          refine RN_aload_n (pc := 34) (k := 0) (by decide +kernel) rfl rfl ?_
          obtain ⟨c65, h⟩ := ck_el h
          refine RN_getR (pc := 35) (idx := 32) (ci := 10) (k := 3) (by decide +kernel) lf_RX11_32 rfl c54 c65 ?_
          obtain ⟨r66, er66, h⟩ := nm_el h
          refine RN_nmR er66 ?_
          refine RN_iload_n (pc := 38) (k := 1) (by decide +kernel) rfl rfl ?_
          obtain ⟨c67, h⟩ := ck_el h
          obtain ⟨c68, h⟩ := ck_el h
          refine RN_aald16 (pc := 39) (by decide +kernel) c67 c68 ?_
          obtain ⟨r69, er69, h⟩ := nm_el h
          refine RN_nmR er69 ?_
          refine RN_astore (pc := 40) (i := 5) (ls2 := [some (.ref v0), some (.int v1), some (.int v2), some (.int v3), some (.int v4), some (.ref r69)]) (by decide +kernel) (by decide) rfl ?_
          refine RN_aload_n (pc := 42) (k := 0) (by decide +kernel) rfl rfl ?_
          obtain ⟨c70, h⟩ := ck_el h
          refine RN_getR (pc := 43) (idx := 52) (ci := 10) (k := 6) (by decide +kernel) lf_RX11_52 rfl c54 c70 ?_
          obtain ⟨r71, er71, h⟩ := nm_el h
          refine RN_nmR er71 ?_
          refine RN_aload_n (pc := 46) (k := 0) (by decide +kernel) rfl rfl ?_
          obtain ⟨c72, h⟩ := ck_el h
          refine RN_getR (pc := 47) (idx := 10) (ci := 10) (k := 0) (by decide +kernel) lf_RX11_10 rfl c54 c72 ?_
          obtain ⟨r73, er73, h⟩ := nm_el h
          refine RN_nmR er73 ?_
          refine RN_aload (pc := 50) (i := 5) (by decide +kernel) rfl ?_
          refine RN_aload (pc := 52) (i := 5) (by decide +kernel) rfl ?_
          refine RN_iload_n (pc := 54) (k := 2) (by decide +kernel) rfl rfl ?_
          refine RN_iload_n (pc := 55) (k := 3) (by decide +kernel) rfl rfl ?_
          refine RN_iload (pc := 56) (i := 4) (by decide +kernel) rfl ?_
          obtain ⟨c74, h⟩ := ck_el h
          obtain ⟨x77, σ76, f75, h⟩ := bd_el h
          refine RN_callV (M := M_X11_mend) (pc := 58) (idx := 196) (as := [.ref r73, .ref r69, .ref r69, .int v2, .int v3, .int v4]) (st := []) (t_X10_firstBreak f75) (by decide +kernel) lk_RX11_196 rfl ⟨by decide, fun q hq => by cases hq; rfl⟩ c74 (Nat.le_of_ble_eq_true rfl) ⟨Nat.le_of_ble_eq_true rfl, Nat.le_of_ble_eq_true rfl⟩ rfl ?_
          show RN G M_X11_mend 61 [some (.ref v0), some (.int v1), some (.int v2), some (.int v3), some (.int v4), some (.ref r69)] [.int x77] σ76 _ _
          refine RN_istore (pc := 61) (i := 6) (ls2 := [some (.ref v0), some (.int v1), some (.int v2), some (.int v3), some (.int v4), some (.ref r69), some (.int x77)]) (by decide +kernel) (by decide) rfl ?_
          refine RN_iload (pc := 63) (i := 6) (by decide +kernel) rfl ?_
          refine RN_ldc (pc := 65) (idx := 219) (v := 9999999) (by decide +kernel) kc_RX11_219 ?_
          refine RN_icmp_ne (pc := 67) (off := 6) (tgt := 73) (by decide +kernel) (by decide) (fun c78 => ?_) (fun c78 => ?_)
          · replace h := it_f c78 h
            refine RN_iconst (pc := 73) (n := 0) (v := 0) (by decide +kernel) (by decide) ?_
            refine RN_istore (pc := 74) (i := 7) (ls2 := [some (.ref v0), some (.int v1), some (.int v2), some (.int v3), some (.int v4), some (.ref r69), some (.int x77), some (.int (0 : Int32))]) (by decide +kernel) (by decide) rfl ?_
            exact RN_weak (l := [some (.ref v0), none, some (.int v2), some (.int v3), some (.int v4), some (.ref r69), some (.int x77), some (.int (0 : Int32))]) (And.intro rfl (And.intro rfl (And.intro rfl (And.intro rfl (And.intro rfl (And.intro rfl (And.intro rfl trivial))))))) (tb_X11_mend_76 v0 v2 v3 v4 r69 n x77 (0 : Int32) σ76 h)
          · replace h := it_t c78 h
            refine RN_ldc (pc := 70) (idx := 219) (v := 9999999) (by decide +kernel) kc_RX11_219 ?_
            obtain ⟨rfl, rfl⟩ := some_el2 h
            exact RN_ireturn (by decide +kernel) rfl
        · replace h := it_t c64 h
          refine RN_iconst (pc := 32) (n := -1) (v := -1) (by decide +kernel) (by decide) ?_
          obtain ⟨rfl, rfl⟩ := some_el2 h
          exact RN_ireturn (by decide +kernel) rfl
