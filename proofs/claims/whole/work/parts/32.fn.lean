def b_X12_fits_90 : Option Int32 :=
  some (0 : Int32)
set_option maxRecDepth 20000 in
theorem tb_X12_fits_90 {G : Gl} {xr : Int32} {σ : Sg} (h : b_X12_fits_90 = some xr) : RN G M_X12_fits 90 [] [] σ (.inl (some (.int xr))) σ := by
  unfold b_X12_fits_90 at h
  refine RN_iconst (pc := 90) (n := 0) (v := 0) (by decide +kernel) (by decide) ?_
  obtain rfl := some_el h
  exact RN_zreturn (by decide +kernel) rfl (Or.inl rfl)
def b_X12_fits_116 : Option Int32 :=
  some (0 : Int32)
set_option maxRecDepth 20000 in
theorem tb_X12_fits_116 {G : Gl} {xr : Int32} {σ : Sg} (h : b_X12_fits_116 = some xr) : RN G M_X12_fits 116 [] [] σ (.inl (some (.int xr))) σ := by
  unfold b_X12_fits_116 at h
  refine RN_iconst (pc := 116) (n := 0) (v := 0) (by decide +kernel) (by decide) ?_
  obtain rfl := some_el h
  exact RN_zreturn (by decide +kernel) rfl (Or.inl rfl)
def b_X12_fits_141 : Option Int32 :=
  some (0 : Int32)
set_option maxRecDepth 20000 in
theorem tb_X12_fits_141 {G : Gl} {xr : Int32} {σ : Sg} (h : b_X12_fits_141 = some xr) : RN G M_X12_fits 141 [] [] σ (.inl (some (.int xr))) σ := by
  unfold b_X12_fits_141 at h
  refine RN_iconst (pc := 141) (n := 0) (v := 0) (by decide +kernel) (by decide) ?_
  obtain rfl := some_el h
  exact RN_zreturn (by decide +kernel) rfl (Or.inl rfl)
def b_X12_fits_166 : Option Int32 :=
  some (0 : Int32)
set_option maxRecDepth 20000 in
theorem tb_X12_fits_166 {G : Gl} {xr : Int32} {σ : Sg} (h : b_X12_fits_166 = some xr) : RN G M_X12_fits 166 [] [] σ (.inl (some (.int xr))) σ := by
  unfold b_X12_fits_166 at h
  refine RN_iconst (pc := 166) (n := 0) (v := 0) (by decide +kernel) (by decide) ?_
  obtain rfl := some_el h
  exact RN_zreturn (by decide +kernel) rfl (Or.inl rfl)
def b_X12_fits_190 : Option Int32 :=
  some (0 : Int32)
set_option maxRecDepth 20000 in
theorem tb_X12_fits_190 {G : Gl} {xr : Int32} {σ : Sg} (h : b_X12_fits_190 = some xr) : RN G M_X12_fits 190 [] [] σ (.inl (some (.int xr))) σ := by
  unfold b_X12_fits_190 at h
  refine RN_iconst (pc := 190) (n := 0) (v := 0) (by decide +kernel) (by decide) ?_
  obtain rfl := some_el h
  exact RN_zreturn (by decide +kernel) rfl (Or.inl rfl)
def b_X12_fits_210 : Option Int32 :=
  some (0 : Int32)
set_option maxRecDepth 20000 in
theorem tb_X12_fits_210 {G : Gl} {xr : Int32} {σ : Sg} (h : b_X12_fits_210 = some xr) : RN G M_X12_fits 210 [] [] σ (.inl (some (.int xr))) σ := by
  unfold b_X12_fits_210 at h
  refine RN_iconst (pc := 210) (n := 0) (v := 0) (by decide +kernel) (by decide) ?_
  obtain rfl := some_el h
  exact RN_zreturn (by decide +kernel) rfl (Or.inl rfl)
def b_X12_fits_295 : Option Int32 :=
  some (0 : Int32)
set_option maxRecDepth 20000 in
theorem tb_X12_fits_295 {G : Gl} {xr : Int32} {σ : Sg} (h : b_X12_fits_295 = some xr) : RN G M_X12_fits 295 [] [] σ (.inl (some (.int xr))) σ := by
  unfold b_X12_fits_295 at h
  refine RN_iconst (pc := 295) (n := 0) (v := 0) (by decide +kernel) (by decide) ?_
  obtain rfl := some_el h
  exact RN_zreturn (by decide +kernel) rfl (Or.inl rfl)
def b_X12_fits_235 : Option Int32 :=
  some (0 : Int32)
set_option maxRecDepth 20000 in
theorem tb_X12_fits_235 {G : Gl} {xr : Int32} {σ : Sg} (h : b_X12_fits_235 = some xr) : RN G M_X12_fits 235 [] [] σ (.inl (some (.int xr))) σ := by
  unfold b_X12_fits_235 at h
  refine RN_iconst (pc := 235) (n := 0) (v := 0) (by decide +kernel) (by decide) ?_
  obtain rfl := some_el h
  exact RN_zreturn (by decide +kernel) rfl (Or.inl rfl)
def b_X12_fits_255 : Option Int32 :=
  some (0 : Int32)
set_option maxRecDepth 20000 in
theorem tb_X12_fits_255 {G : Gl} {xr : Int32} {σ : Sg} (h : b_X12_fits_255 = some xr) : RN G M_X12_fits 255 [] [] σ (.inl (some (.int xr))) σ := by
  unfold b_X12_fits_255 at h
  refine RN_iconst (pc := 255) (n := 0) (v := 0) (by decide +kernel) (by decide) ?_
  obtain rfl := some_el h
  exact RN_zreturn (by decide +kernel) rfl (Or.inl rfl)
def b_X12_fits_281 : Option Int32 :=
  some (0 : Int32)
set_option maxRecDepth 20000 in
theorem tb_X12_fits_281 {G : Gl} {xr : Int32} {σ : Sg} (h : b_X12_fits_281 = some xr) : RN G M_X12_fits 281 [] [] σ (.inl (some (.int xr))) σ := by
  unfold b_X12_fits_281 at h
  refine RN_iconst (pc := 281) (n := 0) (v := 0) (by decide +kernel) (by decide) ?_
  obtain rfl := some_el h
  exact RN_zreturn (by decide +kernel) rfl (Or.inl rfl)
def f_X12_fits (v0 : Int32) (v1 : Int32) (v2 : Int32) : Option Int32 :=
  bp (f_X12_in v2 (0 : Int32) (5 : Int32)) fun x34 =>
  if v0 = 1 then (
    bp (f_X12_in v1 (0 : Int32) (7 : Int32)) fun x37 =>
    if x37 = 0 then (
      b_X12_fits_90)
    else (
      if x34 = 0 then (
        b_X12_fits_90)
      else (
        some (1 : Int32))))
  else (
  if v0 = 2 then (
    bp (f_X12_in v1 (0 : Int32) (7 : Int32)) fun x42 =>
    if x42 = 0 then (
      b_X12_fits_90)
    else (
      if x34 = 0 then (
        b_X12_fits_90)
      else (
        some (1 : Int32))))
  else (
  if v0 = 3 then (
    bp (f_X12_in v1 (0 : Int32) (7 : Int32)) fun x47 =>
    if x47 = 0 then (
      b_X12_fits_116)
    else (
      bp (f_X12_in v2 (0 : Int32) (7 : Int32)) fun x50 =>
      if x50 = 0 then (
        b_X12_fits_116)
      else (
        some (1 : Int32))))
  else (
  if v0 = 4 then (
    bp (f_X12_in v1 (0 : Int32) (5 : Int32)) fun x54 =>
    if x54 = 0 then (
      b_X12_fits_141)
    else (
      bp (f_X12_in v2 (1 : Int32) (100 : Int32)) fun x57 =>
      if x57 = 0 then (
        b_X12_fits_141)
      else (
        some (1 : Int32))))
  else (
  if v0 = 5 then (
    bp (f_X12_in v1 (0 : Int32) (7 : Int32)) fun x61 =>
    if x61 = 0 then (
      b_X12_fits_166)
    else (
      bp (f_X12_in v2 (0 : Int32) (1 : Int32)) fun x64 =>
      if x64 = 0 then (
        b_X12_fits_166)
      else (
        some (1 : Int32))))
  else (
  if v0 = 6 then (
    bp (f_X12_in v1 (0 : Int32) (3 : Int32)) fun x68 =>
    if x68 = 0 then (
      b_X12_fits_190)
    else (
      bp (f_X12_in v2 (0 : Int32) (3 : Int32)) fun x71 =>
      if x71 = 0 then (
        b_X12_fits_190)
      else (
        some (1 : Int32))))
  else (
  if v0 = 7 then (
    bp (f_X12_in v1 (0 : Int32) (7 : Int32)) fun x75 =>
    if x75 = 0 then (
      b_X12_fits_210)
    else (
      if v2 = 0 then (
        some (1 : Int32))
      else (
        b_X12_fits_210)))
  else (
  if v0 = 8 then (
    if v1 = 0 then (
      if v2 = 0 then (
        some (1 : Int32))
      else (
        b_X12_fits_295))
    else (
      b_X12_fits_295))
  else (
  if v0 = 9 then (
    bp (f_X12_in v1 (0 : Int32) (1 : Int32)) fun x83 =>
    if x83 = 0 then (
      b_X12_fits_235)
    else (
      bp (f_X12_in v2 (0 : Int32) (1000000 : Int32)) fun x86 =>
      if x86 = 0 then (
        b_X12_fits_235)
      else (
        some (1 : Int32))))
  else (
  if v0 = 10 then (
    bp (f_X12_in v1 (0 : Int32) (7 : Int32)) fun x90 =>
    if x90 = 0 then (
      b_X12_fits_166)
    else (
      bp (f_X12_in v2 (0 : Int32) (1 : Int32)) fun x93 =>
      if x93 = 0 then (
        b_X12_fits_166)
      else (
        some (1 : Int32))))
  else (
  if v0 = 11 then (
    bp (f_X12_in v1 (0 : Int32) (7 : Int32)) fun x97 =>
    if x97 = 0 then (
      b_X12_fits_255)
    else (
      if x34 = 0 then (
        b_X12_fits_255)
      else (
        some (1 : Int32))))
  else (
  if v0 = 12 then (
    bp (f_X12_in v1 (0 : Int32) (7 : Int32)) fun x102 =>
    if x102 = 0 then (
      b_X12_fits_281)
    else (
      bp (f_X12_in v2 (1 : Int32) (30 : Int32)) fun x105 =>
      if x105 = 0 then (
        b_X12_fits_281)
      else (
        some (1 : Int32))))
  else (
    if v1 = 0 then (
      if v2 = 0 then (
        some (1 : Int32))
      else (
        b_X12_fits_295))
    else (
      b_X12_fits_295)))))))))))))
set_option maxRecDepth 20000 in
theorem t_X12_fits {G : Gl} {xr : Int32} {v0 : Int32} {v1 : Int32} {v2 : Int32} {σ : Sg} (h : f_X12_fits v0 v1 v2 = some xr) : MT G M_X12_fits [.int v0, .int v1, .int v2] σ (some (.int xr)) σ := by
  refine MT_of rfl rfl (Nat.le_of_ble_eq_true rfl) ?_
  show RN G M_X12_fits 0 [some (.int v0), some (.int v1), some (.int v2)] [] σ (.inl (some (.int xr))) σ
  unfold f_X12_fits at h
  refine RN_iload_n (pc := 0) (k := 2) (by decide +kernel) rfl rfl ?_
  refine RN_iconst (pc := 1) (n := 0) (v := 0) (by decide +kernel) (by decide) ?_
  refine RN_iconst (pc := 2) (n := 5) (v := 5) (by decide +kernel) (by decide) ?_
  obtain ⟨x34, f33, h⟩ := bp_el h
  refine RN_callS (M := M_X12_fits) (pc := 3) (idx := 159) (as := [.int v2, .int (0 : Int32), .int (5 : Int32)]) (st := []) (t_X12_in f33) (by decide +kernel) lk_RX12_159 rfl (Nat.le_of_ble_eq_true rfl) ⟨Nat.le_of_ble_eq_true rfl, Nat.le_of_ble_eq_true rfl⟩ rfl ?_
  show RN G M_X12_fits 6 [some (.int v0), some (.int v1), some (.int v2)] [.int x34] σ _ _
  refine RN_istore_n (pc := 6) (k := 3) (ls2 := [some (.int v0), some (.int v1), some (.int v2), some (.int x34)]) (by decide +kernel) rfl (by decide) rfl ?_
  refine RN_iload_n (pc := 7) (k := 0) (by decide +kernel) rfl rfl ?_
  by_cases c35 : v0 = 1
  · replace h := it_t c35 h
    refine RN_tsw (pc := 8) (dflt := 275) (lo := 1) (hi := 12) (offs := #[64, 64, 84, 110, 135, 160, 184, 275, 204, 135, 229, 249]) (len := 64) (v := 1) (off := 64) (tgt := 72) c35 (by decide +kernel) (by decide) (by decide) (by decide +kernel) (by decide) ?_
    refine RN_iload_n (pc := 72) (k := 1) (by decide +kernel) rfl rfl ?_
    refine RN_iconst (pc := 73) (n := 0) (v := 0) (by decide +kernel) (by decide) ?_
    refine RN_bipush (pc := 74) (n := 7) (v := 7) (by decide +kernel) (by decide) ?_
    obtain ⟨x37, f36, h⟩ := bp_el h
    refine RN_callS (M := M_X12_fits) (pc := 76) (idx := 159) (as := [.int v1, .int (0 : Int32), .int (7 : Int32)]) (st := []) (t_X12_in f36) (by decide +kernel) lk_RX12_159 rfl (Nat.le_of_ble_eq_true rfl) ⟨Nat.le_of_ble_eq_true rfl, Nat.le_of_ble_eq_true rfl⟩ rfl ?_
    show RN G M_X12_fits 79 [some (.int v0), some (.int v1), some (.int v2), some (.int x34)] [.int x37] σ _ _
    refine RN_if_eq (pc := 79) (off := 11) (tgt := 90) (by decide +kernel) (by decide) (fun c38 => ?_) (fun c38 => ?_)
    · replace h := it_t c38 h
      exact RN_weak (l := []) trivial (tb_X12_fits_90  h)
    · replace h := it_f c38 h
      refine RN_iload_n (pc := 82) (k := 3) (by decide +kernel) rfl rfl ?_
      refine RN_if_eq (pc := 83) (off := 7) (tgt := 90) (by decide +kernel) (by decide) (fun c39 => ?_) (fun c39 => ?_)
      · replace h := it_t c39 h
        exact RN_weak (l := []) trivial (tb_X12_fits_90  h)
      · replace h := it_f c39 h
        refine RN_iconst (pc := 86) (n := 1) (v := 1) (by decide +kernel) (by decide) ?_
        refine RN_goto (pc := 87) (off := 4) (tgt := 91) (by decide +kernel) (by decide) ?_
        obtain rfl := some_el h
        exact RN_zreturn (by decide +kernel) rfl (Or.inr rfl)
  · replace h := it_f c35 h
    by_cases c40 : v0 = 2
    · replace h := it_t c40 h
      refine RN_tsw (pc := 8) (dflt := 275) (lo := 1) (hi := 12) (offs := #[64, 64, 84, 110, 135, 160, 184, 275, 204, 135, 229, 249]) (len := 64) (v := 2) (off := 64) (tgt := 72) c40 (by decide +kernel) (by decide) (by decide) (by decide +kernel) (by decide) ?_
      refine RN_iload_n (pc := 72) (k := 1) (by decide +kernel) rfl rfl ?_
      refine RN_iconst (pc := 73) (n := 0) (v := 0) (by decide +kernel) (by decide) ?_
      refine RN_bipush (pc := 74) (n := 7) (v := 7) (by decide +kernel) (by decide) ?_
      obtain ⟨x42, f41, h⟩ := bp_el h
      refine RN_callS (M := M_X12_fits) (pc := 76) (idx := 159) (as := [.int v1, .int (0 : Int32), .int (7 : Int32)]) (st := []) (t_X12_in f41) (by decide +kernel) lk_RX12_159 rfl (Nat.le_of_ble_eq_true rfl) ⟨Nat.le_of_ble_eq_true rfl, Nat.le_of_ble_eq_true rfl⟩ rfl ?_
      show RN G M_X12_fits 79 [some (.int v0), some (.int v1), some (.int v2), some (.int x34)] [.int x42] σ _ _
      refine RN_if_eq (pc := 79) (off := 11) (tgt := 90) (by decide +kernel) (by decide) (fun c43 => ?_) (fun c43 => ?_)
      · replace h := it_t c43 h
        exact RN_weak (l := []) trivial (tb_X12_fits_90  h)
      · replace h := it_f c43 h
        refine RN_iload_n (pc := 82) (k := 3) (by decide +kernel) rfl rfl ?_
        refine RN_if_eq (pc := 83) (off := 7) (tgt := 90) (by decide +kernel) (by decide) (fun c44 => ?_) (fun c44 => ?_)
        · replace h := it_t c44 h
          exact RN_weak (l := []) trivial (tb_X12_fits_90  h)
        · replace h := it_f c44 h
          refine RN_iconst (pc := 86) (n := 1) (v := 1) (by decide +kernel) (by decide) ?_
          refine RN_goto (pc := 87) (off := 4) (tgt := 91) (by decide +kernel) (by decide) ?_
          obtain rfl := some_el h
          exact RN_zreturn (by decide +kernel) rfl (Or.inr rfl)
    · replace h := it_f c40 h
      by_cases c45 : v0 = 3
      · replace h := it_t c45 h
        refine RN_tsw (pc := 8) (dflt := 275) (lo := 1) (hi := 12) (offs := #[64, 64, 84, 110, 135, 160, 184, 275, 204, 135, 229, 249]) (len := 64) (v := 3) (off := 84) (tgt := 92) c45 (by decide +kernel) (by decide) (by decide) (by decide +kernel) (by decide) ?_
        refine RN_iload_n (pc := 92) (k := 1) (by decide +kernel) rfl rfl ?_
        refine RN_iconst (pc := 93) (n := 0) (v := 0) (by decide +kernel) (by decide) ?_
        refine RN_bipush (pc := 94) (n := 7) (v := 7) (by decide +kernel) (by decide) ?_
        obtain ⟨x47, f46, h⟩ := bp_el h
        refine RN_callS (M := M_X12_fits) (pc := 96) (idx := 159) (as := [.int v1, .int (0 : Int32), .int (7 : Int32)]) (st := []) (t_X12_in f46) (by decide +kernel) lk_RX12_159 rfl (Nat.le_of_ble_eq_true rfl) ⟨Nat.le_of_ble_eq_true rfl, Nat.le_of_ble_eq_true rfl⟩ rfl ?_
        show RN G M_X12_fits 99 [some (.int v0), some (.int v1), some (.int v2), some (.int x34)] [.int x47] σ _ _
        refine RN_if_eq (pc := 99) (off := 17) (tgt := 116) (by decide +kernel) (by decide) (fun c48 => ?_) (fun c48 => ?_)
        · replace h := it_t c48 h
          exact RN_weak (l := []) trivial (tb_X12_fits_116  h)
        · replace h := it_f c48 h
          refine RN_iload_n (pc := 102) (k := 2) (by decide +kernel) rfl rfl ?_
          refine RN_iconst (pc := 103) (n := 0) (v := 0) (by decide +kernel) (by decide) ?_
          refine RN_bipush (pc := 104) (n := 7) (v := 7) (by decide +kernel) (by decide) ?_
          obtain ⟨x50, f49, h⟩ := bp_el h
          refine RN_callS (M := M_X12_fits) (pc := 106) (idx := 159) (as := [.int v2, .int (0 : Int32), .int (7 : Int32)]) (st := []) (t_X12_in f49) (by decide +kernel) lk_RX12_159 rfl (Nat.le_of_ble_eq_true rfl) ⟨Nat.le_of_ble_eq_true rfl, Nat.le_of_ble_eq_true rfl⟩ rfl ?_
          show RN G M_X12_fits 109 [some (.int v0), some (.int v1), some (.int v2), some (.int x34)] [.int x50] σ _ _
          refine RN_if_eq (pc := 109) (off := 7) (tgt := 116) (by decide +kernel) (by decide) (fun c51 => ?_) (fun c51 => ?_)
          · replace h := it_t c51 h
            exact RN_weak (l := []) trivial (tb_X12_fits_116  h)
          · replace h := it_f c51 h
            refine RN_iconst (pc := 112) (n := 1) (v := 1) (by decide +kernel) (by decide) ?_
            refine RN_goto (pc := 113) (off := 4) (tgt := 117) (by decide +kernel) (by decide) ?_
            obtain rfl := some_el h
            exact RN_zreturn (by decide +kernel) rfl (Or.inr rfl)
      · replace h := it_f c45 h
        by_cases c52 : v0 = 4
        · replace h := it_t c52 h
          refine RN_tsw (pc := 8) (dflt := 275) (lo := 1) (hi := 12) (offs := #[64, 64, 84, 110, 135, 160, 184, 275, 204, 135, 229, 249]) (len := 64) (v := 4) (off := 110) (tgt := 118) c52 (by decide +kernel) (by decide) (by decide) (by decide +kernel) (by decide) ?_
          refine RN_iload_n (pc := 118) (k := 1) (by decide +kernel) rfl rfl ?_
          refine RN_iconst (pc := 119) (n := 0) (v := 0) (by decide +kernel) (by decide) ?_
          refine RN_iconst (pc := 120) (n := 5) (v := 5) (by decide +kernel) (by decide) ?_
          obtain ⟨x54, f53, h⟩ := bp_el h
          refine RN_callS (M := M_X12_fits) (pc := 121) (idx := 159) (as := [.int v1, .int (0 : Int32), .int (5 : Int32)]) (st := []) (t_X12_in f53) (by decide +kernel) lk_RX12_159 rfl (Nat.le_of_ble_eq_true rfl) ⟨Nat.le_of_ble_eq_true rfl, Nat.le_of_ble_eq_true rfl⟩ rfl ?_
          show RN G M_X12_fits 124 [some (.int v0), some (.int v1), some (.int v2), some (.int x34)] [.int x54] σ _ _
          refine RN_if_eq (pc := 124) (off := 17) (tgt := 141) (by decide +kernel) (by decide) (fun c55 => ?_) (fun c55 => ?_)
          · replace h := it_t c55 h
            exact RN_weak (l := []) trivial (tb_X12_fits_141  h)
          · replace h := it_f c55 h
            refine RN_iload_n (pc := 127) (k := 2) (by decide +kernel) rfl rfl ?_
            refine RN_iconst (pc := 128) (n := 1) (v := 1) (by decide +kernel) (by decide) ?_
            refine RN_bipush (pc := 129) (n := 100) (v := 100) (by decide +kernel) (by decide) ?_
            obtain ⟨x57, f56, h⟩ := bp_el h
            refine RN_callS (M := M_X12_fits) (pc := 131) (idx := 159) (as := [.int v2, .int (1 : Int32), .int (100 : Int32)]) (st := []) (t_X12_in f56) (by decide +kernel) lk_RX12_159 rfl (Nat.le_of_ble_eq_true rfl) ⟨Nat.le_of_ble_eq_true rfl, Nat.le_of_ble_eq_true rfl⟩ rfl ?_
            show RN G M_X12_fits 134 [some (.int v0), some (.int v1), some (.int v2), some (.int x34)] [.int x57] σ _ _
            refine RN_if_eq (pc := 134) (off := 7) (tgt := 141) (by decide +kernel) (by decide) (fun c58 => ?_) (fun c58 => ?_)
            · replace h := it_t c58 h
              exact RN_weak (l := []) trivial (tb_X12_fits_141  h)
            · replace h := it_f c58 h
              refine RN_iconst (pc := 137) (n := 1) (v := 1) (by decide +kernel) (by decide) ?_
              refine RN_goto (pc := 138) (off := 4) (tgt := 142) (by decide +kernel) (by decide) ?_
              obtain rfl := some_el h
              exact RN_zreturn (by decide +kernel) rfl (Or.inr rfl)
        · replace h := it_f c52 h
          by_cases c59 : v0 = 5
          · replace h := it_t c59 h
            refine RN_tsw (pc := 8) (dflt := 275) (lo := 1) (hi := 12) (offs := #[64, 64, 84, 110, 135, 160, 184, 275, 204, 135, 229, 249]) (len := 64) (v := 5) (off := 135) (tgt := 143) c59 (by decide +kernel) (by decide) (by decide) (by decide +kernel) (by decide) ?_
            refine RN_iload_n (pc := 143) (k := 1) (by decide +kernel) rfl rfl ?_
            refine RN_iconst (pc := 144) (n := 0) (v := 0) (by decide +kernel) (by decide) ?_
            refine RN_bipush (pc := 145) (n := 7) (v := 7) (by decide +kernel) (by decide) ?_
            obtain ⟨x61, f60, h⟩ := bp_el h
            refine RN_callS (M := M_X12_fits) (pc := 147) (idx := 159) (as := [.int v1, .int (0 : Int32), .int (7 : Int32)]) (st := []) (t_X12_in f60) (by decide +kernel) lk_RX12_159 rfl (Nat.le_of_ble_eq_true rfl) ⟨Nat.le_of_ble_eq_true rfl, Nat.le_of_ble_eq_true rfl⟩ rfl ?_
            show RN G M_X12_fits 150 [some (.int v0), some (.int v1), some (.int v2), some (.int x34)] [.int x61] σ _ _
            refine RN_if_eq (pc := 150) (off := 16) (tgt := 166) (by decide +kernel) (by decide) (fun c62 => ?_) (fun c62 => ?_)
            · replace h := it_t c62 h
              exact RN_weak (l := []) trivial (tb_X12_fits_166  h)
            · replace h := it_f c62 h
              refine RN_iload_n (pc := 153) (k := 2) (by decide +kernel) rfl rfl ?_
              refine RN_iconst (pc := 154) (n := 0) (v := 0) (by decide +kernel) (by decide) ?_
              refine RN_iconst (pc := 155) (n := 1) (v := 1) (by decide +kernel) (by decide) ?_
              obtain ⟨x64, f63, h⟩ := bp_el h
              refine RN_callS (M := M_X12_fits) (pc := 156) (idx := 159) (as := [.int v2, .int (0 : Int32), .int (1 : Int32)]) (st := []) (t_X12_in f63) (by decide +kernel) lk_RX12_159 rfl (Nat.le_of_ble_eq_true rfl) ⟨Nat.le_of_ble_eq_true rfl, Nat.le_of_ble_eq_true rfl⟩ rfl ?_
              show RN G M_X12_fits 159 [some (.int v0), some (.int v1), some (.int v2), some (.int x34)] [.int x64] σ _ _
              refine RN_if_eq (pc := 159) (off := 7) (tgt := 166) (by decide +kernel) (by decide) (fun c65 => ?_) (fun c65 => ?_)
              · replace h := it_t c65 h
                exact RN_weak (l := []) trivial (tb_X12_fits_166  h)
              · replace h := it_f c65 h
                refine RN_iconst (pc := 162) (n := 1) (v := 1) (by decide +kernel) (by decide) ?_
                refine RN_goto (pc := 163) (off := 4) (tgt := 167) (by decide +kernel) (by decide) ?_
                obtain rfl := some_el h
                exact RN_zreturn (by decide +kernel) rfl (Or.inr rfl)
          · replace h := it_f c59 h
            by_cases c66 : v0 = 6
            · replace h := it_t c66 h
              refine RN_tsw (pc := 8) (dflt := 275) (lo := 1) (hi := 12) (offs := #[64, 64, 84, 110, 135, 160, 184, 275, 204, 135, 229, 249]) (len := 64) (v := 6) (off := 160) (tgt := 168) c66 (by decide +kernel) (by decide) (by decide) (by decide +kernel) (by decide) ?_
              refine RN_iload_n (pc := 168) (k := 1) (by decide +kernel) rfl rfl ?_
              refine RN_iconst (pc := 169) (n := 0) (v := 0) (by decide +kernel) (by decide) ?_
              refine RN_iconst (pc := 170) (n := 3) (v := 3) (by decide +kernel) (by decide) ?_
              obtain ⟨x68, f67, h⟩ := bp_el h
              refine RN_callS (M := M_X12_fits) (pc := 171) (idx := 159) (as := [.int v1, .int (0 : Int32), .int (3 : Int32)]) (st := []) (t_X12_in f67) (by decide +kernel) lk_RX12_159 rfl (Nat.le_of_ble_eq_true rfl) ⟨Nat.le_of_ble_eq_true rfl, Nat.le_of_ble_eq_true rfl⟩ rfl ?_
              show RN G M_X12_fits 174 [some (.int v0), some (.int v1), some (.int v2), some (.int x34)] [.int x68] σ _ _
              refine RN_if_eq (pc := 174) (off := 16) (tgt := 190) (by decide +kernel) (by decide) (fun c69 => ?_) (fun c69 => ?_)
              · replace h := it_t c69 h
                exact RN_weak (l := []) trivial (tb_X12_fits_190  h)
              · replace h := it_f c69 h
                refine RN_iload_n (pc := 177) (k := 2) (by decide +kernel) rfl rfl ?_
                refine RN_iconst (pc := 178) (n := 0) (v := 0) (by decide +kernel) (by decide) ?_
                refine RN_iconst (pc := 179) (n := 3) (v := 3) (by decide +kernel) (by decide) ?_
                obtain ⟨x71, f70, h⟩ := bp_el h
                refine RN_callS (M := M_X12_fits) (pc := 180) (idx := 159) (as := [.int v2, .int (0 : Int32), .int (3 : Int32)]) (st := []) (t_X12_in f70) (by decide +kernel) lk_RX12_159 rfl (Nat.le_of_ble_eq_true rfl) ⟨Nat.le_of_ble_eq_true rfl, Nat.le_of_ble_eq_true rfl⟩ rfl ?_
                show RN G M_X12_fits 183 [some (.int v0), some (.int v1), some (.int v2), some (.int x34)] [.int x71] σ _ _
                refine RN_if_eq (pc := 183) (off := 7) (tgt := 190) (by decide +kernel) (by decide) (fun c72 => ?_) (fun c72 => ?_)
                · replace h := it_t c72 h
                  exact RN_weak (l := []) trivial (tb_X12_fits_190  h)
                · replace h := it_f c72 h
                  refine RN_iconst (pc := 186) (n := 1) (v := 1) (by decide +kernel) (by decide) ?_
                  refine RN_goto (pc := 187) (off := 4) (tgt := 191) (by decide +kernel) (by decide) ?_
                  obtain rfl := some_el h
                  exact RN_zreturn (by decide +kernel) rfl (Or.inr rfl)
            · replace h := it_f c66 h
              by_cases c73 : v0 = 7
              · replace h := it_t c73 h
                refine RN_tsw (pc := 8) (dflt := 275) (lo := 1) (hi := 12) (offs := #[64, 64, 84, 110, 135, 160, 184, 275, 204, 135, 229, 249]) (len := 64) (v := 7) (off := 184) (tgt := 192) c73 (by decide +kernel) (by decide) (by decide) (by decide +kernel) (by decide) ?_
                refine RN_iload_n (pc := 192) (k := 1) (by decide +kernel) rfl rfl ?_
                refine RN_iconst (pc := 193) (n := 0) (v := 0) (by decide +kernel) (by decide) ?_
                refine RN_bipush (pc := 194) (n := 7) (v := 7) (by decide +kernel) (by decide) ?_
                obtain ⟨x75, f74, h⟩ := bp_el h
                refine RN_callS (M := M_X12_fits) (pc := 196) (idx := 159) (as := [.int v1, .int (0 : Int32), .int (7 : Int32)]) (st := []) (t_X12_in f74) (by decide +kernel) lk_RX12_159 rfl (Nat.le_of_ble_eq_true rfl) ⟨Nat.le_of_ble_eq_true rfl, Nat.le_of_ble_eq_true rfl⟩ rfl ?_
                show RN G M_X12_fits 199 [some (.int v0), some (.int v1), some (.int v2), some (.int x34)] [.int x75] σ _ _
                refine RN_if_eq (pc := 199) (off := 11) (tgt := 210) (by decide +kernel) (by decide) (fun c76 => ?_) (fun c76 => ?_)
                · replace h := it_t c76 h
                  exact RN_weak (l := []) trivial (tb_X12_fits_210  h)
                · replace h := it_f c76 h
                  refine RN_iload_n (pc := 202) (k := 2) (by decide +kernel) rfl rfl ?_
                  refine RN_if_ne (pc := 203) (off := 7) (tgt := 210) (by decide +kernel) (by decide) (fun c77 => ?_) (fun c77 => ?_)
                  · replace h := it_f c77 h
                    exact RN_weak (l := []) trivial (tb_X12_fits_210  h)
                  · replace h := it_t c77 h
                    refine RN_iconst (pc := 206) (n := 1) (v := 1) (by decide +kernel) (by decide) ?_
                    refine RN_goto (pc := 207) (off := 4) (tgt := 211) (by decide +kernel) (by decide) ?_
                    obtain rfl := some_el h
                    exact RN_zreturn (by decide +kernel) rfl (Or.inr rfl)
              · replace h := it_f c73 h
                by_cases c78 : v0 = 8
                · replace h := it_t c78 h
                  refine RN_tsw (pc := 8) (dflt := 275) (lo := 1) (hi := 12) (offs := #[64, 64, 84, 110, 135, 160, 184, 275, 204, 135, 229, 249]) (len := 64) (v := 8) (off := 275) (tgt := 283) c78 (by decide +kernel) (by decide) (by decide) (by decide +kernel) (by decide) ?_
                  refine RN_iload_n (pc := 283) (k := 1) (by decide +kernel) rfl rfl ?_
                  refine RN_if_ne (pc := 284) (off := 11) (tgt := 295) (by decide +kernel) (by decide) (fun c79 => ?_) (fun c79 => ?_)
                  · replace h := it_f c79 h
                    exact RN_weak (l := []) trivial (tb_X12_fits_295  h)
                  · replace h := it_t c79 h
                    refine RN_iload_n (pc := 287) (k := 2) (by decide +kernel) rfl rfl ?_
                    refine RN_if_ne (pc := 288) (off := 7) (tgt := 295) (by decide +kernel) (by decide) (fun c80 => ?_) (fun c80 => ?_)
                    · replace h := it_f c80 h
                      exact RN_weak (l := []) trivial (tb_X12_fits_295  h)
                    · replace h := it_t c80 h
                      refine RN_iconst (pc := 291) (n := 1) (v := 1) (by decide +kernel) (by decide) ?_
                      refine RN_goto (pc := 292) (off := 4) (tgt := 296) (by decide +kernel) (by decide) ?_
                      obtain rfl := some_el h
                      exact RN_zreturn (by decide +kernel) rfl (Or.inr rfl)
                · replace h := it_f c78 h
                  by_cases c81 : v0 = 9
                  · replace h := it_t c81 h
                    refine RN_tsw (pc := 8) (dflt := 275) (lo := 1) (hi := 12) (offs := #[64, 64, 84, 110, 135, 160, 184, 275, 204, 135, 229, 249]) (len := 64) (v := 9) (off := 204) (tgt := 212) c81 (by decide +kernel) (by decide) (by decide) (by decide +kernel) (by decide) ?_
                    refine RN_iload_n (pc := 212) (k := 1) (by decide +kernel) rfl rfl ?_
                    refine RN_iconst (pc := 213) (n := 0) (v := 0) (by decide +kernel) (by decide) ?_
                    refine RN_iconst (pc := 214) (n := 1) (v := 1) (by decide +kernel) (by decide) ?_
                    obtain ⟨x83, f82, h⟩ := bp_el h
                    refine RN_callS (M := M_X12_fits) (pc := 215) (idx := 159) (as := [.int v1, .int (0 : Int32), .int (1 : Int32)]) (st := []) (t_X12_in f82) (by decide +kernel) lk_RX12_159 rfl (Nat.le_of_ble_eq_true rfl) ⟨Nat.le_of_ble_eq_true rfl, Nat.le_of_ble_eq_true rfl⟩ rfl ?_
                    show RN G M_X12_fits 218 [some (.int v0), some (.int v1), some (.int v2), some (.int x34)] [.int x83] σ _ _
                    refine RN_if_eq (pc := 218) (off := 17) (tgt := 235) (by decide +kernel) (by decide) (fun c84 => ?_) (fun c84 => ?_)
                    · replace h := it_t c84 h
                      exact RN_weak (l := []) trivial (tb_X12_fits_235  h)
                    · replace h := it_f c84 h
                      refine RN_iload_n (pc := 221) (k := 2) (by decide +kernel) rfl rfl ?_
                      refine RN_iconst (pc := 222) (n := 0) (v := 0) (by decide +kernel) (by decide) ?_
                      refine RN_ldc (pc := 223) (idx := 171) (v := 1000000) (by decide +kernel) kc_RX12_171 ?_
                      obtain ⟨x86, f85, h⟩ := bp_el h
                      refine RN_callS (M := M_X12_fits) (pc := 225) (idx := 159) (as := [.int v2, .int (0 : Int32), .int (1000000 : Int32)]) (st := []) (t_X12_in f85) (by decide +kernel) lk_RX12_159 rfl (Nat.le_of_ble_eq_true rfl) ⟨Nat.le_of_ble_eq_true rfl, Nat.le_of_ble_eq_true rfl⟩ rfl ?_
                      show RN G M_X12_fits 228 [some (.int v0), some (.int v1), some (.int v2), some (.int x34)] [.int x86] σ _ _
                      refine RN_if_eq (pc := 228) (off := 7) (tgt := 235) (by decide +kernel) (by decide) (fun c87 => ?_) (fun c87 => ?_)
                      · replace h := it_t c87 h
                        exact RN_weak (l := []) trivial (tb_X12_fits_235  h)
                      · replace h := it_f c87 h
                        refine RN_iconst (pc := 231) (n := 1) (v := 1) (by decide +kernel) (by decide) ?_
                        refine RN_goto (pc := 232) (off := 4) (tgt := 236) (by decide +kernel) (by decide) ?_
                        obtain rfl := some_el h
                        exact RN_zreturn (by decide +kernel) rfl (Or.inr rfl)
                  · replace h := it_f c81 h
                    by_cases c88 : v0 = 10
                    · replace h := it_t c88 h
                      refine RN_tsw (pc := 8) (dflt := 275) (lo := 1) (hi := 12) (offs := #[64, 64, 84, 110, 135, 160, 184, 275, 204, 135, 229, 249]) (len := 64) (v := 10) (off := 135) (tgt := 143) c88 (by decide +kernel) (by decide) (by decide) (by decide +kernel) (by decide) ?_
                      refine RN_iload_n (pc := 143) (k := 1) (by decide +kernel) rfl rfl ?_
                      refine RN_iconst (pc := 144) (n := 0) (v := 0) (by decide +kernel) (by decide) ?_
                      refine RN_bipush (pc := 145) (n := 7) (v := 7) (by decide +kernel) (by decide) ?_
                      obtain ⟨x90, f89, h⟩ := bp_el h
                      refine RN_callS (M := M_X12_fits) (pc := 147) (idx := 159) (as := [.int v1, .int (0 : Int32), .int (7 : Int32)]) (st := []) (t_X12_in f89) (by decide +kernel) lk_RX12_159 rfl (Nat.le_of_ble_eq_true rfl) ⟨Nat.le_of_ble_eq_true rfl, Nat.le_of_ble_eq_true rfl⟩ rfl ?_
                      show RN G M_X12_fits 150 [some (.int v0), some (.int v1), some (.int v2), some (.int x34)] [.int x90] σ _ _
                      refine RN_if_eq (pc := 150) (off := 16) (tgt := 166) (by decide +kernel) (by decide) (fun c91 => ?_) (fun c91 => ?_)
                      · replace h := it_t c91 h
                        exact RN_weak (l := []) trivial (tb_X12_fits_166  h)
                      · replace h := it_f c91 h
                        refine RN_iload_n (pc := 153) (k := 2) (by decide +kernel) rfl rfl ?_
                        refine RN_iconst (pc := 154) (n := 0) (v := 0) (by decide +kernel) (by decide) ?_
                        refine RN_iconst (pc := 155) (n := 1) (v := 1) (by decide +kernel) (by decide) ?_
                        obtain ⟨x93, f92, h⟩ := bp_el h
                        refine RN_callS (M := M_X12_fits) (pc := 156) (idx := 159) (as := [.int v2, .int (0 : Int32), .int (1 : Int32)]) (st := []) (t_X12_in f92) (by decide +kernel) lk_RX12_159 rfl (Nat.le_of_ble_eq_true rfl) ⟨Nat.le_of_ble_eq_true rfl, Nat.le_of_ble_eq_true rfl⟩ rfl ?_
                        show RN G M_X12_fits 159 [some (.int v0), some (.int v1), some (.int v2), some (.int x34)] [.int x93] σ _ _
                        refine RN_if_eq (pc := 159) (off := 7) (tgt := 166) (by decide +kernel) (by decide) (fun c94 => ?_) (fun c94 => ?_)
                        · replace h := it_t c94 h
                          exact RN_weak (l := []) trivial (tb_X12_fits_166  h)
                        · replace h := it_f c94 h
                          refine RN_iconst (pc := 162) (n := 1) (v := 1) (by decide +kernel) (by decide) ?_
                          refine RN_goto (pc := 163) (off := 4) (tgt := 167) (by decide +kernel) (by decide) ?_
                          obtain rfl := some_el h
                          exact RN_zreturn (by decide +kernel) rfl (Or.inr rfl)
                    · replace h := it_f c88 h
                      by_cases c95 : v0 = 11
                      · replace h := it_t c95 h
                        refine RN_tsw (pc := 8) (dflt := 275) (lo := 1) (hi := 12) (offs := #[64, 64, 84, 110, 135, 160, 184, 275, 204, 135, 229, 249]) (len := 64) (v := 11) (off := 229) (tgt := 237) c95 (by decide +kernel) (by decide) (by decide) (by decide +kernel) (by decide) ?_
                        refine RN_iload_n (pc := 237) (k := 1) (by decide +kernel) rfl rfl ?_
                        refine RN_iconst (pc := 238) (n := 0) (v := 0) (by decide +kernel) (by decide) ?_
                        refine RN_bipush (pc := 239) (n := 7) (v := 7) (by decide +kernel) (by decide) ?_
                        obtain ⟨x97, f96, h⟩ := bp_el h
                        refine RN_callS (M := M_X12_fits) (pc := 241) (idx := 159) (as := [.int v1, .int (0 : Int32), .int (7 : Int32)]) (st := []) (t_X12_in f96) (by decide +kernel) lk_RX12_159 rfl (Nat.le_of_ble_eq_true rfl) ⟨Nat.le_of_ble_eq_true rfl, Nat.le_of_ble_eq_true rfl⟩ rfl ?_
                        show RN G M_X12_fits 244 [some (.int v0), some (.int v1), some (.int v2), some (.int x34)] [.int x97] σ _ _
                        refine RN_if_eq (pc := 244) (off := 11) (tgt := 255) (by decide +kernel) (by decide) (fun c98 => ?_) (fun c98 => ?_)
                        · replace h := it_t c98 h
                          exact RN_weak (l := []) trivial (tb_X12_fits_255  h)
                        · replace h := it_f c98 h
                          refine RN_iload_n (pc := 247) (k := 3) (by decide +kernel) rfl rfl ?_
                          refine RN_if_eq (pc := 248) (off := 7) (tgt := 255) (by decide +kernel) (by decide) (fun c99 => ?_) (fun c99 => ?_)
                          · replace h := it_t c99 h
                            exact RN_weak (l := []) trivial (tb_X12_fits_255  h)
                          · replace h := it_f c99 h
                            refine RN_iconst (pc := 251) (n := 1) (v := 1) (by decide +kernel) (by decide) ?_
                            refine RN_goto (pc := 252) (off := 4) (tgt := 256) (by decide +kernel) (by decide) ?_
                            obtain rfl := some_el h
                            exact RN_zreturn (by decide +kernel) rfl (Or.inr rfl)
                      · replace h := it_f c95 h
                        by_cases c100 : v0 = 12
                        · replace h := it_t c100 h
                          refine RN_tsw (pc := 8) (dflt := 275) (lo := 1) (hi := 12) (offs := #[64, 64, 84, 110, 135, 160, 184, 275, 204, 135, 229, 249]) (len := 64) (v := 12) (off := 249) (tgt := 257) c100 (by decide +kernel) (by decide) (by decide) (by decide +kernel) (by decide) ?_
                          refine RN_iload_n (pc := 257) (k := 1) (by decide +kernel) rfl rfl ?_
                          refine RN_iconst (pc := 258) (n := 0) (v := 0) (by decide +kernel) (by decide) ?_
                          refine RN_bipush (pc := 259) (n := 7) (v := 7) (by decide +kernel) (by decide) ?_
                          obtain ⟨x102, f101, h⟩ := bp_el h
                          refine RN_callS (M := M_X12_fits) (pc := 261) (idx := 159) (as := [.int v1, .int (0 : Int32), .int (7 : Int32)]) (st := []) (t_X12_in f101) (by decide +kernel) lk_RX12_159 rfl (Nat.le_of_ble_eq_true rfl) ⟨Nat.le_of_ble_eq_true rfl, Nat.le_of_ble_eq_true rfl⟩ rfl ?_
                          show RN G M_X12_fits 264 [some (.int v0), some (.int v1), some (.int v2), some (.int x34)] [.int x102] σ _ _
                          refine RN_if_eq (pc := 264) (off := 17) (tgt := 281) (by decide +kernel) (by decide) (fun c103 => ?_) (fun c103 => ?_)
                          · replace h := it_t c103 h
                            exact RN_weak (l := []) trivial (tb_X12_fits_281  h)
                          · replace h := it_f c103 h
                            refine RN_iload_n (pc := 267) (k := 2) (by decide +kernel) rfl rfl ?_
                            refine RN_iconst (pc := 268) (n := 1) (v := 1) (by decide +kernel) (by decide) ?_
                            refine RN_bipush (pc := 269) (n := 30) (v := 30) (by decide +kernel) (by decide) ?_
                            obtain ⟨x105, f104, h⟩ := bp_el h
                            refine RN_callS (M := M_X12_fits) (pc := 271) (idx := 159) (as := [.int v2, .int (1 : Int32), .int (30 : Int32)]) (st := []) (t_X12_in f104) (by decide +kernel) lk_RX12_159 rfl (Nat.le_of_ble_eq_true rfl) ⟨Nat.le_of_ble_eq_true rfl, Nat.le_of_ble_eq_true rfl⟩ rfl ?_
                            show RN G M_X12_fits 274 [some (.int v0), some (.int v1), some (.int v2), some (.int x34)] [.int x105] σ _ _
                            refine RN_if_eq (pc := 274) (off := 7) (tgt := 281) (by decide +kernel) (by decide) (fun c106 => ?_) (fun c106 => ?_)
                            · replace h := it_t c106 h
                              exact RN_weak (l := []) trivial (tb_X12_fits_281  h)
                            · replace h := it_f c106 h
                              refine RN_iconst (pc := 277) (n := 1) (v := 1) (by decide +kernel) (by decide) ?_
                              refine RN_goto (pc := 278) (off := 4) (tgt := 282) (by decide +kernel) (by decide) ?_
                              obtain rfl := some_el h
                              exact RN_zreturn (by decide +kernel) rfl (Or.inr rfl)
                        · replace h := it_f c100 h
                          refine RN_tableOut (pc := 8) (dflt := 275) (lo := 1) (hi := 12) (offs := #[64, 64, 84, 110, 135, 160, 184, 275, 204, 135, 229, 249]) (len := 64) (tgt := 283) (by decide +kernel) (tsw_s (hi := 11) (hi' := 12) (tsw_s (hi := 10) (hi' := 11) (tsw_s (hi := 9) (hi' := 10) (tsw_s (hi := 8) (hi' := 9) (tsw_s (hi := 7) (hi' := 8) (tsw_s (hi := 6) (hi' := 7) (tsw_s (hi := 5) (hi' := 6) (tsw_s (hi := 4) (hi' := 5) (tsw_s (hi := 3) (hi' := 4) (tsw_s (hi := 2) (hi' := 3) (tsw_s (hi := 1) (hi' := 2) (tsw_s (hi := 0) (hi' := 1) (tsw_0 (1)) (by decide) (by decide) c35) (by decide) (by decide) c40) (by decide) (by decide) c45) (by decide) (by decide) c52) (by decide) (by decide) c59) (by decide) (by decide) c66) (by decide) (by decide) c73) (by decide) (by decide) c78) (by decide) (by decide) c81) (by decide) (by decide) c88) (by decide) (by decide) c95) (by decide) (by decide) c100) (by decide) ?_
                          refine RN_iload_n (pc := 283) (k := 1) (by decide +kernel) rfl rfl ?_
                          refine RN_if_ne (pc := 284) (off := 11) (tgt := 295) (by decide +kernel) (by decide) (fun c107 => ?_) (fun c107 => ?_)
                          · replace h := it_f c107 h
                            exact RN_weak (l := []) trivial (tb_X12_fits_295  h)
                          · replace h := it_t c107 h
                            refine RN_iload_n (pc := 287) (k := 2) (by decide +kernel) rfl rfl ?_
                            refine RN_if_ne (pc := 288) (off := 7) (tgt := 295) (by decide +kernel) (by decide) (fun c108 => ?_) (fun c108 => ?_)
                            · replace h := it_f c108 h
                              exact RN_weak (l := []) trivial (tb_X12_fits_295  h)
                            · replace h := it_t c108 h
                              refine RN_iconst (pc := 291) (n := 1) (v := 1) (by decide +kernel) (by decide) ?_
                              refine RN_goto (pc := 292) (off := 4) (tgt := 296) (by decide +kernel) (by decide) ?_
                              obtain rfl := some_el h
                              exact RN_zreturn (by decide +kernel) rfl (Or.inr rfl)
def f_X12_act (v0 : Nat) (v1 : Int32) (v2 : Int32) (v3 : Int32) (v4 : Int32) (v5 : Int32) (σ : Sg) : Option (Int32 × Sg) :=
  ck (okO σ v0 11) <|
  bp (f_X12_isProgram v0 v1 σ) fun x50 =>
  if x50 = 0 then (
    some ((-1 : Int32), σ))
  else (
    bp (f_X12_in v2 (0 : Int32) (12 : Int32)) fun x53 =>
    if x53 = 0 then (
      some ((-1 : Int32), σ))
    else (
      bp (f_X12_in v3 (0 : Int32) (7 : Int32)) fun x56 =>
      if x56 = 0 then (
        some ((-1 : Int32), σ))
      else (
        bp (f_X12_fits v2 v4 v5) fun x59 =>
        if x59 = 0 then (
          some ((-1 : Int32), σ))
        else (
          ck (¬ gR σ v0 8 = 0) <|
          nm (gR σ v0 8) fun r62 =>
          ck (okA σ r62 13 v1) <|
          if (gI σ r62 v1.toNatClampNeg) = (20 : Int32) then (
            some ((-2 : Int32), σ))
          else (
            nm (gR σ v0 8) fun r65 =>
            ck (okA σ r65 13 v1) <|
            nm (((20 : Int32) * v1) + (gI σ r65 v1.toNatClampNeg)) fun x67 =>
            ck (¬ gR σ v0 9 = 0) <|
            nm (gR σ v0 9) fun r69 =>
            ck (okW σ r69 13 x67) <|
            nm (pI σ r69 x67.toNatClampNeg v2) fun σ71 =>
            ck (okO σ71 v0 11) <|
            ck (¬ gR σ71 v0 10 = 0) <|
            nm (gR σ71 v0 10) fun r74 =>
            ck (okW σ71 r74 13 x67) <|
            nm (pI σ71 r74 x67.toNatClampNeg v3) fun σ76 =>
            ck (okO σ76 v0 11) <|
            ck (¬ gR σ76 v0 11 = 0) <|
            nm (gR σ76 v0 11) fun r79 =>
            ck (okW σ76 r79 13 x67) <|
            nm (pI σ76 r79 x67.toNatClampNeg v4) fun σ81 =>
            ck (okO σ81 v0 11) <|
            ck (¬ gR σ81 v0 12 = 0) <|
            nm (gR σ81 v0 12) fun r84 =>
            ck (okW σ81 r84 13 x67) <|
            nm (pI σ81 r84 x67.toNatClampNeg v5) fun σ86 =>
            ck (okO σ86 v0 11) <|
            ck (¬ gR σ86 v0 8 = 0) <|
            nm (gR σ86 v0 8) fun r89 =>
            ck (okA σ86 r89 13 v1) <|
            ck (okW σ86 r89 13 v1) <|
            nm (pI σ86 r89 v1.toNatClampNeg ((gI σ86 r89 v1.toNatClampNeg) + (1 : Int32))) fun σ92 =>
            ck (okO σ92 v0 11) <|
            ck (¬ gR σ92 v0 8 = 0) <|
            nm (gR σ92 v0 8) fun r95 =>
            ck (okA σ92 r95 13 v1) <|
            some (gI σ92 r95 v1.toNatClampNeg, σ92))))))
set_option maxRecDepth 20000 in
theorem t_X12_act {G : Gl} {xr : Int32} {σr : Sg} {v0 : Nat} {v1 : Int32} {v2 : Int32} {v3 : Int32} {v4 : Int32} {v5 : Int32} {σ : Sg} (h : f_X12_act v0 v1 v2 v3 v4 v5 σ = some (xr, σr)) : MT G M_X12_act [.ref v0, .int v1, .int v2, .int v3, .int v4, .int v5] σ (some (.int xr)) σr := by
  refine MT_of rfl rfl (Nat.le_of_ble_eq_true rfl) ?_
  show RN G M_X12_act 0 [some (.ref v0), some (.int v1), some (.int v2), some (.int v3), some (.int v4), some (.int v5)] [] σ (.inl (some (.int xr))) σr
  unfold f_X12_act at h
  refine RN_aload_n (pc := 0) (k := 0) (by decide +kernel) rfl rfl ?_
  refine RN_iload_n (pc := 1) (k := 1) (by decide +kernel) rfl rfl ?_
  obtain ⟨c48, h⟩ := ck_el h
  obtain ⟨x50, f49, h⟩ := bp_el h
  refine RN_callV (M := M_X12_act) (pc := 2) (idx := 172) (as := [.int v1]) (st := []) (t_X12_isProgram f49) (by decide +kernel) lk_RX12_172 rfl ⟨by decide, fun q hq => by cases hq; rfl⟩ c48 (Nat.le_of_ble_eq_true rfl) ⟨Nat.le_of_ble_eq_true rfl, Nat.le_of_ble_eq_true rfl⟩ rfl ?_
  show RN G M_X12_act 5 [some (.ref v0), some (.int v1), some (.int v2), some (.int v3), some (.int v4), some (.int v5)] [.int x50] σ _ _
  refine RN_if_eq (pc := 5) (off := 34) (tgt := 39) (by decide +kernel) (by decide) (fun c51 => ?_) (fun c51 => ?_)
  · replace h := it_t c51 h
    refine RN_iconst (pc := 39) (n := -1) (v := -1) (by decide +kernel) (by decide) ?_
    obtain ⟨rfl, rfl⟩ := some_el2 h
    exact RN_ireturn (by decide +kernel) rfl
  · replace h := it_f c51 h
    refine RN_iload_n (pc := 8) (k := 2) (by decide +kernel) rfl rfl ?_
    refine RN_iconst (pc := 9) (n := 0) (v := 0) (by decide +kernel) (by decide) ?_
    refine RN_bipush (pc := 10) (n := 12) (v := 12) (by decide +kernel) (by decide) ?_
    obtain ⟨x53, f52, h⟩ := bp_el h
    refine RN_callS (M := M_X12_act) (pc := 12) (idx := 159) (as := [.int v2, .int (0 : Int32), .int (12 : Int32)]) (st := []) (t_X12_in f52) (by decide +kernel) lk_RX12_159 rfl (Nat.le_of_ble_eq_true rfl) ⟨Nat.le_of_ble_eq_true rfl, Nat.le_of_ble_eq_true rfl⟩ rfl ?_
    show RN G M_X12_act 15 [some (.ref v0), some (.int v1), some (.int v2), some (.int v3), some (.int v4), some (.int v5)] [.int x53] σ _ _
    refine RN_if_eq (pc := 15) (off := 24) (tgt := 39) (by decide +kernel) (by decide) (fun c54 => ?_) (fun c54 => ?_)
    · replace h := it_t c54 h
      refine RN_iconst (pc := 39) (n := -1) (v := -1) (by decide +kernel) (by decide) ?_
      obtain ⟨rfl, rfl⟩ := some_el2 h
      exact RN_ireturn (by decide +kernel) rfl
    · replace h := it_f c54 h
      refine RN_iload_n (pc := 18) (k := 3) (by decide +kernel) rfl rfl ?_
      refine RN_iconst (pc := 19) (n := 0) (v := 0) (by decide +kernel) (by decide) ?_
      refine RN_bipush (pc := 20) (n := 7) (v := 7) (by decide +kernel) (by decide) ?_
      obtain ⟨x56, f55, h⟩ := bp_el h
      refine RN_callS (M := M_X12_act) (pc := 22) (idx := 159) (as := [.int v3, .int (0 : Int32), .int (7 : Int32)]) (st := []) (t_X12_in f55) (by decide +kernel) lk_RX12_159 rfl (Nat.le_of_ble_eq_true rfl) ⟨Nat.le_of_ble_eq_true rfl, Nat.le_of_ble_eq_true rfl⟩ rfl ?_
      show RN G M_X12_act 25 [some (.ref v0), some (.int v1), some (.int v2), some (.int v3), some (.int v4), some (.int v5)] [.int x56] σ _ _
      refine RN_if_eq (pc := 25) (off := 14) (tgt := 39) (by decide +kernel) (by decide) (fun c57 => ?_) (fun c57 => ?_)
      · replace h := it_t c57 h
        refine RN_iconst (pc := 39) (n := -1) (v := -1) (by decide +kernel) (by decide) ?_
        obtain ⟨rfl, rfl⟩ := some_el2 h
        exact RN_ireturn (by decide +kernel) rfl
      · replace h := it_f c57 h
        refine RN_iload_n (pc := 28) (k := 2) (by decide +kernel) rfl rfl ?_
        refine RN_iload (pc := 29) (i := 4) (by decide +kernel) rfl ?_
        refine RN_iload (pc := 31) (i := 5) (by decide +kernel) rfl ?_
        obtain ⟨x59, f58, h⟩ := bp_el h
        refine RN_callS (M := M_X12_act) (pc := 33) (idx := 176) (as := [.int v2, .int v4, .int v5]) (st := []) (t_X12_fits f58) (by decide +kernel) lk_RX12_176 rfl (Nat.le_of_ble_eq_true rfl) ⟨Nat.le_of_ble_eq_true rfl, Nat.le_of_ble_eq_true rfl⟩ rfl ?_
        show RN G M_X12_act 36 [some (.ref v0), some (.int v1), some (.int v2), some (.int v3), some (.int v4), some (.int v5)] [.int x59] σ _ _
        refine RN_if_ne (pc := 36) (off := 5) (tgt := 41) (by decide +kernel) (by decide) (fun c60 => ?_) (fun c60 => ?_)
        · replace h := it_f c60 h
          refine RN_aload_n (pc := 41) (k := 0) (by decide +kernel) rfl rfl ?_
          obtain ⟨c61, h⟩ := ck_el h
          refine RN_getR (pc := 42) (idx := 25) (ci := 11) (k := 8) (by decide +kernel) lf_RX12_25 rfl c48 c61 ?_
          obtain ⟨r62, er62, h⟩ := nm_el h
          refine RN_nmR er62 ?_
          refine RN_iload_n (pc := 45) (k := 1) (by decide +kernel) rfl rfl ?_
          obtain ⟨c63, h⟩ := ck_el h
          refine RN_iald (pc := 46) (by decide +kernel) c63 ?_
          refine RN_bipush (pc := 47) (n := 20) (v := 20) (by decide +kernel) (by decide) ?_
          refine RN_icmp_ne (pc := 49) (off := 6) (tgt := 55) (by decide +kernel) (by decide) (fun c64 => ?_) (fun c64 => ?_)
          · replace h := it_f c64 h
            refine RN_bipush (pc := 55) (n := 20) (v := 20) (by decide +kernel) (by decide) ?_
            refine RN_iload_n (pc := 57) (k := 1) (by decide +kernel) rfl rfl ?_
            refine RN_imul (pc := 58) (by decide +kernel) ?_
            refine RN_aload_n (pc := 59) (k := 0) (by decide +kernel) rfl rfl ?_
            refine RN_getR (pc := 60) (idx := 25) (ci := 11) (k := 8) (by decide +kernel) lf_RX12_25 rfl c48 c61 ?_
            obtain ⟨r65, er65, h⟩ := nm_el h
            refine RN_nmR er65 ?_
            refine RN_iload_n (pc := 63) (k := 1) (by decide +kernel) rfl rfl ?_
            obtain ⟨c66, h⟩ := ck_el h
            refine RN_iald (pc := 64) (by decide +kernel) c66 ?_
            refine RN_iadd (pc := 65) (by decide +kernel) ?_
            obtain ⟨x67, ex67, h⟩ := nm_el h
            refine RN_nmI ex67 ?_
            refine RN_istore (pc := 66) (i := 6) (ls2 := [some (.ref v0), some (.int v1), some (.int v2), some (.int v3), some (.int v4), some (.int v5), some (.int x67)]) (by decide +kernel) (by decide) rfl ?_
            refine RN_aload_n (pc := 68) (k := 0) (by decide +kernel) rfl rfl ?_
            obtain ⟨c68, h⟩ := ck_el h
            refine RN_getR (pc := 69) (idx := 28) (ci := 11) (k := 9) (by decide +kernel) lf_RX12_28 rfl c48 c68 ?_
            obtain ⟨r69, er69, h⟩ := nm_el h
            refine RN_nmR er69 ?_
            refine RN_iload (pc := 72) (i := 6) (by decide +kernel) rfl ?_
            refine RN_iload_n (pc := 74) (k := 2) (by decide +kernel) rfl rfl ?_
            obtain ⟨c70, h⟩ := ck_el h
            refine RN_iast (pc := 75) (by decide +kernel) c70 ?_
            obtain ⟨σ71, eσ71, h⟩ := nm_el h
            refine RN_nmS eσ71 ?_
            refine RN_aload_n (pc := 76) (k := 0) (by decide +kernel) rfl rfl ?_
            obtain ⟨c72, h⟩ := ck_el h
            obtain ⟨c73, h⟩ := ck_el h
            refine RN_getR (pc := 77) (idx := 31) (ci := 11) (k := 10) (by decide +kernel) lf_RX12_31 rfl c72 c73 ?_
            obtain ⟨r74, er74, h⟩ := nm_el h
            refine RN_nmR er74 ?_
            refine RN_iload (pc := 80) (i := 6) (by decide +kernel) rfl ?_
            refine RN_iload_n (pc := 82) (k := 3) (by decide +kernel) rfl rfl ?_
            obtain ⟨c75, h⟩ := ck_el h
            refine RN_iast (pc := 83) (by decide +kernel) c75 ?_
            obtain ⟨σ76, eσ76, h⟩ := nm_el h
            refine RN_nmS eσ76 ?_
            refine RN_aload_n (pc := 84) (k := 0) (by decide +kernel) rfl rfl ?_
            obtain ⟨c77, h⟩ := ck_el h
            obtain ⟨c78, h⟩ := ck_el h
            refine RN_getR (pc := 85) (idx := 34) (ci := 11) (k := 11) (by decide +kernel) lf_RX12_34 rfl c77 c78 ?_
            obtain ⟨r79, er79, h⟩ := nm_el h
            refine RN_nmR er79 ?_
            refine RN_iload (pc := 88) (i := 6) (by decide +kernel) rfl ?_
            refine RN_iload (pc := 90) (i := 4) (by decide +kernel) rfl ?_
            obtain ⟨c80, h⟩ := ck_el h
            refine RN_iast (pc := 92) (by decide +kernel) c80 ?_
            obtain ⟨σ81, eσ81, h⟩ := nm_el h
            refine RN_nmS eσ81 ?_
            refine RN_aload_n (pc := 93) (k := 0) (by decide +kernel) rfl rfl ?_
            obtain ⟨c82, h⟩ := ck_el h
            obtain ⟨c83, h⟩ := ck_el h
            refine RN_getR (pc := 94) (idx := 37) (ci := 11) (k := 12) (by decide +kernel) lf_RX12_37 rfl c82 c83 ?_
            obtain ⟨r84, er84, h⟩ := nm_el h
            refine RN_nmR er84 ?_
            refine RN_iload (pc := 97) (i := 6) (by decide +kernel) rfl ?_
            refine RN_iload (pc := 99) (i := 5) (by decide +kernel) rfl ?_
            obtain ⟨c85, h⟩ := ck_el h
            refine RN_iast (pc := 101) (by decide +kernel) c85 ?_
            obtain ⟨σ86, eσ86, h⟩ := nm_el h
            refine RN_nmS eσ86 ?_
            refine RN_aload_n (pc := 102) (k := 0) (by decide +kernel) rfl rfl ?_
            obtain ⟨c87, h⟩ := ck_el h
            obtain ⟨c88, h⟩ := ck_el h
            refine RN_getR (pc := 103) (idx := 25) (ci := 11) (k := 8) (by decide +kernel) lf_RX12_25 rfl c87 c88 ?_
            obtain ⟨r89, er89, h⟩ := nm_el h
            refine RN_nmR er89 ?_
            refine RN_iload_n (pc := 106) (k := 1) (by decide +kernel) rfl rfl ?_
            refine RN_dup2_11 (pc := 107) (by decide +kernel) rfl rfl ?_
            obtain ⟨c90, h⟩ := ck_el h
            refine RN_iald (pc := 108) (by decide +kernel) c90 ?_
            refine RN_iconst (pc := 109) (n := 1) (v := 1) (by decide +kernel) (by decide) ?_
            refine RN_iadd (pc := 110) (by decide +kernel) ?_
            obtain ⟨c91, h⟩ := ck_el h
            refine RN_iast (pc := 111) (by decide +kernel) c91 ?_
            obtain ⟨σ92, eσ92, h⟩ := nm_el h
            refine RN_nmS eσ92 ?_
            refine RN_aload_n (pc := 112) (k := 0) (by decide +kernel) rfl rfl ?_
            obtain ⟨c93, h⟩ := ck_el h
            obtain ⟨c94, h⟩ := ck_el h
            refine RN_getR (pc := 113) (idx := 25) (ci := 11) (k := 8) (by decide +kernel) lf_RX12_25 rfl c93 c94 ?_
            obtain ⟨r95, er95, h⟩ := nm_el h
            refine RN_nmR er95 ?_
            refine RN_iload_n (pc := 116) (k := 1) (by decide +kernel) rfl rfl ?_
            obtain ⟨c96, h⟩ := ck_el h
            refine RN_iald (pc := 117) (by decide +kernel) c96 ?_
            obtain ⟨rfl, rfl⟩ := some_el2 h
            exact RN_ireturn (by decide +kernel) rfl
          · replace h := it_t c64 h
            refine RN_bipush (pc := 52) (n := -2) (v := -2) (by decide +kernel) (by decide) ?_
            obtain ⟨rfl, rfl⟩ := some_el2 h
            exact RN_ireturn (by decide +kernel) rfl
        · replace h := it_t c60 h
          refine RN_iconst (pc := 39) (n := -1) (v := -1) (by decide +kernel) (by decide) ?_
          obtain ⟨rfl, rfl⟩ := some_el2 h
          exact RN_ireturn (by decide +kernel) rfl
def b_X12_isAct_28 (σ : Sg) : Option Int32 :=
  some (0 : Int32)
set_option maxRecDepth 20000 in
theorem tb_X12_isAct_28 {G : Gl} {xr : Int32} (σ : Sg) (h : b_X12_isAct_28 σ = some xr) : RN G M_X12_isAct 28 [] [] σ (.inl (some (.int xr))) σ := by
  unfold b_X12_isAct_28 at h
  refine RN_iconst (pc := 28) (n := 0) (v := 0) (by decide +kernel) (by decide) ?_
  obtain rfl := some_el h
  exact RN_zreturn (by decide +kernel) rfl (Or.inl rfl)
def f_X12_isAct (v0 : Nat) (v1 : Int32) (v2 : Int32) (σ : Sg) : Option Int32 :=
  ck (okO σ v0 11) <|
  bp (f_X12_isProgram v0 v1 σ) fun x12 =>
  if x12 = 0 then (
    b_X12_isAct_28 σ)
  else (
    ck (¬ gR σ v0 8 = 0) <|
    nm (gR σ v0 8) fun r15 =>
    ck (okA σ r15 13 v1) <|
    bp (f_X12_in v2 (0 : Int32) ((gI σ r15 v1.toNatClampNeg) - (1 : Int32))) fun x18 =>
    if x18 = 0 then (
      b_X12_isAct_28 σ)
    else (
      some (1 : Int32)))
set_option maxRecDepth 20000 in
theorem t_X12_isAct {G : Gl} {xr : Int32} {v0 : Nat} {v1 : Int32} {v2 : Int32} {σ : Sg} (h : f_X12_isAct v0 v1 v2 σ = some xr) : MT G M_X12_isAct [.ref v0, .int v1, .int v2] σ (some (.int xr)) σ := by
  refine MT_of rfl rfl (Nat.le_of_ble_eq_true rfl) ?_
  show RN G M_X12_isAct 0 [some (.ref v0), some (.int v1), some (.int v2)] [] σ (.inl (some (.int xr))) σ
  unfold f_X12_isAct at h
  refine RN_aload_n (pc := 0) (k := 0) (by decide +kernel) rfl rfl ?_
  refine RN_iload_n (pc := 1) (k := 1) (by decide +kernel) rfl rfl ?_
  obtain ⟨c10, h⟩ := ck_el h
  obtain ⟨x12, f11, h⟩ := bp_el h
  refine RN_callV (M := M_X12_isAct) (pc := 2) (idx := 172) (as := [.int v1]) (st := []) (t_X12_isProgram f11) (by decide +kernel) lk_RX12_172 rfl ⟨by decide, fun q hq => by cases hq; rfl⟩ c10 (Nat.le_of_ble_eq_true rfl) ⟨Nat.le_of_ble_eq_true rfl, Nat.le_of_ble_eq_true rfl⟩ rfl ?_
  show RN G M_X12_isAct 5 [some (.ref v0), some (.int v1), some (.int v2)] [.int x12] σ _ _
  refine RN_if_eq (pc := 5) (off := 23) (tgt := 28) (by decide +kernel) (by decide) (fun c13 => ?_) (fun c13 => ?_)
  · replace h := it_t c13 h
    exact RN_weak (l := []) trivial (tb_X12_isAct_28  σ h)
  · replace h := it_f c13 h
    refine RN_iload_n (pc := 8) (k := 2) (by decide +kernel) rfl rfl ?_
    refine RN_iconst (pc := 9) (n := 0) (v := 0) (by decide +kernel) (by decide) ?_
    refine RN_aload_n (pc := 10) (k := 0) (by decide +kernel) rfl rfl ?_
    obtain ⟨c14, h⟩ := ck_el h
    refine RN_getR (pc := 11) (idx := 25) (ci := 11) (k := 8) (by decide +kernel) lf_RX12_25 rfl c10 c14 ?_
    obtain ⟨r15, er15, h⟩ := nm_el h
    refine RN_nmR er15 ?_
    refine RN_iload_n (pc := 14) (k := 1) (by decide +kernel) rfl rfl ?_
    obtain ⟨c16, h⟩ := ck_el h
    refine RN_iald (pc := 15) (by decide +kernel) c16 ?_
    refine RN_iconst (pc := 16) (n := 1) (v := 1) (by decide +kernel) (by decide) ?_
    refine RN_isub (pc := 17) (by decide +kernel) ?_
    obtain ⟨x18, f17, h⟩ := bp_el h
    refine RN_callS (M := M_X12_isAct) (pc := 18) (idx := 159) (as := [.int v2, .int (0 : Int32), .int ((gI σ r15 v1.toNatClampNeg) - (1 : Int32))]) (st := []) (t_X12_in f17) (by decide +kernel) lk_RX12_159 rfl (Nat.le_of_ble_eq_true rfl) ⟨Nat.le_of_ble_eq_true rfl, Nat.le_of_ble_eq_true rfl⟩ rfl ?_
    show RN G M_X12_isAct 21 [some (.ref v0), some (.int v1), some (.int v2)] [.int x18] σ _ _
    refine RN_if_eq (pc := 21) (off := 7) (tgt := 28) (by decide +kernel) (by decide) (fun c19 => ?_) (fun c19 => ?_)
    · replace h := it_t c19 h
      exact RN_weak (l := []) trivial (tb_X12_isAct_28  σ h)
    · replace h := it_f c19 h
      refine RN_iconst (pc := 24) (n := 1) (v := 1) (by decide +kernel) (by decide) ?_
      refine RN_goto (pc := 25) (off := 4) (tgt := 29) (by decide +kernel) (by decide) ?_
      obtain rfl := some_el h
      exact RN_zreturn (by decide +kernel) rfl (Or.inr rfl)
def f_X12_set (v0 : Nat) (v1 : Int32) (v2 : Int32) (v3 : Int32) (v4 : Int32) (σ : Sg) : Option (Int32 × Sg) :=
  ck (okO σ v0 11) <|
  bp (f_X12_isAct v0 v1 v2 σ) fun x22 =>
  if x22 = 0 then (
    some ((-1 : Int32), σ))
  else (
    ck (¬ gR σ v0 9 = 0) <|
    nm (gR σ v0 9) fun r25 =>
    ck (okA σ r25 13 (((20 : Int32) * v1) + v2)) <|
    bp (f_X12_fits (gI σ r25 (((20 : Int32) * v1) + v2).toNatClampNeg) v3 v4) fun x28 =>
    if x28 = 0 then (
      some ((-1 : Int32), σ))
    else (
      ck (¬ gR σ v0 11 = 0) <|
      nm (gR σ v0 11) fun r31 =>
      ck (okW σ r31 13 (((20 : Int32) * v1) + v2)) <|
      nm (pI σ r31 (((20 : Int32) * v1) + v2).toNatClampNeg v3) fun σ33 =>
      ck (okO σ33 v0 11) <|
      ck (¬ gR σ33 v0 12 = 0) <|
      nm (gR σ33 v0 12) fun r36 =>
      ck (okW σ33 r36 13 (((20 : Int32) * v1) + v2)) <|
      nm (pI σ33 r36 (((20 : Int32) * v1) + v2).toNatClampNeg v4) fun σ38 =>
      some ((0 : Int32), σ38)))
set_option maxRecDepth 20000 in
theorem t_X12_set {G : Gl} {xr : Int32} {σr : Sg} {v0 : Nat} {v1 : Int32} {v2 : Int32} {v3 : Int32} {v4 : Int32} {σ : Sg} (h : f_X12_set v0 v1 v2 v3 v4 σ = some (xr, σr)) : MT G M_X12_set [.ref v0, .int v1, .int v2, .int v3, .int v4] σ (some (.int xr)) σr := by
  refine MT_of rfl rfl (Nat.le_of_ble_eq_true rfl) ?_
  show RN G M_X12_set 0 [some (.ref v0), some (.int v1), some (.int v2), some (.int v3), some (.int v4)] [] σ (.inl (some (.int xr))) σr
  unfold f_X12_set at h
  refine RN_aload_n (pc := 0) (k := 0) (by decide +kernel) rfl rfl ?_
  refine RN_iload_n (pc := 1) (k := 1) (by decide +kernel) rfl rfl ?_
  refine RN_iload_n (pc := 2) (k := 2) (by decide +kernel) rfl rfl ?_
  obtain ⟨c20, h⟩ := ck_el h
  obtain ⟨x22, f21, h⟩ := bp_el h
  refine RN_callV (M := M_X12_set) (pc := 3) (idx := 179) (as := [.int v1, .int v2]) (st := []) (t_X12_isAct f21) (by decide +kernel) lk_RX12_179 rfl ⟨by decide, fun q hq => by cases hq; rfl⟩ c20 (Nat.le_of_ble_eq_true rfl) ⟨Nat.le_of_ble_eq_true rfl, Nat.le_of_ble_eq_true rfl⟩ rfl ?_
  show RN G M_X12_set 6 [some (.ref v0), some (.int v1), some (.int v2), some (.int v3), some (.int v4)] [.int x22] σ _ _
  refine RN_if_eq (pc := 6) (off := 23) (tgt := 29) (by decide +kernel) (by decide) (fun c23 => ?_) (fun c23 => ?_)
  · replace h := it_t c23 h
    refine RN_iconst (pc := 29) (n := -1) (v := -1) (by decide +kernel) (by decide) ?_
    obtain ⟨rfl, rfl⟩ := some_el2 h
    exact RN_ireturn (by decide +kernel) rfl
  · replace h := it_f c23 h
    refine RN_aload_n (pc := 9) (k := 0) (by decide +kernel) rfl rfl ?_
    obtain ⟨c24, h⟩ := ck_el h
    refine RN_getR (pc := 10) (idx := 28) (ci := 11) (k := 9) (by decide +kernel) lf_RX12_28 rfl c20 c24 ?_
    obtain ⟨r25, er25, h⟩ := nm_el h
    refine RN_nmR er25 ?_
    refine RN_bipush (pc := 13) (n := 20) (v := 20) (by decide +kernel) (by decide) ?_
    refine RN_iload_n (pc := 15) (k := 1) (by decide +kernel) rfl rfl ?_
    refine RN_imul (pc := 16) (by decide +kernel) ?_
    refine RN_iload_n (pc := 17) (k := 2) (by decide +kernel) rfl rfl ?_
    refine RN_iadd (pc := 18) (by decide +kernel) ?_
    obtain ⟨c26, h⟩ := ck_el h
    refine RN_iald (pc := 19) (by decide +kernel) c26 ?_
    refine RN_iload_n (pc := 20) (k := 3) (by decide +kernel) rfl rfl ?_
    refine RN_iload (pc := 21) (i := 4) (by decide +kernel) rfl ?_
    obtain ⟨x28, f27, h⟩ := bp_el h
    refine RN_callS (M := M_X12_set) (pc := 23) (idx := 176) (as := [.int (gI σ r25 (((20 : Int32) * v1) + v2).toNatClampNeg), .int v3, .int v4]) (st := []) (t_X12_fits f27) (by decide +kernel) lk_RX12_176 rfl (Nat.le_of_ble_eq_true rfl) ⟨Nat.le_of_ble_eq_true rfl, Nat.le_of_ble_eq_true rfl⟩ rfl ?_
    show RN G M_X12_set 26 [some (.ref v0), some (.int v1), some (.int v2), some (.int v3), some (.int v4)] [.int x28] σ _ _
    refine RN_if_ne (pc := 26) (off := 5) (tgt := 31) (by decide +kernel) (by decide) (fun c29 => ?_) (fun c29 => ?_)
    · replace h := it_f c29 h
      refine RN_aload_n (pc := 31) (k := 0) (by decide +kernel) rfl rfl ?_
      obtain ⟨c30, h⟩ := ck_el h
      refine RN_getR (pc := 32) (idx := 34) (ci := 11) (k := 11) (by decide +kernel) lf_RX12_34 rfl c20 c30 ?_
      obtain ⟨r31, er31, h⟩ := nm_el h
      refine RN_nmR er31 ?_
      refine RN_bipush (pc := 35) (n := 20) (v := 20) (by decide +kernel) (by decide) ?_
      refine RN_iload_n (pc := 37) (k := 1) (by decide +kernel) rfl rfl ?_
      refine RN_imul (pc := 38) (by decide +kernel) ?_
      refine RN_iload_n (pc := 39) (k := 2) (by decide +kernel) rfl rfl ?_
      refine RN_iadd (pc := 40) (by decide +kernel) ?_
      refine RN_iload_n (pc := 41) (k := 3) (by decide +kernel) rfl rfl ?_
      obtain ⟨c32, h⟩ := ck_el h
      refine RN_iast (pc := 42) (by decide +kernel) c32 ?_
      obtain ⟨σ33, eσ33, h⟩ := nm_el h
      refine RN_nmS eσ33 ?_
      refine RN_aload_n (pc := 43) (k := 0) (by decide +kernel) rfl rfl ?_
      obtain ⟨c34, h⟩ := ck_el h
      obtain ⟨c35, h⟩ := ck_el h
      refine RN_getR (pc := 44) (idx := 37) (ci := 11) (k := 12) (by decide +kernel) lf_RX12_37 rfl c34 c35 ?_
      obtain ⟨r36, er36, h⟩ := nm_el h
      refine RN_nmR er36 ?_
      refine RN_bipush (pc := 47) (n := 20) (v := 20) (by decide +kernel) (by decide) ?_
      refine RN_iload_n (pc := 49) (k := 1) (by decide +kernel) rfl rfl ?_
      refine RN_imul (pc := 50) (by decide +kernel) ?_
      refine RN_iload_n (pc := 51) (k := 2) (by decide +kernel) rfl rfl ?_
      refine RN_iadd (pc := 52) (by decide +kernel) ?_
      refine RN_iload (pc := 53) (i := 4) (by decide +kernel) rfl ?_
      obtain ⟨c37, h⟩ := ck_el h
      refine RN_iast (pc := 55) (by decide +kernel) c37 ?_
      obtain ⟨σ38, eσ38, h⟩ := nm_el h
      refine RN_nmS eσ38 ?_
      refine RN_iconst (pc := 56) (n := 0) (v := 0) (by decide +kernel) (by decide) ?_
      obtain ⟨rfl, rfl⟩ := some_el2 h
      exact RN_ireturn (by decide +kernel) rfl
    · replace h := it_t c29 h
      refine RN_iconst (pc := 29) (n := -1) (v := -1) (by decide +kernel) (by decide) ?_
      obtain ⟨rfl, rfl⟩ := some_el2 h
      exact RN_ireturn (by decide +kernel) rfl
def f_X12_told (v0 : Nat) (v1 : Int32) (v2 : Int32) (v3 : Int32) (σ : Sg) : Option Int32 :=
  ck (okO σ v0 11) <|
  bp (f_X12_isAct v0 v1 v2 σ) fun x23 =>
  if x23 = 0 then (
    some (-1 : Int32))
  else (
    nm (((20 : Int32) * v1) + v2) fun x25 =>
    if v3 = 0 then (
      ck (¬ gR σ v0 9 = 0) <|
      nm (gR σ v0 9) fun r40 =>
      ck (okA σ r40 13 x25) <|
      some (gI σ r40 x25.toNatClampNeg))
    else (
      if v3 = (1 : Int32) then (
        ck (¬ gR σ v0 10 = 0) <|
        nm (gR σ v0 10) fun r37 =>
        ck (okA σ r37 13 x25) <|
        some (gI σ r37 x25.toNatClampNeg))
      else (
        if v3 = (2 : Int32) then (
          ck (¬ gR σ v0 11 = 0) <|
          nm (gR σ v0 11) fun r34 =>
          ck (okA σ r34 13 x25) <|
          some (gI σ r34 x25.toNatClampNeg))
        else (
          if v3 = (3 : Int32) then (
            ck (¬ gR σ v0 12 = 0) <|
            nm (gR σ v0 12) fun r31 =>
            ck (okA σ r31 13 x25) <|
            some (gI σ r31 x25.toNatClampNeg))
          else (
            some (-1 : Int32))))))
set_option maxRecDepth 20000 in
theorem t_X12_told {G : Gl} {xr : Int32} {v0 : Nat} {v1 : Int32} {v2 : Int32} {v3 : Int32} {σ : Sg} (h : f_X12_told v0 v1 v2 v3 σ = some xr) : MT G M_X12_told [.ref v0, .int v1, .int v2, .int v3] σ (some (.int xr)) σ := by
  refine MT_of rfl rfl (Nat.le_of_ble_eq_true rfl) ?_
  show RN G M_X12_told 0 [some (.ref v0), some (.int v1), some (.int v2), some (.int v3)] [] σ (.inl (some (.int xr))) σ
  unfold f_X12_told at h
  refine RN_aload_n (pc := 0) (k := 0) (by decide +kernel) rfl rfl ?_
  refine RN_iload_n (pc := 1) (k := 1) (by decide +kernel) rfl rfl ?_
  refine RN_iload_n (pc := 2) (k := 2) (by decide +kernel) rfl rfl ?_
  obtain ⟨c21, h⟩ := ck_el h
  obtain ⟨x23, f22, h⟩ := bp_el h
  refine RN_callV (M := M_X12_told) (pc := 3) (idx := 179) (as := [.int v1, .int v2]) (st := []) (t_X12_isAct f22) (by decide +kernel) lk_RX12_179 rfl ⟨by decide, fun q hq => by cases hq; rfl⟩ c21 (Nat.le_of_ble_eq_true rfl) ⟨Nat.le_of_ble_eq_true rfl, Nat.le_of_ble_eq_true rfl⟩ rfl ?_
  show RN G M_X12_told 6 [some (.ref v0), some (.int v1), some (.int v2), some (.int v3)] [.int x23] σ _ _
  refine RN_if_ne (pc := 6) (off := 5) (tgt := 11) (by decide +kernel) (by decide) (fun c24 => ?_) (fun c24 => ?_)
  · replace h := it_f c24 h
    refine RN_bipush (pc := 11) (n := 20) (v := 20) (by decide +kernel) (by decide) ?_
    refine RN_iload_n (pc := 13) (k := 1) (by decide +kernel) rfl rfl ?_
    refine RN_imul (pc := 14) (by decide +kernel) ?_
    refine RN_iload_n (pc := 15) (k := 2) (by decide +kernel) rfl rfl ?_
    refine RN_iadd (pc := 16) (by decide +kernel) ?_
    obtain ⟨x25, ex25, h⟩ := nm_el h
    refine RN_nmI ex25 ?_
    refine RN_istore (pc := 17) (i := 4) (ls2 := [some (.ref v0), some (.int v1), some (.int v2), some (.int v3), some (.int x25)]) (by decide +kernel) (by decide) rfl ?_
    refine RN_iload_n (pc := 19) (k := 3) (by decide +kernel) rfl rfl ?_
    refine RN_if_ne (pc := 20) (off := 13) (tgt := 33) (by decide +kernel) (by decide) (fun c26 => ?_) (fun c26 => ?_)
    · replace h := it_f c26 h
      refine RN_iload_n (pc := 33) (k := 3) (by decide +kernel) rfl rfl ?_
      refine RN_iconst (pc := 34) (n := 1) (v := 1) (by decide +kernel) (by decide) ?_
      refine RN_icmp_ne (pc := 35) (off := 13) (tgt := 48) (by decide +kernel) (by decide) (fun c27 => ?_) (fun c27 => ?_)
      · replace h := it_f c27 h
        refine RN_iload_n (pc := 48) (k := 3) (by decide +kernel) rfl rfl ?_
        refine RN_iconst (pc := 49) (n := 2) (v := 2) (by decide +kernel) (by decide) ?_
        refine RN_icmp_ne (pc := 50) (off := 13) (tgt := 63) (by decide +kernel) (by decide) (fun c28 => ?_) (fun c28 => ?_)
        · replace h := it_f c28 h
          refine RN_iload_n (pc := 63) (k := 3) (by decide +kernel) rfl rfl ?_
          refine RN_iconst (pc := 64) (n := 3) (v := 3) (by decide +kernel) (by decide) ?_
          refine RN_icmp_ne (pc := 65) (off := 13) (tgt := 78) (by decide +kernel) (by decide) (fun c29 => ?_) (fun c29 => ?_)
          · replace h := it_f c29 h
            refine RN_iconst (pc := 78) (n := -1) (v := -1) (by decide +kernel) (by decide) ?_
            obtain rfl := some_el h
            exact RN_ireturn (by decide +kernel) rfl
          · replace h := it_t c29 h
            refine RN_aload_n (pc := 68) (k := 0) (by decide +kernel) rfl rfl ?_
            obtain ⟨c30, h⟩ := ck_el h
            refine RN_getR (pc := 69) (idx := 37) (ci := 11) (k := 12) (by decide +kernel) lf_RX12_37 rfl c21 c30 ?_
            obtain ⟨r31, er31, h⟩ := nm_el h
            refine RN_nmR er31 ?_
            refine RN_iload (pc := 72) (i := 4) (by decide +kernel) rfl ?_
            obtain ⟨c32, h⟩ := ck_el h
            refine RN_iald (pc := 74) (by decide +kernel) c32 ?_
            refine RN_goto (pc := 75) (off := 4) (tgt := 79) (by decide +kernel) (by decide) ?_
            obtain rfl := some_el h
            exact RN_ireturn (by decide +kernel) rfl
        · replace h := it_t c28 h
          refine RN_aload_n (pc := 53) (k := 0) (by decide +kernel) rfl rfl ?_
          obtain ⟨c33, h⟩ := ck_el h
          refine RN_getR (pc := 54) (idx := 34) (ci := 11) (k := 11) (by decide +kernel) lf_RX12_34 rfl c21 c33 ?_
          obtain ⟨r34, er34, h⟩ := nm_el h
          refine RN_nmR er34 ?_
          refine RN_iload (pc := 57) (i := 4) (by decide +kernel) rfl ?_
          obtain ⟨c35, h⟩ := ck_el h
          refine RN_iald (pc := 59) (by decide +kernel) c35 ?_
          refine RN_goto (pc := 60) (off := 19) (tgt := 79) (by decide +kernel) (by decide) ?_
          obtain rfl := some_el h
          exact RN_ireturn (by decide +kernel) rfl
      · replace h := it_t c27 h
        refine RN_aload_n (pc := 38) (k := 0) (by decide +kernel) rfl rfl ?_
        obtain ⟨c36, h⟩ := ck_el h
        refine RN_getR (pc := 39) (idx := 31) (ci := 11) (k := 10) (by decide +kernel) lf_RX12_31 rfl c21 c36 ?_
        obtain ⟨r37, er37, h⟩ := nm_el h
        refine RN_nmR er37 ?_
        refine RN_iload (pc := 42) (i := 4) (by decide +kernel) rfl ?_
        obtain ⟨c38, h⟩ := ck_el h
        refine RN_iald (pc := 44) (by decide +kernel) c38 ?_
        refine RN_goto (pc := 45) (off := 34) (tgt := 79) (by decide +kernel) (by decide) ?_
        obtain rfl := some_el h
        exact RN_ireturn (by decide +kernel) rfl
    · replace h := it_t c26 h
      refine RN_aload_n (pc := 23) (k := 0) (by decide +kernel) rfl rfl ?_
      obtain ⟨c39, h⟩ := ck_el h
      refine RN_getR (pc := 24) (idx := 28) (ci := 11) (k := 9) (by decide +kernel) lf_RX12_28 rfl c21 c39 ?_
      obtain ⟨r40, er40, h⟩ := nm_el h
      refine RN_nmR er40 ?_
      refine RN_iload (pc := 27) (i := 4) (by decide +kernel) rfl ?_
      obtain ⟨c41, h⟩ := ck_el h
      refine RN_iald (pc := 29) (by decide +kernel) c41 ?_
      refine RN_goto (pc := 30) (off := 49) (tgt := 79) (by decide +kernel) (by decide) ?_
      obtain rfl := some_el h
      exact RN_ireturn (by decide +kernel) rfl
  · replace h := it_t c24 h
    refine RN_iconst (pc := 9) (n := -1) (v := -1) (by decide +kernel) (by decide) ?_
    obtain rfl := some_el h
    exact RN_ireturn (by decide +kernel) rfl
def b_X12_common_17 : Nat → Int64 → Int64 → Option Int64
  | 0, _, _ => none
  | n + 1, v4, v6 =>
  if v6 = (0 : Int64) then (
    some v4)
  else (
    ck (¬ v6 = 0) <|
    nm (v4 - v4 / v6 * v6) fun x7 =>
    b_X12_common_17 n v6 x7)
set_option maxRecDepth 20000 in
theorem tb_X12_common_17 {G : Gl} {xr : Int64} {σ : Sg} : ∀ (n : Nat) (v4 : Int64) (v6 : Int64), b_X12_common_17 n v4 v6 = some xr → RN G M_X12_common 17 [none, none, none, none, some (.long v4), none, some (.long v6)] [] σ (.inl (some (.long xr))) σ := by
  intro n
  induction n with
  | zero =>
    intro v4 v6 h
    exact none_el h
  | succ n ih =>
    intro v4 v6 h
    rw [b_X12_common_17] at h
    refine RN_lload (pc := 17) (i := 6) (by decide +kernel) rfl ?_
    refine RN_lconst (pc := 19) (n := 0) (v := 0) (by decide +kernel) (by decide) ?_
    refine RN_lc_eq (pc := 20) (off := 21) (tgt := 42) (by decide +kernel) (by decide +kernel) (by decide) (fun c5 => ?_) (fun c5 => ?_)
    · replace h := it_t c5 h
      refine RN_lload (pc := 42) (i := 4) (by decide +kernel) rfl ?_
      obtain rfl := some_el h
      exact RN_lreturn (by decide +kernel) rfl
    · replace h := it_f c5 h
      refine RN_lload (pc := 24) (i := 4) (by decide +kernel) rfl ?_
      refine RN_lload (pc := 26) (i := 6) (by decide +kernel) rfl ?_
      obtain ⟨c6, h⟩ := ck_el h
      refine RN_lrem (pc := 28) (by decide +kernel) c6 ?_
      obtain ⟨x7, ex7, h⟩ := nm_el h
      refine RN_nmJ ex7 ?_
      refine RN_lstore (pc := 29) (i := 8) (ls2 := [none, none, none, none, some (.long v4), none, some (.long v6), none, some (.long x7), none]) (by decide +kernel) (by decide) rfl ?_
      refine RN_lload (pc := 31) (i := 6) (by decide +kernel) rfl ?_
      refine RN_lstore (pc := 33) (i := 4) (ls2 := [none, none, none, none, some (.long v6), none, some (.long v6), none, some (.long x7), none]) (by decide +kernel) (by decide) rfl ?_
      refine RN_lload (pc := 35) (i := 8) (by decide +kernel) rfl ?_
      refine RN_lstore (pc := 37) (i := 6) (ls2 := [none, none, none, none, some (.long v6), none, some (.long x7), none, some (.long x7), none]) (by decide +kernel) (by decide) rfl ?_
      refine RN_goto (pc := 39) (off := -22) (tgt := 17) (by decide +kernel) (by decide) ?_
      exact RN_weak (l := [none, none, none, none, some (.long v6), none, some (.long x7)]) (And.intro rfl (And.intro rfl trivial)) (ih v6 x7 h)
def b_X12_common_12 (n : Nat) (v2 : Int64) (s0 : Int64) : Option Int64 :=
  b_X12_common_17 n s0 v2
set_option maxRecDepth 20000 in
theorem tb_X12_common_12 {G : Gl} {xr : Int64} {σ : Sg} (n : Nat) (v2 : Int64) (s0 : Int64) (h : b_X12_common_12 n v2 s0 = some xr) : RN G M_X12_common 12 [none, none, some (.long v2)] [.long s0] σ (.inl (some (.long xr))) σ := by
  unfold b_X12_common_12 at h
  refine RN_lstore (pc := 12) (i := 4) (ls2 := [none, none, some (.long v2), none, some (.long s0), none]) (by decide +kernel) (by decide) rfl ?_
  refine RN_lload_n (pc := 14) (k := 2) (by decide +kernel) rfl rfl ?_
  refine RN_lstore (pc := 15) (i := 6) (ls2 := [none, none, some (.long v2), none, some (.long s0), none, some (.long v2), none]) (by decide +kernel) (by decide) rfl ?_
  exact RN_weak (l := [none, none, none, none, some (.long s0), none, some (.long v2)]) (And.intro rfl (And.intro rfl trivial)) (tb_X12_common_17  n s0 v2 h)
def f_X12_common (n : Nat) (v0 : Int64) (v2 : Int64) : Option Int64 :=
  if (0 : Int64) ≤ v0 then (
    b_X12_common_12 n v2 v0)
  else (
    b_X12_common_12 n v2 (-v0))
set_option maxRecDepth 20000 in
theorem t_X12_common {G : Gl} {xr : Int64} {n : Nat} {v0 : Int64} {v2 : Int64} {σ : Sg} (h : f_X12_common n v0 v2 = some xr) : MT G M_X12_common [.long v0, .long v2] σ (some (.long xr)) σ := by
  refine MT_of rfl rfl (Nat.le_of_ble_eq_true rfl) ?_
  show RN G M_X12_common 0 [some (.long v0), none, some (.long v2), none] [] σ (.inl (some (.long xr))) σ
  unfold f_X12_common at h
  refine RN_lload_n (pc := 0) (k := 0) (by decide +kernel) rfl rfl ?_
  refine RN_lconst (pc := 1) (n := 0) (v := 0) (by decide +kernel) (by decide) ?_
  refine RN_lc_ge (pc := 2) (off := 8) (tgt := 11) (by decide +kernel) (by decide +kernel) (by decide) (fun c4 => ?_) (fun c4 => ?_)
  · replace h := it_t c4 h
    refine RN_lload_n (pc := 11) (k := 0) (by decide +kernel) rfl rfl ?_
    exact RN_weak (l := [none, none, some (.long v2)]) (And.intro rfl trivial) (tb_X12_common_12 n v2 v0 h)
  · replace h := it_f c4 h
    refine RN_lload_n (pc := 6) (k := 0) (by decide +kernel) rfl rfl ?_
    refine RN_lneg (pc := 7) (by decide +kernel) ?_
    refine RN_goto (pc := 8) (off := 4) (tgt := 12) (by decide +kernel) (by decide) ?_
    exact RN_weak (l := [none, none, some (.long v2)]) (And.intro rfl trivial) (tb_X12_common_12 n v2 (-v0) h)
def f_X12_floor (v0 : Int64) (v2 : Int64) : Option Int64 :=
  ck (¬ v2 = 0) <|
  nm (v0 / v2) fun x4 =>
  if (x4 * v2) ≤ v0 then (
    some x4)
  else (
    some (x4 - (1 : Int64)))
set_option maxRecDepth 20000 in
theorem t_X12_floor {G : Gl} {xr : Int64} {v0 : Int64} {v2 : Int64} {σ : Sg} (h : f_X12_floor v0 v2 = some xr) : MT G M_X12_floor [.long v0, .long v2] σ (some (.long xr)) σ := by
  refine MT_of rfl rfl (Nat.le_of_ble_eq_true rfl) ?_
  show RN G M_X12_floor 0 [some (.long v0), none, some (.long v2), none] [] σ (.inl (some (.long xr))) σ
  unfold f_X12_floor at h
  refine RN_lload_n (pc := 0) (k := 0) (by decide +kernel) rfl rfl ?_
  refine RN_lload_n (pc := 1) (k := 2) (by decide +kernel) rfl rfl ?_
  obtain ⟨c3, h⟩ := ck_el h
  refine RN_ldiv (pc := 2) (by decide +kernel) c3 ?_
  obtain ⟨x4, ex4, h⟩ := nm_el h
  refine RN_nmJ ex4 ?_
  refine RN_lstore (pc := 3) (i := 4) (ls2 := [some (.long v0), none, some (.long v2), none, some (.long x4), none]) (by decide +kernel) (by decide) rfl ?_
  refine RN_lload (pc := 5) (i := 4) (by decide +kernel) rfl ?_
  refine RN_lload_n (pc := 7) (k := 2) (by decide +kernel) rfl rfl ?_
  refine RN_lmul (pc := 8) (by decide +kernel) ?_
  refine RN_lload_n (pc := 9) (k := 0) (by decide +kernel) rfl rfl ?_
  refine RN_lc_le (pc := 10) (off := 10) (tgt := 21) (by decide +kernel) (by decide +kernel) (by decide) (fun c5 => ?_) (fun c5 => ?_)
  · replace h := it_t c5 h
    refine RN_lload (pc := 21) (i := 4) (by decide +kernel) rfl ?_
    obtain rfl := some_el h
    exact RN_lreturn (by decide +kernel) rfl
  · replace h := it_f c5 h
    refine RN_lload (pc := 14) (i := 4) (by decide +kernel) rfl ?_
    refine RN_lconst (pc := 16) (n := 1) (v := 1) (by decide +kernel) (by decide) ?_
    refine RN_lsub (pc := 17) (by decide +kernel) ?_
    refine RN_goto (pc := 18) (off := 5) (tgt := 23) (by decide +kernel) (by decide) ?_
    obtain rfl := some_el h
    exact RN_lreturn (by decide +kernel) rfl
def b_X12_times_88 (v5 : Int64) : Option Int64 :=
  some (v5 + (1 : Int64))
set_option maxRecDepth 20000 in
theorem tb_X12_times_88 {G : Gl} {xr : Int64} {σ : Sg} (v5 : Int64) (h : b_X12_times_88 v5 = some xr) : RN G M_X12_times 88 [none, none, none, none, none, some (.long v5)] [] σ (.inl (some (.long xr))) σ := by
  unfold b_X12_times_88 at h
  refine RN_lload (pc := 88) (i := 5) (by decide +kernel) rfl ?_
  refine RN_lconst (pc := 90) (n := 1) (v := 1) (by decide +kernel) (by decide) ?_
  refine RN_ladd (pc := 91) (by decide +kernel) ?_
  refine RN_goto (pc := 92) (off := 5) (tgt := 97) (by decide +kernel) (by decide) ?_
  obtain rfl := some_el h
  exact RN_lreturn (by decide +kernel) rfl
def b_X12_times_95 (v5 : Int64) : Option Int64 :=
  some v5
set_option maxRecDepth 20000 in
theorem tb_X12_times_95 {G : Gl} {xr : Int64} {σ : Sg} (v5 : Int64) (h : b_X12_times_95 v5 = some xr) : RN G M_X12_times 95 [none, none, none, none, none, some (.long v5)] [] σ (.inl (some (.long xr))) σ := by
  unfold b_X12_times_95 at h
  refine RN_lload (pc := 95) (i := 5) (by decide +kernel) rfl ?_
  obtain rfl := some_el h
  exact RN_lreturn (by decide +kernel) rfl
def b_X12_times_131 (v5 : Int64) : Option Int64 :=
  some (v5 + (1 : Int64))
set_option maxRecDepth 20000 in
theorem tb_X12_times_131 {G : Gl} {xr : Int64} {σ : Sg} (v5 : Int64) (h : b_X12_times_131 v5 = some xr) : RN G M_X12_times 131 [none, none, none, none, none, some (.long v5)] [] σ (.inl (some (.long xr))) σ := by
  unfold b_X12_times_131 at h
  refine RN_lload (pc := 131) (i := 5) (by decide +kernel) rfl ?_
  refine RN_lconst (pc := 133) (n := 1) (v := 1) (by decide +kernel) (by decide) ?_
  refine RN_ladd (pc := 134) (by decide +kernel) ?_
  refine RN_goto (pc := 135) (off := 5) (tgt := 140) (by decide +kernel) (by decide) ?_
  obtain rfl := some_el h
  exact RN_lreturn (by decide +kernel) rfl
def b_X12_times_138 (v5 : Int64) : Option Int64 :=
  some v5
set_option maxRecDepth 20000 in
theorem tb_X12_times_138 {G : Gl} {xr : Int64} {σ : Sg} (v5 : Int64) (h : b_X12_times_138 v5 = some xr) : RN G M_X12_times 138 [none, none, none, none, none, some (.long v5)] [] σ (.inl (some (.long xr))) σ := by
  unfold b_X12_times_138 at h
  refine RN_lload (pc := 138) (i := 5) (by decide +kernel) rfl ?_
  obtain rfl := some_el h
  exact RN_lreturn (by decide +kernel) rfl
def f_X12_times (v0 : Int64) (v2 : Int64) (v4 : Int32) : Option Int64 :=
  bp (f_X12_floor v0 v2) fun x6 =>
  nm (v0 - (x6 * v2)) fun x7 =>
  if x7 = (0 : Int64) then (
    some x6)
  else (
    if v4 = 0 then (
      if v2 < ((2 : Int64) * x7) then (
        b_X12_times_88 x6)
      else (
        if ((2 : Int64) * x7) = v2 then (
          if v0 ≤ (0 : Int64) then (
            b_X12_times_95 x6)
          else (
            b_X12_times_88 x6))
        else (
          b_X12_times_95 x6)))
    else (
    if v4 = 1 then (
      if v2 < ((2 : Int64) * x7) then (
        b_X12_times_131 x6)
      else (
        if ((2 : Int64) * x7) = v2 then (
          ck (¬ (2 : Int64) = 0) <|
          if (x6 - x6 / (2 : Int64) * (2 : Int64)) = (0 : Int64) then (
            b_X12_times_138 x6)
          else (
            b_X12_times_131 x6))
        else (
          b_X12_times_138 x6)))
    else (
    if v4 = 2 then (
      if v0 ≤ (0 : Int64) then (
        some (x6 + (1 : Int64)))
      else (
        some x6))
    else (
    if v4 = 3 then (
      if v0 ≤ (0 : Int64) then (
        some x6)
      else (
        some (x6 + (1 : Int64))))
    else (
    if v4 = 4 then (
      some x6)
    else (
      some (x6 + (1 : Int64))))))))
set_option maxRecDepth 20000 in
theorem t_X12_times {G : Gl} {xr : Int64} {v0 : Int64} {v2 : Int64} {v4 : Int32} {σ : Sg} (h : f_X12_times v0 v2 v4 = some xr) : MT G M_X12_times [.long v0, .long v2, .int v4] σ (some (.long xr)) σ := by
  refine MT_of rfl rfl (Nat.le_of_ble_eq_true rfl) ?_
  show RN G M_X12_times 0 [some (.long v0), none, some (.long v2), none, some (.int v4)] [] σ (.inl (some (.long xr))) σ
  unfold f_X12_times at h
  refine RN_lload_n (pc := 0) (k := 0) (by decide +kernel) rfl rfl ?_
  refine RN_lload_n (pc := 1) (k := 2) (by decide +kernel) rfl rfl ?_
  obtain ⟨x6, f5, h⟩ := bp_el h
  refine RN_callS (M := M_X12_times) (pc := 2) (idx := 183) (as := [.long v0, .long v2]) (st := []) (t_X12_floor f5) (by decide +kernel) lk_RX12_183 rfl (Nat.le_of_ble_eq_true rfl) ⟨Nat.le_of_ble_eq_true rfl, Nat.le_of_ble_eq_true rfl⟩ rfl ?_
  show RN G M_X12_times 5 [some (.long v0), none, some (.long v2), none, some (.int v4)] [.long x6] σ _ _
  refine RN_lstore (pc := 5) (i := 5) (ls2 := [some (.long v0), none, some (.long v2), none, some (.int v4), some (.long x6), none]) (by decide +kernel) (by decide) rfl ?_
  refine RN_lload_n (pc := 7) (k := 0) (by decide +kernel) rfl rfl ?_
  refine RN_lload (pc := 8) (i := 5) (by decide +kernel) rfl ?_
  refine RN_lload_n (pc := 10) (k := 2) (by decide +kernel) rfl rfl ?_
  refine RN_lmul (pc := 11) (by decide +kernel) ?_
  refine RN_lsub (pc := 12) (by decide +kernel) ?_
  obtain ⟨x7, ex7, h⟩ := nm_el h
  refine RN_nmJ ex7 ?_
  refine RN_lstore (pc := 13) (i := 7) (ls2 := [some (.long v0), none, some (.long v2), none, some (.int v4), some (.long x6), none, some (.long x7), none]) (by decide +kernel) (by decide) rfl ?_
  refine RN_lload (pc := 15) (i := 7) (by decide +kernel) rfl ?_
  refine RN_lconst (pc := 17) (n := 0) (v := 0) (by decide +kernel) (by decide) ?_
  refine RN_lc_ne (pc := 18) (off := 6) (tgt := 25) (by decide +kernel) (by decide +kernel) (by decide) (fun c8 => ?_) (fun c8 => ?_)
  · replace h := it_f c8 h
    refine RN_iload (pc := 25) (i := 4) (by decide +kernel) rfl ?_
    by_cases c9 : v4 = 0
    · replace h := it_t c9 h
      refine RN_tsw (pc := 27) (dflt := 149) (lo := 0) (hi := 4) (offs := #[33, 71, 114, 130, 146]) (len := 33) (v := 0) (off := 33) (tgt := 60) c9 (by decide +kernel) (by decide) (by decide) (by decide +kernel) (by decide) ?_
      refine RN_ldc2 (pc := 60) (idx := 187) (v := 2) (by decide +kernel) kc_RX12_187 ?_
      refine RN_lload (pc := 63) (i := 7) (by decide +kernel) rfl ?_
      refine RN_lmul (pc := 65) (by decide +kernel) ?_
      refine RN_lload_n (pc := 66) (k := 2) (by decide +kernel) rfl rfl ?_
      refine RN_lc_gt (pc := 67) (off := 20) (tgt := 88) (by decide +kernel) (by decide +kernel) (by decide) (fun c10 => ?_) (fun c10 => ?_)
      · replace h := it_t c10 h
        exact RN_weak (l := [none, none, none, none, none, some (.long x6)]) (And.intro rfl trivial) (tb_X12_times_88 x6 h)
      · replace h := it_f c10 h
        refine RN_ldc2 (pc := 71) (idx := 187) (v := 2) (by decide +kernel) kc_RX12_187 ?_
        refine RN_lload (pc := 74) (i := 7) (by decide +kernel) rfl ?_
        refine RN_lmul (pc := 76) (by decide +kernel) ?_
        refine RN_lload_n (pc := 77) (k := 2) (by decide +kernel) rfl rfl ?_
        refine RN_lc_ne (pc := 78) (off := 16) (tgt := 95) (by decide +kernel) (by decide +kernel) (by decide) (fun c11 => ?_) (fun c11 => ?_)
        · replace h := it_f c11 h
          exact RN_weak (l := [none, none, none, none, none, some (.long x6)]) (And.intro rfl trivial) (tb_X12_times_95 x6 h)
        · replace h := it_t c11 h
          refine RN_lload_n (pc := 82) (k := 0) (by decide +kernel) rfl rfl ?_
          refine RN_lconst (pc := 83) (n := 0) (v := 0) (by decide +kernel) (by decide) ?_
          refine RN_lc_le (pc := 84) (off := 10) (tgt := 95) (by decide +kernel) (by decide +kernel) (by decide) (fun c12 => ?_) (fun c12 => ?_)
          · replace h := it_t c12 h
            exact RN_weak (l := [none, none, none, none, none, some (.long x6)]) (And.intro rfl trivial) (tb_X12_times_95 x6 h)
          · replace h := it_f c12 h
            exact RN_weak (l := [none, none, none, none, none, some (.long x6)]) (And.intro rfl trivial) (tb_X12_times_88 x6 h)
    · replace h := it_f c9 h
      by_cases c13 : v4 = 1
      · replace h := it_t c13 h
        refine RN_tsw (pc := 27) (dflt := 149) (lo := 0) (hi := 4) (offs := #[33, 71, 114, 130, 146]) (len := 33) (v := 1) (off := 71) (tgt := 98) c13 (by decide +kernel) (by decide) (by decide) (by decide +kernel) (by decide) ?_
        refine RN_ldc2 (pc := 98) (idx := 187) (v := 2) (by decide +kernel) kc_RX12_187 ?_
        refine RN_lload (pc := 101) (i := 7) (by decide +kernel) rfl ?_
        refine RN_lmul (pc := 103) (by decide +kernel) ?_
        refine RN_lload_n (pc := 104) (k := 2) (by decide +kernel) rfl rfl ?_
        refine RN_lc_gt (pc := 105) (off := 25) (tgt := 131) (by decide +kernel) (by decide +kernel) (by decide) (fun c14 => ?_) (fun c14 => ?_)
        · replace h := it_t c14 h
          exact RN_weak (l := [none, none, none, none, none, some (.long x6)]) (And.intro rfl trivial) (tb_X12_times_131 x6 h)
        · replace h := it_f c14 h
          refine RN_ldc2 (pc := 109) (idx := 187) (v := 2) (by decide +kernel) kc_RX12_187 ?_
          refine RN_lload (pc := 112) (i := 7) (by decide +kernel) rfl ?_
          refine RN_lmul (pc := 114) (by decide +kernel) ?_
          refine RN_lload_n (pc := 115) (k := 2) (by decide +kernel) rfl rfl ?_
          refine RN_lc_ne (pc := 116) (off := 21) (tgt := 138) (by decide +kernel) (by decide +kernel) (by decide) (fun c15 => ?_) (fun c15 => ?_)
          · replace h := it_f c15 h
            exact RN_weak (l := [none, none, none, none, none, some (.long x6)]) (And.intro rfl trivial) (tb_X12_times_138 x6 h)
          · replace h := it_t c15 h
            refine RN_lload (pc := 120) (i := 5) (by decide +kernel) rfl ?_
            refine RN_ldc2 (pc := 122) (idx := 187) (v := 2) (by decide +kernel) kc_RX12_187 ?_
            obtain ⟨c16, h⟩ := ck_el h
            refine RN_lrem (pc := 125) (by decide +kernel) c16 ?_
            refine RN_lconst (pc := 126) (n := 0) (v := 0) (by decide +kernel) (by decide) ?_
            refine RN_lc_eq (pc := 127) (off := 10) (tgt := 138) (by decide +kernel) (by decide +kernel) (by decide) (fun c17 => ?_) (fun c17 => ?_)
            · replace h := it_t c17 h
              exact RN_weak (l := [none, none, none, none, none, some (.long x6)]) (And.intro rfl trivial) (tb_X12_times_138 x6 h)
            · replace h := it_f c17 h
              exact RN_weak (l := [none, none, none, none, none, some (.long x6)]) (And.intro rfl trivial) (tb_X12_times_131 x6 h)
      · replace h := it_f c13 h
        by_cases c18 : v4 = 2
        · replace h := it_t c18 h
          refine RN_tsw (pc := 27) (dflt := 149) (lo := 0) (hi := 4) (offs := #[33, 71, 114, 130, 146]) (len := 33) (v := 2) (off := 114) (tgt := 141) c18 (by decide +kernel) (by decide) (by decide) (by decide +kernel) (by decide) ?_
          refine RN_lload_n (pc := 141) (k := 0) (by decide +kernel) rfl rfl ?_
          refine RN_lconst (pc := 142) (n := 0) (v := 0) (by decide +kernel) (by decide) ?_
          refine RN_lc_le (pc := 143) (off := 8) (tgt := 152) (by decide +kernel) (by decide +kernel) (by decide) (fun c19 => ?_) (fun c19 => ?_)
          · replace h := it_t c19 h
            refine RN_lload (pc := 152) (i := 5) (by decide +kernel) rfl ?_
            refine RN_lconst (pc := 154) (n := 1) (v := 1) (by decide +kernel) (by decide) ?_
            refine RN_ladd (pc := 155) (by decide +kernel) ?_
            obtain rfl := some_el h
            exact RN_lreturn (by decide +kernel) rfl
          · replace h := it_f c19 h
            refine RN_lload (pc := 147) (i := 5) (by decide +kernel) rfl ?_
            refine RN_goto (pc := 149) (off := 7) (tgt := 156) (by decide +kernel) (by decide) ?_
            obtain rfl := some_el h
            exact RN_lreturn (by decide +kernel) rfl
        · replace h := it_f c18 h
          by_cases c20 : v4 = 3
          · replace h := it_t c20 h
            refine RN_tsw (pc := 27) (dflt := 149) (lo := 0) (hi := 4) (offs := #[33, 71, 114, 130, 146]) (len := 33) (v := 3) (off := 130) (tgt := 157) c20 (by decide +kernel) (by decide) (by decide) (by decide +kernel) (by decide) ?_
            refine RN_lload_n (pc := 157) (k := 0) (by decide +kernel) rfl rfl ?_
            refine RN_lconst (pc := 158) (n := 0) (v := 0) (by decide +kernel) (by decide) ?_
            refine RN_lc_le (pc := 159) (off := 10) (tgt := 170) (by decide +kernel) (by decide +kernel) (by decide) (fun c21 => ?_) (fun c21 => ?_)
            · replace h := it_t c21 h
              refine RN_lload (pc := 170) (i := 5) (by decide +kernel) rfl ?_
              obtain rfl := some_el h
              exact RN_lreturn (by decide +kernel) rfl
            · replace h := it_f c21 h
              refine RN_lload (pc := 163) (i := 5) (by decide +kernel) rfl ?_
              refine RN_lconst (pc := 165) (n := 1) (v := 1) (by decide +kernel) (by decide) ?_
              refine RN_ladd (pc := 166) (by decide +kernel) ?_
              refine RN_goto (pc := 167) (off := 5) (tgt := 172) (by decide +kernel) (by decide) ?_
              obtain rfl := some_el h
              exact RN_lreturn (by decide +kernel) rfl
          · replace h := it_f c20 h
            by_cases c22 : v4 = 4
            · replace h := it_t c22 h
              refine RN_tsw (pc := 27) (dflt := 149) (lo := 0) (hi := 4) (offs := #[33, 71, 114, 130, 146]) (len := 33) (v := 4) (off := 146) (tgt := 173) c22 (by decide +kernel) (by decide) (by decide) (by decide +kernel) (by decide) ?_
              refine RN_lload (pc := 173) (i := 5) (by decide +kernel) rfl ?_
              obtain rfl := some_el h
              exact RN_lreturn (by decide +kernel) rfl
            · replace h := it_f c22 h
              refine RN_tableOut (pc := 27) (dflt := 149) (lo := 0) (hi := 4) (offs := #[33, 71, 114, 130, 146]) (len := 33) (tgt := 176) (by decide +kernel) (tsw_s (hi := 3) (hi' := 4) (tsw_s (hi := 2) (hi' := 3) (tsw_s (hi := 1) (hi' := 2) (tsw_s (hi := 0) (hi' := 1) (tsw_s (hi := -1) (hi' := 0) (tsw_0 (0)) (by decide) (by decide) c9) (by decide) (by decide) c13) (by decide) (by decide) c18) (by decide) (by decide) c20) (by decide) (by decide) c22) (by decide) ?_
              refine RN_lload (pc := 176) (i := 5) (by decide +kernel) rfl ?_
              refine RN_lconst (pc := 178) (n := 1) (v := 1) (by decide +kernel) (by decide) ?_
              refine RN_ladd (pc := 179) (by decide +kernel) ?_
              obtain rfl := some_el h
              exact RN_lreturn (by decide +kernel) rfl
  · replace h := it_t c8 h
    refine RN_lload (pc := 22) (i := 5) (by decide +kernel) rfl ?_
    obtain rfl := some_el h
    exact RN_lreturn (by decide +kernel) rfl
def b_X12_becomes_48 (n : Nat) (v0 : Nat) (σ : Sg) : Option (Int32 × Sg) :=
  ck (okO σ v0 11) <|
  nm (pI σ v0 32 (-6 : Int32)) fun σ25 =>
  some ((0 : Int32), σ25)
set_option maxRecDepth 20000 in
theorem tb_X12_becomes_48 {G : Gl} {xr : Int32} {σr : Sg} (n : Nat) (v0 : Nat) (σ : Sg) (h : b_X12_becomes_48 n v0 σ = some (xr, σr)) : RN G M_X12_becomes 48 [some (.ref v0)] [] σ (.inl (some (.int xr))) σr := by
  unfold b_X12_becomes_48 at h
  refine RN_aload_n (pc := 48) (k := 0) (by decide +kernel) rfl rfl ?_
  refine RN_bipush (pc := 49) (n := -6) (v := -6) (by decide +kernel) (by decide) ?_
  obtain ⟨c24, h⟩ := ck_el h
  refine RN_putI (pc := 51) (idx := 198) (ci := 11) (k := 32) (by decide +kernel) lf_RX12_198 rfl (fun q hq => by cases hq; exact Or.inl rfl) c24 ?_
  obtain ⟨σ25, eσ25, h⟩ := nm_el h
  refine RN_nmS eσ25 ?_
  refine RN_iconst (pc := 54) (n := 0) (v := 0) (by decide +kernel) (by decide) ?_
  obtain ⟨rfl, rfl⟩ := some_el2 h
  exact RN_zreturn (by decide +kernel) rfl (Or.inl rfl)
def f_X12_becomes (n : Nat) (v0 : Nat) (v1 : Int32) (v2 : Int64) (v4 : Int64) (σ : Sg) : Option (Int32 × Sg) :=
  bp (f_X12_common n v2 v4) fun x19 =>
  ck (¬ x19 = 0) <|
  nm (v2 / x19) fun x21 =>
  nm (v4 / x19) fun x22 =>
  if (1099511627776 : Int64) < x21 then (
    b_X12_becomes_48 n v0 σ)
  else (
    if x21 < (-1099511627776 : Int64) then (
      b_X12_becomes_48 n v0 σ)
    else (
      if x22 ≤ (1048576 : Int64) then (
        ck (okO σ v0 11) <|
        ck (¬ gR σ v0 19 = 0) <|
        nm (gR σ v0 19) fun r30 =>
        ck (okW σ r30 14 (((8 : Int32) * (gI σ v0 16)) + v1)) <|
        nm (pJ σ r30 (((8 : Int32) * (gI σ v0 16)) + v1).toNatClampNeg x21) fun σ32 =>
        ck (okO σ32 v0 11) <|
        ck (¬ gR σ32 v0 20 = 0) <|
        nm (gR σ32 v0 20) fun r35 =>
        ck (okW σ32 r35 14 (((8 : Int32) * (gI σ32 v0 16)) + v1)) <|
        nm (pJ σ32 r35 (((8 : Int32) * (gI σ32 v0 16)) + v1).toNatClampNeg x22) fun σ37 =>
        some ((1 : Int32), σ37))
      else (
        b_X12_becomes_48 n v0 σ)))
set_option maxRecDepth 20000 in
theorem t_X12_becomes {G : Gl} {xr : Int32} {σr : Sg} {n : Nat} {v0 : Nat} {v1 : Int32} {v2 : Int64} {v4 : Int64} {σ : Sg} (h : f_X12_becomes n v0 v1 v2 v4 σ = some (xr, σr)) : MT G M_X12_becomes [.ref v0, .int v1, .long v2, .long v4] σ (some (.int xr)) σr := by
  refine MT_of rfl rfl (Nat.le_of_ble_eq_true rfl) ?_
  show RN G M_X12_becomes 0 [some (.ref v0), some (.int v1), some (.long v2), none, some (.long v4), none] [] σ (.inl (some (.int xr))) σr
  unfold f_X12_becomes at h
  refine RN_lload_n (pc := 0) (k := 2) (by decide +kernel) rfl rfl ?_
  refine RN_lload (pc := 1) (i := 4) (by decide +kernel) rfl ?_
  obtain ⟨x19, f18, h⟩ := bp_el h
  refine RN_callS (M := M_X12_becomes) (pc := 3) (idx := 189) (as := [.long v2, .long v4]) (st := []) (t_X12_common f18) (by decide +kernel) lk_RX12_189 rfl (Nat.le_of_ble_eq_true rfl) ⟨Nat.le_of_ble_eq_true rfl, Nat.le_of_ble_eq_true rfl⟩ rfl ?_
  show RN G M_X12_becomes 6 [some (.ref v0), some (.int v1), some (.long v2), none, some (.long v4), none] [.long x19] σ _ _
  refine RN_lstore (pc := 6) (i := 6) (ls2 := [some (.ref v0), some (.int v1), some (.long v2), none, some (.long v4), none, some (.long x19), none]) (by decide +kernel) (by decide) rfl ?_
  refine RN_lload_n (pc := 8) (k := 2) (by decide +kernel) rfl rfl ?_
  refine RN_lload (pc := 9) (i := 6) (by decide +kernel) rfl ?_
  obtain ⟨c20, h⟩ := ck_el h
  refine RN_ldiv (pc := 11) (by decide +kernel) c20 ?_
  obtain ⟨x21, ex21, h⟩ := nm_el h
  refine RN_nmJ ex21 ?_
  refine RN_lstore (pc := 12) (i := 8) (ls2 := [some (.ref v0), some (.int v1), some (.long v2), none, some (.long v4), none, some (.long x19), none, some (.long x21), none]) (by decide +kernel) (by decide) rfl ?_
  refine RN_lload (pc := 14) (i := 4) (by decide +kernel) rfl ?_
  refine RN_lload (pc := 16) (i := 6) (by decide +kernel) rfl ?_
  refine RN_ldiv (pc := 18) (by decide +kernel) c20 ?_
  obtain ⟨x22, ex22, h⟩ := nm_el h
  refine RN_nmJ ex22 ?_
  refine RN_lstore (pc := 19) (i := 10) (ls2 := [some (.ref v0), some (.int v1), some (.long v2), none, some (.long v4), none, some (.long x19), none, some (.long x21), none, some (.long x22), none]) (by decide +kernel) (by decide) rfl ?_
  refine RN_lload (pc := 21) (i := 8) (by decide +kernel) rfl ?_
  refine RN_ldc2 (pc := 23) (idx := 192) (v := 1099511627776) (by decide +kernel) kc_RX12_192 ?_
  refine RN_lc_gt (pc := 26) (off := 21) (tgt := 48) (by decide +kernel) (by decide +kernel) (by decide) (fun c23 => ?_) (fun c23 => ?_)
  · replace h := it_t c23 h
    exact RN_weak (l := [some (.ref v0)]) (And.intro rfl trivial) (tb_X12_becomes_48 n v0 σ h)
  · replace h := it_f c23 h
    refine RN_lload (pc := 30) (i := 8) (by decide +kernel) rfl ?_
    refine RN_ldc2 (pc := 32) (idx := 194) (v := -1099511627776) (by decide +kernel) kc_RX12_194 ?_
    refine RN_lc_lt (pc := 35) (off := 12) (tgt := 48) (by decide +kernel) (by decide +kernel) (by decide) (fun c26 => ?_) (fun c26 => ?_)
    · replace h := it_t c26 h
      exact RN_weak (l := [some (.ref v0)]) (And.intro rfl trivial) (tb_X12_becomes_48 n v0 σ h)
    · replace h := it_f c26 h
      refine RN_lload (pc := 39) (i := 10) (by decide +kernel) rfl ?_
      refine RN_ldc2 (pc := 41) (idx := 196) (v := 1048576) (by decide +kernel) kc_RX12_196 ?_
      refine RN_lc_le (pc := 44) (off := 11) (tgt := 56) (by decide +kernel) (by decide +kernel) (by decide) (fun c27 => ?_) (fun c27 => ?_)
      · replace h := it_t c27 h
        refine RN_aload_n (pc := 56) (k := 0) (by decide +kernel) rfl rfl ?_
        obtain ⟨c28, h⟩ := ck_el h
        obtain ⟨c29, h⟩ := ck_el h
        refine RN_getR (pc := 57) (idx := 47) (ci := 11) (k := 19) (by decide +kernel) lf_RX12_47 rfl c28 c29 ?_
        obtain ⟨r30, er30, h⟩ := nm_el h
        refine RN_nmR er30 ?_
        refine RN_bipush (pc := 60) (n := 8) (v := 8) (by decide +kernel) (by decide) ?_
        refine RN_aload_n (pc := 62) (k := 0) (by decide +kernel) rfl rfl ?_
        refine RN_getI (pc := 63) (idx := 146) (ci := 11) (k := 16) (by decide +kernel) lf_RX12_146 (Or.inl rfl) c28 ?_
        refine RN_imul (pc := 66) (by decide +kernel) ?_
        refine RN_iload_n (pc := 67) (k := 1) (by decide +kernel) rfl rfl ?_
        refine RN_iadd (pc := 68) (by decide +kernel) ?_
        refine RN_lload (pc := 69) (i := 8) (by decide +kernel) rfl ?_
        obtain ⟨c31, h⟩ := ck_el h
        refine RN_last (pc := 71) (by decide +kernel) c31 ?_
        obtain ⟨σ32, eσ32, h⟩ := nm_el h
        refine RN_nmS eσ32 ?_
        refine RN_aload_n (pc := 72) (k := 0) (by decide +kernel) rfl rfl ?_
        obtain ⟨c33, h⟩ := ck_el h
        obtain ⟨c34, h⟩ := ck_el h
        refine RN_getR (pc := 73) (idx := 51) (ci := 11) (k := 20) (by decide +kernel) lf_RX12_51 rfl c33 c34 ?_
        obtain ⟨r35, er35, h⟩ := nm_el h
        refine RN_nmR er35 ?_
        refine RN_bipush (pc := 76) (n := 8) (v := 8) (by decide +kernel) (by decide) ?_
        refine RN_aload_n (pc := 78) (k := 0) (by decide +kernel) rfl rfl ?_
        refine RN_getI (pc := 79) (idx := 146) (ci := 11) (k := 16) (by decide +kernel) lf_RX12_146 (Or.inl rfl) c33 ?_
        refine RN_imul (pc := 82) (by decide +kernel) ?_
        refine RN_iload_n (pc := 83) (k := 1) (by decide +kernel) rfl rfl ?_
        refine RN_iadd (pc := 84) (by decide +kernel) ?_
        refine RN_lload (pc := 85) (i := 10) (by decide +kernel) rfl ?_
        obtain ⟨c36, h⟩ := ck_el h
        refine RN_last (pc := 87) (by decide +kernel) c36 ?_
        obtain ⟨σ37, eσ37, h⟩ := nm_el h
        refine RN_nmS eσ37 ?_
        refine RN_iconst (pc := 88) (n := 1) (v := 1) (by decide +kernel) (by decide) ?_
        obtain ⟨rfl, rfl⟩ := some_el2 h
        exact RN_zreturn (by decide +kernel) rfl (Or.inr rfl)
      · replace h := it_f c27 h
        exact RN_weak (l := [some (.ref v0)]) (And.intro rfl trivial) (tb_X12_becomes_48 n v0 σ h)
def f_X12_becomesWhole (n : Nat) (v0 : Nat) (v1 : Int32) (v2 : Int64) (σ : Sg) : Option (Int32 × Sg) :=
  ck (okO σ v0 11) <|
  bd (f_X12_becomes n v0 v1 v2 (1 : Int64) σ) fun x8 σ7 =>
  ck (x8 = 0 ∨ x8 = 1) <|
  some (x8, σ7)
set_option maxRecDepth 20000 in
theorem t_X12_becomesWhole {G : Gl} {xr : Int32} {σr : Sg} {n : Nat} {v0 : Nat} {v1 : Int32} {v2 : Int64} {σ : Sg} (h : f_X12_becomesWhole n v0 v1 v2 σ = some (xr, σr)) : MT G M_X12_becomesWhole [.ref v0, .int v1, .long v2] σ (some (.int xr)) σr := by
  refine MT_of rfl rfl (Nat.le_of_ble_eq_true rfl) ?_
  show RN G M_X12_becomesWhole 0 [some (.ref v0), some (.int v1), some (.long v2), none] [] σ (.inl (some (.int xr))) σr
  unfold f_X12_becomesWhole at h
  refine RN_aload_n (pc := 0) (k := 0) (by decide +kernel) rfl rfl ?_
  refine RN_iload_n (pc := 1) (k := 1) (by decide +kernel) rfl rfl ?_
  refine RN_lload_n (pc := 2) (k := 2) (by decide +kernel) rfl rfl ?_
  refine RN_lconst (pc := 3) (n := 1) (v := 1) (by decide +kernel) (by decide) ?_
  obtain ⟨c5, h⟩ := ck_el h
  obtain ⟨x8, σ7, f6, h⟩ := bd_el h
  refine RN_callV (M := M_X12_becomesWhole) (pc := 4) (idx := 201) (as := [.int v1, .long v2, .long (1 : Int64)]) (st := []) (t_X12_becomes f6) (by decide +kernel) lk_RX12_201 rfl ⟨by decide, fun q hq => by cases hq; rfl⟩ c5 (Nat.le_of_ble_eq_true rfl) ⟨Nat.le_of_ble_eq_true rfl, Nat.le_of_ble_eq_true rfl⟩ rfl ?_
  show RN G M_X12_becomesWhole 7 [some (.ref v0), some (.int v1), some (.long v2), none] [.int x8] σ7 _ _
  obtain ⟨c9, h⟩ := ck_el h
  obtain ⟨rfl, rfl⟩ := some_el2 h
  exact RN_zreturn (by decide +kernel) rfl c9
