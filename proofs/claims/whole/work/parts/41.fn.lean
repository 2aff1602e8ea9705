def f_X12_count (v0 : Nat) (v1 : Int32) (σ : Sg) : Option Int32 :=
  if v1 = 0 then (
    ck (okO σ v0 11) <|
    some (gI σ v0 3))
  else (
  if v1 = 1 then (
    ck (okO σ v0 11) <|
    some (gI σ v0 7))
  else (
  if v1 = 2 then (
    ck (okO σ v0 11) <|
    some (gI σ v0 13))
  else (
  if v1 = 3 then (
    ck (okO σ v0 11) <|
    some (gI σ v0 15))
  else (
    ck (okO σ v0 11) <|
    bp (f_X12_isProgram v0 (v1 - (10 : Int32)) σ) fun x28 =>
    if x28 = 0 then (
      bp (f_X12_in v1 (20 : Int32) (23 : Int32)) fun x31 =>
      if x31 = 0 then (
        some (-1 : Int32))
      else (
        ck (¬ gR σ v0 5 = 0) <|
        nm (gR σ v0 5) fun r34 =>
        ck (okA σ r34 13 (v1 - (20 : Int32))) <|
        some (gI σ r34 (v1 - (20 : Int32)).toNatClampNeg)))
    else (
      ck (¬ gR σ v0 8 = 0) <|
      nm (gR σ v0 8) fun r37 =>
      ck (okA σ r37 13 (v1 - (10 : Int32))) <|
      some (gI σ r37 (v1 - (10 : Int32)).toNatClampNeg))))))
set_option maxRecDepth 20000 in
theorem t_X12_count {G : Gl} {xr : Int32} {v0 : Nat} {v1 : Int32} {σ : Sg} (h : f_X12_count v0 v1 σ = some xr) : MT G M_X12_count [.ref v0, .int v1] σ (some (.int xr)) σ := by
  refine MT_of rfl rfl (Nat.le_of_ble_eq_true rfl) ?_
  show RN G M_X12_count 0 [some (.ref v0), some (.int v1)] [] σ (.inl (some (.int xr))) σ
  unfold f_X12_count at h
  refine RN_iload_n (pc := 0) (k := 1) (by decide +kernel) rfl rfl ?_
  by_cases c18 : v1 = 0
  · replace h := it_t c18 h
    refine RN_tsw (pc := 1) (dflt := 51) (lo := 0) (hi := 3) (offs := #[31, 36, 41, 46]) (len := 31) (v := 0) (off := 31) (tgt := 32) c18 (by decide +kernel) (by decide) (by decide) (by decide +kernel) (by decide) ?_
    refine RN_aload_n (pc := 32) (k := 0) (by decide +kernel) rfl rfl ?_
    obtain ⟨c19, h⟩ := ck_el h
    refine RN_getI (pc := 33) (idx := 137) (ci := 11) (k := 3) (by decide +kernel) lf_RX12_137 (Or.inl rfl) c19 ?_
    obtain rfl := some_el h
    exact RN_ireturn (by decide +kernel) rfl
  · replace h := it_f c18 h
    by_cases c20 : v1 = 1
    · replace h := it_t c20 h
      refine RN_tsw (pc := 1) (dflt := 51) (lo := 0) (hi := 3) (offs := #[31, 36, 41, 46]) (len := 31) (v := 1) (off := 36) (tgt := 37) c20 (by decide +kernel) (by decide) (by decide) (by decide +kernel) (by decide) ?_
      refine RN_aload_n (pc := 37) (k := 0) (by decide +kernel) rfl rfl ?_
      obtain ⟨c21, h⟩ := ck_el h
      refine RN_getI (pc := 38) (idx := 140) (ci := 11) (k := 7) (by decide +kernel) lf_RX12_140 (Or.inl rfl) c21 ?_
      obtain rfl := some_el h
      exact RN_ireturn (by decide +kernel) rfl
    · replace h := it_f c20 h
      by_cases c22 : v1 = 2
      · replace h := it_t c22 h
        refine RN_tsw (pc := 1) (dflt := 51) (lo := 0) (hi := 3) (offs := #[31, 36, 41, 46]) (len := 31) (v := 2) (off := 41) (tgt := 42) c22 (by decide +kernel) (by decide) (by decide) (by decide +kernel) (by decide) ?_
        refine RN_aload_n (pc := 42) (k := 0) (by decide +kernel) rfl rfl ?_
        obtain ⟨c23, h⟩ := ck_el h
        refine RN_getI (pc := 43) (idx := 143) (ci := 11) (k := 13) (by decide +kernel) lf_RX12_143 (Or.inl rfl) c23 ?_
        obtain rfl := some_el h
        exact RN_ireturn (by decide +kernel) rfl
      · replace h := it_f c22 h
        by_cases c24 : v1 = 3
        · replace h := it_t c24 h
          refine RN_tsw (pc := 1) (dflt := 51) (lo := 0) (hi := 3) (offs := #[31, 36, 41, 46]) (len := 31) (v := 3) (off := 46) (tgt := 47) c24 (by decide +kernel) (by decide) (by decide) (by decide +kernel) (by decide) ?_
          refine RN_aload_n (pc := 47) (k := 0) (by decide +kernel) rfl rfl ?_
          obtain ⟨c25, h⟩ := ck_el h
          refine RN_getI (pc := 48) (idx := 134) (ci := 11) (k := 15) (by decide +kernel) lf_RX12_134 (Or.inl rfl) c25 ?_
          obtain rfl := some_el h
          exact RN_ireturn (by decide +kernel) rfl
        · replace h := it_f c24 h
          refine RN_tableOut (pc := 1) (dflt := 51) (lo := 0) (hi := 3) (offs := #[31, 36, 41, 46]) (len := 31) (tgt := 52) (by decide +kernel) (tsw_s (hi := 2) (hi' := 3) (tsw_s (hi := 1) (hi' := 2) (tsw_s (hi := 0) (hi' := 1) (tsw_s (hi := -1) (hi' := 0) (tsw_0 (0)) (by decide) (by decide) c18) (by decide) (by decide) c20) (by decide) (by decide) c22) (by decide) (by decide) c24) (by decide) ?_
          refine RN_aload_n (pc := 52) (k := 0) (by decide +kernel) rfl rfl ?_
          refine RN_iload_n (pc := 53) (k := 1) (by decide +kernel) rfl rfl ?_
          refine RN_bipush (pc := 54) (n := 10) (v := 10) (by decide +kernel) (by decide) ?_
          refine RN_isub (pc := 56) (by decide +kernel) ?_
          obtain ⟨c26, h⟩ := ck_el h
          obtain ⟨x28, f27, h⟩ := bp_el h
          refine RN_callV (M := M_X12_count) (pc := 57) (idx := 172) (as := [.int (v1 - (10 : Int32))]) (st := []) (t_X12_isProgram f27) (by decide +kernel) lk_RX12_172 rfl ⟨by decide, fun q hq => by cases hq; rfl⟩ c26 (Nat.le_of_ble_eq_true rfl) ⟨Nat.le_of_ble_eq_true rfl, Nat.le_of_ble_eq_true rfl⟩ rfl ?_
          show RN G M_X12_count 60 [some (.ref v0), some (.int v1)] [.int x28] σ _ _
          refine RN_if_eq (pc := 60) (off := 15) (tgt := 75) (by decide +kernel) (by decide) (fun c29 => ?_) (fun c29 => ?_)
          · replace h := it_t c29 h
            refine RN_iload_n (pc := 75) (k := 1) (by decide +kernel) rfl rfl ?_
            refine RN_bipush (pc := 76) (n := 20) (v := 20) (by decide +kernel) (by decide) ?_
            refine RN_bipush (pc := 78) (n := 23) (v := 23) (by decide +kernel) (by decide) ?_
            obtain ⟨x31, f30, h⟩ := bp_el h
            refine RN_callS (M := M_X12_count) (pc := 80) (idx := 159) (as := [.int v1, .int (20 : Int32), .int (23 : Int32)]) (st := []) (t_X12_in f30) (by decide +kernel) lk_RX12_159 rfl (Nat.le_of_ble_eq_true rfl) ⟨Nat.le_of_ble_eq_true rfl, Nat.le_of_ble_eq_true rfl⟩ rfl ?_
            show RN G M_X12_count 83 [some (.ref v0), some (.int v1)] [.int x31] σ _ _
            refine RN_if_eq (pc := 83) (off := 15) (tgt := 98) (by decide +kernel) (by decide) (fun c32 => ?_) (fun c32 => ?_)
            · replace h := it_t c32 h
              refine RN_iconst (pc := 98) (n := -1) (v := -1) (by decide +kernel) (by decide) ?_
              obtain rfl := some_el h
              exact RN_ireturn (by decide +kernel) rfl
            · replace h := it_f c32 h
              refine RN_aload_n (pc := 86) (k := 0) (by decide +kernel) rfl rfl ?_
              obtain ⟨c33, h⟩ := ck_el h
              refine RN_getR (pc := 87) (idx := 19) (ci := 11) (k := 5) (by decide +kernel) lf_RX12_19 rfl c26 c33 ?_
              obtain ⟨r34, er34, h⟩ := nm_el h
              refine RN_nmR er34 ?_
              refine RN_iload_n (pc := 90) (k := 1) (by decide +kernel) rfl rfl ?_
              refine RN_bipush (pc := 91) (n := 20) (v := 20) (by decide +kernel) (by decide) ?_
              refine RN_isub (pc := 93) (by decide +kernel) ?_
              obtain ⟨c35, h⟩ := ck_el h
              refine RN_iald (pc := 94) (by decide +kernel) c35 ?_
              refine RN_goto (pc := 95) (off := 4) (tgt := 99) (by decide +kernel) (by decide) ?_
              obtain rfl := some_el h
              exact RN_ireturn (by decide +kernel) rfl
          · replace h := it_f c29 h
            refine RN_aload_n (pc := 63) (k := 0) (by decide +kernel) rfl rfl ?_
            obtain ⟨c36, h⟩ := ck_el h
            refine RN_getR (pc := 64) (idx := 25) (ci := 11) (k := 8) (by decide +kernel) lf_RX12_25 rfl c26 c36 ?_
            obtain ⟨r37, er37, h⟩ := nm_el h
            refine RN_nmR er37 ?_
            refine RN_iload_n (pc := 67) (k := 1) (by decide +kernel) rfl rfl ?_
            refine RN_bipush (pc := 68) (n := 10) (v := 10) (by decide +kernel) (by decide) ?_
            refine RN_isub (pc := 70) (by decide +kernel) ?_
            obtain ⟨c38, h⟩ := ck_el h
            refine RN_iald (pc := 71) (by decide +kernel) c38 ?_
            refine RN_goto (pc := 72) (off := 27) (tgt := 99) (by decide +kernel) (by decide) ?_
            obtain rfl := some_el h
            exact RN_ireturn (by decide +kernel) rfl
