def f_X6_choices (v0 : Nat) (v1 : Int32) (σ : Sg) : Option Int32 :=
  ck (okO σ v0 5) <|
  ck (¬ gR σ v0 0 = 0) <|
  nm (gR σ v0 0) fun r7 =>
  ck (okA σ r7 13 v1) <|
  if (gI σ r7 v1.toNatClampNeg) = 1 then (
    some (6 : Int32))
  else (
  if (gI σ r7 v1.toNatClampNeg) = 2 then (
    some (6 : Int32))
  else (
  if (gI σ r7 v1.toNatClampNeg) = 3 then (
    some (0 : Int32))
  else (
  if (gI σ r7 v1.toNatClampNeg) = 4 then (
    some (6 : Int32))
  else (
  if (gI σ r7 v1.toNatClampNeg) = 5 then (
    some (0 : Int32))
  else (
  if (gI σ r7 v1.toNatClampNeg) = 6 then (
    some (4 : Int32))
  else (
  if (gI σ r7 v1.toNatClampNeg) = 7 then (
    some (0 : Int32))
  else (
  if (gI σ r7 v1.toNatClampNeg) = 8 then (
    some (0 : Int32))
  else (
  if (gI σ r7 v1.toNatClampNeg) = 9 then (
    some (0 : Int32))
  else (
  if (gI σ r7 v1.toNatClampNeg) = 10 then (
    some (0 : Int32))
  else (
  if (gI σ r7 v1.toNatClampNeg) = 11 then (
    some (6 : Int32))
  else (
    some (0 : Int32))))))))))))
set_option maxRecDepth 20000 in
theorem t_X6_choices {G : Gl} {xr : Int32} {v0 : Nat} {v1 : Int32} {σ : Sg} (h : f_X6_choices v0 v1 σ = some xr) : MT G M_X6_choices [.ref v0, .int v1] σ (some (.int xr)) σ := by
  refine MT_of rfl rfl (Nat.le_of_ble_eq_true rfl) ?_
  show RN G M_X6_choices 0 [some (.ref v0), some (.int v1)] [] σ (.inl (some (.int xr))) σ
  unfold f_X6_choices at h
  refine RN_aload_n (pc := 0) (k := 0) (by decide +kernel) rfl rfl ?_
  obtain ⟨c5, h⟩ := ck_el h
  obtain ⟨c6, h⟩ := ck_el h
  refine RN_getR (pc := 1) (idx := 9) (ci := 5) (k := 0) (by decide +kernel) lf_RX6_9 rfl c5 c6 ?_
  obtain ⟨r7, er7, h⟩ := nm_el h
  refine RN_nmR er7 ?_
  refine RN_iload_n (pc := 4) (k := 1) (by decide +kernel) rfl rfl ?_
  obtain ⟨c8, h⟩ := ck_el h
  refine RN_iald (pc := 5) (by decide +kernel) c8 ?_
  by_cases c9 : (gI σ r7 v1.toNatClampNeg) = 1
  · replace h := it_t c9 h
    refine RN_tsw (pc := 6) (dflt := 63) (lo := 1) (hi := 11) (offs := #[58, 58, 63, 58, 63, 61, 63, 63, 63, 63, 58]) (len := 58) (v := 1) (off := 58) (tgt := 64) c9 (by decide +kernel) (by decide) (by decide) (by decide +kernel) (by decide) ?_
    refine RN_bipush (pc := 64) (n := 6) (v := 6) (by decide +kernel) (by decide) ?_
    obtain rfl := some_el h
    exact RN_ireturn (by decide +kernel) rfl
  · replace h := it_f c9 h
    by_cases c10 : (gI σ r7 v1.toNatClampNeg) = 2
    · replace h := it_t c10 h
      refine RN_tsw (pc := 6) (dflt := 63) (lo := 1) (hi := 11) (offs := #[58, 58, 63, 58, 63, 61, 63, 63, 63, 63, 58]) (len := 58) (v := 2) (off := 58) (tgt := 64) c10 (by decide +kernel) (by decide) (by decide) (by decide +kernel) (by decide) ?_
      refine RN_bipush (pc := 64) (n := 6) (v := 6) (by decide +kernel) (by decide) ?_
      obtain rfl := some_el h
      exact RN_ireturn (by decide +kernel) rfl
    · replace h := it_f c10 h
      by_cases c11 : (gI σ r7 v1.toNatClampNeg) = 3
      · replace h := it_t c11 h
        refine RN_tsw (pc := 6) (dflt := 63) (lo := 1) (hi := 11) (offs := #[58, 58, 63, 58, 63, 61, 63, 63, 63, 63, 58]) (len := 58) (v := 3) (off := 63) (tgt := 69) c11 (by decide +kernel) (by decide) (by decide) (by decide +kernel) (by decide) ?_
        refine RN_iconst (pc := 69) (n := 0) (v := 0) (by decide +kernel) (by decide) ?_
        obtain rfl := some_el h
        exact RN_ireturn (by decide +kernel) rfl
      · replace h := it_f c11 h
        by_cases c12 : (gI σ r7 v1.toNatClampNeg) = 4
        · replace h := it_t c12 h
          refine RN_tsw (pc := 6) (dflt := 63) (lo := 1) (hi := 11) (offs := #[58, 58, 63, 58, 63, 61, 63, 63, 63, 63, 58]) (len := 58) (v := 4) (off := 58) (tgt := 64) c12 (by decide +kernel) (by decide) (by decide) (by decide +kernel) (by decide) ?_
          refine RN_bipush (pc := 64) (n := 6) (v := 6) (by decide +kernel) (by decide) ?_
          obtain rfl := some_el h
          exact RN_ireturn (by decide +kernel) rfl
        · replace h := it_f c12 h
          by_cases c13 : (gI σ r7 v1.toNatClampNeg) = 5
          · replace h := it_t c13 h
            refine RN_tsw (pc := 6) (dflt := 63) (lo := 1) (hi := 11) (offs := #[58, 58, 63, 58, 63, 61, 63, 63, 63, 63, 58]) (len := 58) (v := 5) (off := 63) (tgt := 69) c13 (by decide +kernel) (by decide) (by decide) (by decide +kernel) (by decide) ?_
            refine RN_iconst (pc := 69) (n := 0) (v := 0) (by decide +kernel) (by decide) ?_
            obtain rfl := some_el h
            exact RN_ireturn (by decide +kernel) rfl
          · replace h := it_f c13 h
            by_cases c14 : (gI σ r7 v1.toNatClampNeg) = 6
            · replace h := it_t c14 h
              refine RN_tsw (pc := 6) (dflt := 63) (lo := 1) (hi := 11) (offs := #[58, 58, 63, 58, 63, 61, 63, 63, 63, 63, 58]) (len := 58) (v := 6) (off := 61) (tgt := 67) c14 (by decide +kernel) (by decide) (by decide) (by decide +kernel) (by decide) ?_
              refine RN_iconst (pc := 67) (n := 4) (v := 4) (by decide +kernel) (by decide) ?_
              obtain rfl := some_el h
              exact RN_ireturn (by decide +kernel) rfl
            · replace h := it_f c14 h
              by_cases c15 : (gI σ r7 v1.toNatClampNeg) = 7
              · replace h := it_t c15 h
                refine RN_tsw (pc := 6) (dflt := 63) (lo := 1) (hi := 11) (offs := #[58, 58, 63, 58, 63, 61, 63, 63, 63, 63, 58]) (len := 58) (v := 7) (off := 63) (tgt := 69) c15 (by decide +kernel) (by decide) (by decide) (by decide +kernel) (by decide) ?_
                refine RN_iconst (pc := 69) (n := 0) (v := 0) (by decide +kernel) (by decide) ?_
                obtain rfl := some_el h
                exact RN_ireturn (by decide +kernel) rfl
              · replace h := it_f c15 h
                by_cases c16 : (gI σ r7 v1.toNatClampNeg) = 8
                · replace h := it_t c16 h
                  refine RN_tsw (pc := 6) (dflt := 63) (lo := 1) (hi := 11) (offs := #[58, 58, 63, 58, 63, 61, 63, 63, 63, 63, 58]) (len := 58) (v := 8) (off := 63) (tgt := 69) c16 (by decide +kernel) (by decide) (by decide) (by decide +kernel) (by decide) ?_
                  refine RN_iconst (pc := 69) (n := 0) (v := 0) (by decide +kernel) (by decide) ?_
                  obtain rfl := some_el h
                  exact RN_ireturn (by decide +kernel) rfl
                · replace h := it_f c16 h
                  by_cases c17 : (gI σ r7 v1.toNatClampNeg) = 9
                  · replace h := it_t c17 h
                    refine RN_tsw (pc := 6) (dflt := 63) (lo := 1) (hi := 11) (offs := #[58, 58, 63, 58, 63, 61, 63, 63, 63, 63, 58]) (len := 58) (v := 9) (off := 63) (tgt := 69) c17 (by decide +kernel) (by decide) (by decide) (by decide +kernel) (by decide) ?_
                    refine RN_iconst (pc := 69) (n := 0) (v := 0) (by decide +kernel) (by decide) ?_
                    obtain rfl := some_el h
                    exact RN_ireturn (by decide +kernel) rfl
                  · replace h := it_f c17 h
                    by_cases c18 : (gI σ r7 v1.toNatClampNeg) = 10
                    · replace h := it_t c18 h
                      refine RN_tsw (pc := 6) (dflt := 63) (lo := 1) (hi := 11) (offs := #[58, 58, 63, 58, 63, 61, 63, 63, 63, 63, 58]) (len := 58) (v := 10) (off := 63) (tgt := 69) c18 (by decide +kernel) (by decide) (by decide) (by decide +kernel) (by decide) ?_
                      refine RN_iconst (pc := 69) (n := 0) (v := 0) (by decide +kernel) (by decide) ?_
                      obtain rfl := some_el h
                      exact RN_ireturn (by decide +kernel) rfl
                    · replace h := it_f c18 h
                      by_cases c19 : (gI σ r7 v1.toNatClampNeg) = 11
                      · replace h := it_t c19 h
                        refine RN_tsw (pc := 6) (dflt := 63) (lo := 1) (hi := 11) (offs := #[58, 58, 63, 58, 63, 61, 63, 63, 63, 63, 58]) (len := 58) (v := 11) (off := 58) (tgt := 64) c19 (by decide +kernel) (by decide) (by decide) (by decide +kernel) (by decide) ?_
                        refine RN_bipush (pc := 64) (n := 6) (v := 6) (by decide +kernel) (by decide) ?_
                        obtain rfl := some_el h
                        exact RN_ireturn (by decide +kernel) rfl
                      · replace h := it_f c19 h
                        refine RN_tableOut (pc := 6) (dflt := 63) (lo := 1) (hi := 11) (offs := #[58, 58, 63, 58, 63, 61, 63, 63, 63, 63, 58]) (len := 58) (tgt := 69) (by decide +kernel) (tsw_s (hi := 10) (hi' := 11) (tsw_s (hi := 9) (hi' := 10) (tsw_s (hi := 8) (hi' := 9) (tsw_s (hi := 7) (hi' := 8) (tsw_s (hi := 6) (hi' := 7) (tsw_s (hi := 5) (hi' := 6) (tsw_s (hi := 4) (hi' := 5) (tsw_s (hi := 3) (hi' := 4) (tsw_s (hi := 2) (hi' := 3) (tsw_s (hi := 1) (hi' := 2) (tsw_s (hi := 0) (hi' := 1) (tsw_0 (1)) (by decide) (by decide) c9) (by decide) (by decide) c10) (by decide) (by decide) c11) (by decide) (by decide) c12) (by decide) (by decide) c13) (by decide) (by decide) c14) (by decide) (by decide) c15) (by decide) (by decide) c16) (by decide) (by decide) c17) (by decide) (by decide) c18) (by decide) (by decide) c19) (by decide) ?_
                        refine RN_iconst (pc := 69) (n := 0) (v := 0) (by decide +kernel) (by decide) ?_
                        obtain rfl := some_el h
                        exact RN_ireturn (by decide +kernel) rfl
def f_X6_choosesByT (v0 : Nat) (v1 : Int32) (σ : Sg) : Option Int32 :=
  ck (okO σ v0 5) <|
  ck (¬ gR σ v0 0 = 0) <|
  nm (gR σ v0 0) fun r11 =>
  ck (okA σ r11 13 v1) <|
  if (gI σ r11 v1.toNatClampNeg) = (4 : Int32) then (
    some (1 : Int32))
  else (
    nm (gR σ v0 0) fun r14 =>
    ck (okA σ r14 13 v1) <|
    if (gI σ r14 v1.toNatClampNeg) = (6 : Int32) then (
      some (1 : Int32))
    else (
      some (0 : Int32)))
set_option maxRecDepth 20000 in
theorem t_X6_choosesByT {G : Gl} {xr : Int32} {v0 : Nat} {v1 : Int32} {σ : Sg} (h : f_X6_choosesByT v0 v1 σ = some xr) : MT G M_X6_choosesByT [.ref v0, .int v1] σ (some (.int xr)) σ := by
  refine MT_of rfl rfl (Nat.le_of_ble_eq_true rfl) ?_
  show RN G M_X6_choosesByT 0 [some (.ref v0), some (.int v1)] [] σ (.inl (some (.int xr))) σ
  unfold f_X6_choosesByT at h
  refine RN_aload_n (pc := 0) (k := 0) (by decide +kernel) rfl rfl ?_
  obtain ⟨c9, h⟩ := ck_el h
  obtain ⟨c10, h⟩ := ck_el h
  refine RN_getR (pc := 1) (idx := 9) (ci := 5) (k := 0) (by decide +kernel) lf_RX6_9 rfl c9 c10 ?_
  obtain ⟨r11, er11, h⟩ := nm_el h
  refine RN_nmR er11 ?_
  refine RN_iload_n (pc := 4) (k := 1) (by decide +kernel) rfl rfl ?_
  obtain ⟨c12, h⟩ := ck_el h
  refine RN_iald (pc := 5) (by decide +kernel) c12 ?_
  refine RN_iconst (pc := 6) (n := 4) (v := 4) (by decide +kernel) (by decide) ?_
  refine RN_icmp_eq (pc := 7) (off := 14) (tgt := 21) (by decide +kernel) (by decide) (fun c13 => ?_) (fun c13 => ?_)
  · replace h := it_t c13 h
    refine RN_iconst (pc := 21) (n := 1) (v := 1) (by decide +kernel) (by decide) ?_
    refine RN_goto (pc := 22) (off := 4) (tgt := 26) (by decide +kernel) (by decide) ?_
    obtain rfl := some_el h
    exact RN_zreturn (by decide +kernel) rfl (Or.inr rfl)
  · replace h := it_f c13 h
    refine RN_aload_n (pc := 10) (k := 0) (by decide +kernel) rfl rfl ?_
    refine RN_getR (pc := 11) (idx := 9) (ci := 5) (k := 0) (by decide +kernel) lf_RX6_9 rfl c9 c10 ?_
    obtain ⟨r14, er14, h⟩ := nm_el h
    refine RN_nmR er14 ?_
    refine RN_iload_n (pc := 14) (k := 1) (by decide +kernel) rfl rfl ?_
    obtain ⟨c15, h⟩ := ck_el h
    refine RN_iald (pc := 15) (by decide +kernel) c15 ?_
    refine RN_bipush (pc := 16) (n := 6) (v := 6) (by decide +kernel) (by decide) ?_
    refine RN_icmp_ne (pc := 18) (off := 7) (tgt := 25) (by decide +kernel) (by decide) (fun c16 => ?_) (fun c16 => ?_)
    · replace h := it_f c16 h
      refine RN_iconst (pc := 25) (n := 0) (v := 0) (by decide +kernel) (by decide) ?_
      obtain rfl := some_el h
      exact RN_zreturn (by decide +kernel) rfl (Or.inl rfl)
    · replace h := it_t c16 h
      refine RN_iconst (pc := 21) (n := 1) (v := 1) (by decide +kernel) (by decide) ?_
      refine RN_goto (pc := 22) (off := 4) (tgt := 26) (by decide +kernel) (by decide) ?_
      obtain rfl := some_el h
      exact RN_zreturn (by decide +kernel) rfl (Or.inr rfl)
def f_X6_choice (v0 : Nat) (v1 : Int32) (σ : Sg) : Option Int32 :=
  ck (okO σ v0 5) <|
  bp (f_X6_choosesByT v0 v1 σ) fun x14 =>
  if x14 = 0 then (
    ck (¬ gR σ v0 3 = 0) <|
    nm (gR σ v0 3) fun r17 =>
    ck (okA σ r17 13 v1) <|
    some (gI σ r17 v1.toNatClampNeg))
  else (
    ck (¬ gR σ v0 2 = 0) <|
    nm (gR σ v0 2) fun r20 =>
    ck (okA σ r20 13 v1) <|
    some (gI σ r20 v1.toNatClampNeg))
set_option maxRecDepth 20000 in
theorem t_X6_choice {G : Gl} {xr : Int32} {v0 : Nat} {v1 : Int32} {σ : Sg} (h : f_X6_choice v0 v1 σ = some xr) : MT G M_X6_choice [.ref v0, .int v1] σ (some (.int xr)) σ := by
  refine MT_of rfl rfl (Nat.le_of_ble_eq_true rfl) ?_
  show RN G M_X6_choice 0 [some (.ref v0), some (.int v1)] [] σ (.inl (some (.int xr))) σ
  unfold f_X6_choice at h
  refine RN_aload_n (pc := 0) (k := 0) (by decide +kernel) rfl rfl ?_
  refine RN_iload_n (pc := 1) (k := 1) (by decide +kernel) rfl rfl ?_
  obtain ⟨c12, h⟩ := ck_el h
  obtain ⟨x14, f13, h⟩ := bp_el h
  refine RN_callV (M := M_X6_choice) (pc := 2) (idx := 35) (as := [.int v1]) (st := []) (t_X6_choosesByT f13) (by decide +kernel) lk_RX6_35 rfl ⟨by decide, fun q hq => by cases hq; rfl⟩ c12 (Nat.le_of_ble_eq_true rfl) ⟨Nat.le_of_ble_eq_true rfl, Nat.le_of_ble_eq_true rfl⟩ rfl ?_
  show RN G M_X6_choice 5 [some (.ref v0), some (.int v1)] [.int x14] σ _ _
  refine RN_if_eq (pc := 5) (off := 12) (tgt := 17) (by decide +kernel) (by decide) (fun c15 => ?_) (fun c15 => ?_)
  · replace h := it_t c15 h
    refine RN_aload_n (pc := 17) (k := 0) (by decide +kernel) rfl rfl ?_
    obtain ⟨c16, h⟩ := ck_el h
    refine RN_getR (pc := 18) (idx := 21) (ci := 5) (k := 3) (by decide +kernel) lf_RX6_21 rfl c12 c16 ?_
    obtain ⟨r17, er17, h⟩ := nm_el h
    refine RN_nmR er17 ?_
    refine RN_iload_n (pc := 21) (k := 1) (by decide +kernel) rfl rfl ?_
    obtain ⟨c18, h⟩ := ck_el h
    refine RN_iald (pc := 22) (by decide +kernel) c18 ?_
    obtain rfl := some_el h
    exact RN_ireturn (by decide +kernel) rfl
  · replace h := it_f c15 h
    refine RN_aload_n (pc := 8) (k := 0) (by decide +kernel) rfl rfl ?_
    obtain ⟨c19, h⟩ := ck_el h
    refine RN_getR (pc := 9) (idx := 18) (ci := 5) (k := 2) (by decide +kernel) lf_RX6_18 rfl c12 c19 ?_
    obtain ⟨r20, er20, h⟩ := nm_el h
    refine RN_nmR er20 ?_
    refine RN_iload_n (pc := 12) (k := 1) (by decide +kernel) rfl rfl ?_
    obtain ⟨c21, h⟩ := ck_el h
    refine RN_iald (pc := 13) (by decide +kernel) c21 ?_
    refine RN_goto (pc := 14) (off := 9) (tgt := 23) (by decide +kernel) (by decide) ?_
    obtain rfl := some_el h
    exact RN_ireturn (by decide +kernel) rfl
def f_X6_choose (v0 : Nat) (v1 : Int32) (v2 : Int32) (σ : Sg) : Option Sg :=
  ck (okO σ v0 5) <|
  bp (f_X6_choosesByT v0 v1 σ) fun x16 =>
  if x16 = 0 then (
    ck (¬ gR σ v0 3 = 0) <|
    nm (gR σ v0 3) fun r19 =>
    ck (okW σ r19 13 v1) <|
    nm (pI σ r19 v1.toNatClampNeg v2) fun σ21 =>
    some σ21)
  else (
    ck (¬ gR σ v0 2 = 0) <|
    nm (gR σ v0 2) fun r23 =>
    ck (okW σ r23 13 v1) <|
    nm (pI σ r23 v1.toNatClampNeg v2) fun σ25 =>
    some σ25)
set_option maxRecDepth 20000 in
theorem t_X6_choose {G : Gl} {σr : Sg} {v0 : Nat} {v1 : Int32} {v2 : Int32} {σ : Sg} (h : f_X6_choose v0 v1 v2 σ = some σr) : MT G M_X6_choose [.ref v0, .int v1, .int v2] σ none σr := by
  refine MT_of rfl rfl (Nat.le_of_ble_eq_true rfl) ?_
  show RN G M_X6_choose 0 [some (.ref v0), some (.int v1), some (.int v2)] [] σ (.inl none) σr
  unfold f_X6_choose at h
  refine RN_aload_n (pc := 0) (k := 0) (by decide +kernel) rfl rfl ?_
  refine RN_iload_n (pc := 1) (k := 1) (by decide +kernel) rfl rfl ?_
  obtain ⟨c14, h⟩ := ck_el h
  obtain ⟨x16, f15, h⟩ := bp_el h
  refine RN_callV (M := M_X6_choose) (pc := 2) (idx := 35) (as := [.int v1]) (st := []) (t_X6_choosesByT f15) (by decide +kernel) lk_RX6_35 rfl ⟨by decide, fun q hq => by cases hq; rfl⟩ c14 (Nat.le_of_ble_eq_true rfl) ⟨Nat.le_of_ble_eq_true rfl, Nat.le_of_ble_eq_true rfl⟩ rfl ?_
  show RN G M_X6_choose 5 [some (.ref v0), some (.int v1), some (.int v2)] [.int x16] σ _ _
  refine RN_if_eq (pc := 5) (off := 13) (tgt := 18) (by decide +kernel) (by decide) (fun c17 => ?_) (fun c17 => ?_)
  · replace h := it_t c17 h
    refine RN_aload_n (pc := 18) (k := 0) (by decide +kernel) rfl rfl ?_
    obtain ⟨c18, h⟩ := ck_el h
    refine RN_getR (pc := 19) (idx := 21) (ci := 5) (k := 3) (by decide +kernel) lf_RX6_21 rfl c14 c18 ?_
    obtain ⟨r19, er19, h⟩ := nm_el h
    refine RN_nmR er19 ?_
    refine RN_iload_n (pc := 22) (k := 1) (by decide +kernel) rfl rfl ?_
    refine RN_iload_n (pc := 23) (k := 2) (by decide +kernel) rfl rfl ?_
    obtain ⟨c20, h⟩ := ck_el h
    refine RN_iast (pc := 24) (by decide +kernel) c20 ?_
    obtain ⟨σ21, eσ21, h⟩ := nm_el h
    refine RN_nmS eσ21 ?_
    obtain rfl := some_el h
    exact RN_return (by decide +kernel) rfl
  · replace h := it_f c17 h
    refine RN_aload_n (pc := 8) (k := 0) (by decide +kernel) rfl rfl ?_
    obtain ⟨c22, h⟩ := ck_el h
    refine RN_getR (pc := 9) (idx := 18) (ci := 5) (k := 2) (by decide +kernel) lf_RX6_18 rfl c14 c22 ?_
    obtain ⟨r23, er23, h⟩ := nm_el h
    refine RN_nmR er23 ?_
    refine RN_iload_n (pc := 12) (k := 1) (by decide +kernel) rfl rfl ?_
    refine RN_iload_n (pc := 13) (k := 2) (by decide +kernel) rfl rfl ?_
    obtain ⟨c24, h⟩ := ck_el h
    refine RN_iast (pc := 14) (by decide +kernel) c24 ?_
    obtain ⟨σ25, eσ25, h⟩ := nm_el h
    refine RN_nmS eσ25 ?_
    refine RN_goto (pc := 15) (off := 10) (tgt := 25) (by decide +kernel) (by decide) ?_
    obtain rfl := some_el h
    exact RN_return (by decide +kernel) rfl
def b_X7_strays_2 : Nat → Nat → Int32 → Sg → Option Int32
  | 0, _, _, _ => none
  | n + 1, v0, v1, σ =>
  ck (okO σ v0 6) <|
  if (gI σ v0 4) ≤ v1 then (
    some (0 : Int32))
  else (
    ck (¬ gR σ v0 0 = 0) <|
    nm (gR σ v0 0) fun r15 =>
    ck (okA σ r15 14 v1) <|
    ck (¬ gR σ v0 2 = 0) <|
    nm (gR σ v0 2) fun r18 =>
    ck (okA σ r18 13 v1) <|
    nm (((gJ σ r15 v1.toNatClampNeg) * (gJ σ v0 5)) - ((gJ σ v0 6) * ((gI σ r18 v1.toNatClampNeg).toInt64))) fun x20 =>
    if (gJ σ v0 5) ≤ x20 then (
      some (1 : Int32))
    else (
      if (-(gJ σ v0 5)) < x20 then (
        nm (v1 + (1 : Int32)) fun x23 =>
        b_X7_strays_2 n v0 x23 σ)
      else (
        some (1 : Int32))))
set_option maxRecDepth 20000 in
theorem tb_X7_strays_2 {G : Gl} {xr : Int32} (v0 : Nat) (σ : Sg) : ∀ (n : Nat) (v1 : Int32), b_X7_strays_2 n v0 v1 σ = some xr → RN G M_X7_strays 2 [some (.ref v0), some (.int v1)] [] σ (.inl (some (.int xr))) σ := by
  intro n
  induction n with
  | zero =>
    intro v1 h
    exact none_el h
  | succ n ih =>
    intro v1 h
    rw [b_X7_strays_2] at h
    refine RN_iload_n (pc := 2) (k := 1) (by decide +kernel) rfl rfl ?_
    refine RN_aload_n (pc := 3) (k := 0) (by decide +kernel) rfl rfl ?_
    obtain ⟨c12, h⟩ := ck_el h
    refine RN_getI (pc := 4) (idx := 37) (ci := 6) (k := 4) (by decide +kernel) lf_RX7_37 (Or.inl rfl) c12 ?_
    refine RN_icmp_ge (pc := 7) (off := 55) (tgt := 62) (by decide +kernel) (by decide) (fun c13 => ?_) (fun c13 => ?_)
    · replace h := it_t c13 h
      refine RN_iconst (pc := 62) (n := 0) (v := 0) (by decide +kernel) (by decide) ?_
      obtain rfl := some_el h
      exact RN_zreturn (by decide +kernel) rfl (Or.inl rfl)
    · replace h := it_f c13 h
      refine RN_aload_n (pc := 10) (k := 0) (by decide +kernel) rfl rfl ?_
      obtain ⟨c14, h⟩ := ck_el h
      refine RN_getR (pc := 11) (idx := 9) (ci := 6) (k := 0) (by decide +kernel) lf_RX7_9 rfl c12 c14 ?_
      obtain ⟨r15, er15, h⟩ := nm_el h
      refine RN_nmR er15 ?_
      refine RN_iload_n (pc := 14) (k := 1) (by decide +kernel) rfl rfl ?_
      obtain ⟨c16, h⟩ := ck_el h
      refine RN_lald (pc := 15) (by decide +kernel) c16 ?_
      refine RN_aload_n (pc := 16) (k := 0) (by decide +kernel) rfl rfl ?_
      refine RN_getJ (pc := 17) (idx := 41) (ci := 6) (k := 5) (by decide +kernel) lf_RX7_41 rfl c12 ?_
      refine RN_lmul (pc := 20) (by decide +kernel) ?_
      refine RN_aload_n (pc := 21) (k := 0) (by decide +kernel) rfl rfl ?_
      refine RN_getJ (pc := 22) (idx := 29) (ci := 6) (k := 6) (by decide +kernel) lf_RX7_29 rfl c12 ?_
      refine RN_aload_n (pc := 25) (k := 0) (by decide +kernel) rfl rfl ?_
      obtain ⟨c17, h⟩ := ck_el h
      refine RN_getR (pc := 26) (idx := 15) (ci := 6) (k := 2) (by decide +kernel) lf_RX7_15 rfl c12 c17 ?_
      obtain ⟨r18, er18, h⟩ := nm_el h
      refine RN_nmR er18 ?_
      refine RN_iload_n (pc := 29) (k := 1) (by decide +kernel) rfl rfl ?_
      obtain ⟨c19, h⟩ := ck_el h
      refine RN_iald (pc := 30) (by decide +kernel) c19 ?_
      refine RN_i2l (pc := 31) (by decide +kernel) ?_
      refine RN_lmul (pc := 32) (by decide +kernel) ?_
      refine RN_lsub (pc := 33) (by decide +kernel) ?_
      obtain ⟨x20, ex20, h⟩ := nm_el h
      refine RN_nmJ ex20 ?_
      refine RN_lstore_n (pc := 34) (k := 2) (ls2 := [some (.ref v0), some (.int v1), some (.long x20), none]) (by decide +kernel) rfl (by decide) rfl ?_
      refine RN_lload_n (pc := 35) (k := 2) (by decide +kernel) rfl rfl ?_
      refine RN_aload_n (pc := 36) (k := 0) (by decide +kernel) rfl rfl ?_
      refine RN_getJ (pc := 37) (idx := 41) (ci := 6) (k := 5) (by decide +kernel) lf_RX7_41 rfl c12 ?_
      refine RN_lc_ge (pc := 40) (off := 13) (tgt := 54) (by decide +kernel) (by decide +kernel) (by decide) (fun c21 => ?_) (fun c21 => ?_)
      · replace h := it_t c21 h
        refine RN_iconst (pc := 54) (n := 1) (v := 1) (by decide +kernel) (by decide) ?_
        obtain rfl := some_el h
        exact RN_zreturn (by decide +kernel) rfl (Or.inr rfl)
      · replace h := it_f c21 h
        refine RN_lload_n (pc := 44) (k := 2) (by decide +kernel) rfl rfl ?_
        refine RN_aload_n (pc := 45) (k := 0) (by decide +kernel) rfl rfl ?_
        refine RN_getJ (pc := 46) (idx := 41) (ci := 6) (k := 5) (by decide +kernel) lf_RX7_41 rfl c12 ?_
        refine RN_lneg (pc := 49) (by decide +kernel) ?_
        refine RN_lc_gt (pc := 50) (off := 5) (tgt := 56) (by decide +kernel) (by decide +kernel) (by decide) (fun c22 => ?_) (fun c22 => ?_)
        · replace h := it_t c22 h
          obtain ⟨x23, ex23, h⟩ := nm_el h
          refine RN_iinc (pc := 56) (i := 1) (n := 1) (v := x23) (ls2 := [some (.ref v0), some (.int x23), some (.long x20), none]) (by decide +kernel) rfl (by rw [ex23]; rfl) (by decide) rfl ?_
          refine RN_goto (pc := 59) (off := -57) (tgt := 2) (by decide +kernel) (by decide) ?_
          exact RN_weak (l := [some (.ref v0), some (.int x23)]) (And.intro rfl (And.intro rfl trivial)) (ih x23 h)
        · replace h := it_f c22 h
          refine RN_iconst (pc := 54) (n := 1) (v := 1) (by decide +kernel) (by decide) ?_
          obtain rfl := some_el h
          exact RN_zreturn (by decide +kernel) rfl (Or.inr rfl)
def f_X7_strays (n : Nat) (v0 : Nat) (σ : Sg) : Option Int32 :=
  b_X7_strays_2 n v0 (0 : Int32) σ
set_option maxRecDepth 20000 in
theorem t_X7_strays {G : Gl} {xr : Int32} {n : Nat} {v0 : Nat} {σ : Sg} (h : f_X7_strays n v0 σ = some xr) : MT G M_X7_strays [.ref v0] σ (some (.int xr)) σ := by
  refine MT_of rfl rfl (Nat.le_of_ble_eq_true rfl) ?_
  show RN G M_X7_strays 0 [some (.ref v0)] [] σ (.inl (some (.int xr))) σ
  unfold f_X7_strays at h
  refine RN_iconst (pc := 0) (n := 0) (v := 0) (by decide +kernel) (by decide) ?_
  refine RN_istore_n (pc := 1) (k := 1) (ls2 := [some (.ref v0), some (.int (0 : Int32))]) (by decide +kernel) rfl (by decide) rfl ?_
  exact RN_weak (l := [some (.ref v0), some (.int (0 : Int32))]) (And.intro rfl (And.intro rfl trivial)) (tb_X7_strays_2 v0 σ n (0 : Int32) h)
def b_X8_reset_30 : Nat → Nat → Int32 → Sg → Option Sg
  | 0, _, _, _ => none
  | n + 1, v0, v1, σ =>
  if (4 : Int32) ≤ v1 then (
    some σ)
  else (
    ck (okO σ v0 7) <|
    ck (¬ gR σ v0 2 = 0) <|
    nm (gR σ v0 2) fun r38 =>
    ck (okA σ r38 18 v1) <|
    ck (¬ gR σ r38 v1.toNatClampNeg = 0) <|
    nm (gR σ r38 v1.toNatClampNeg) fun r41 =>
    ck (okW σ r41 13 (0 : Int32)) <|
    nm (pI σ r41 (0 : Int32).toNatClampNeg (1 : Int32)) fun σ43 =>
    ck (okO σ43 v0 7) <|
    ck (¬ gR σ43 v0 2 = 0) <|
    nm (gR σ43 v0 2) fun r46 =>
    ck (okA σ43 r46 18 v1) <|
    ck (¬ gR σ43 r46 v1.toNatClampNeg = 0) <|
    nm (gR σ43 r46 v1.toNatClampNeg) fun r49 =>
    ck (okW σ43 r49 13 (1 : Int32)) <|
    nm (pI σ43 r49 (1 : Int32).toNatClampNeg (1 : Int32)) fun σ51 =>
    ck (okO σ51 v0 7) <|
    ck (¬ gR σ51 v0 3 = 0) <|
    nm (gR σ51 v0 3) fun r54 =>
    ck (okW σ51 r54 13 v1) <|
    nm (pI σ51 r54 v1.toNatClampNeg (2 : Int32)) fun σ56 =>
    nm (v1 + (1 : Int32)) fun x57 =>
    b_X8_reset_30 n v0 x57 σ56)
set_option maxRecDepth 20000 in
theorem tb_X8_reset_30 {G : Gl} {σr : Sg} (v0 : Nat) : ∀ (n : Nat) (v1 : Int32) (σ : Sg), b_X8_reset_30 n v0 v1 σ = some σr → RN G M_X8_reset 30 [some (.ref v0), some (.int v1)] [] σ (.inl none) σr := by
  intro n
  induction n with
  | zero =>
    intro v1 σ h
    exact none_el h
  | succ n ih =>
    intro v1 σ h
    rw [b_X8_reset_30] at h
    refine RN_iload_n (pc := 30) (k := 1) (by decide +kernel) rfl rfl ?_
    refine RN_iconst (pc := 31) (n := 4) (v := 4) (by decide +kernel) (by decide) ?_
    refine RN_icmp_ge (pc := 32) (off := 34) (tgt := 66) (by decide +kernel) (by decide) (fun c35 => ?_) (fun c35 => ?_)
    · replace h := it_t c35 h
      obtain rfl := some_el h
      exact RN_return (by decide +kernel) rfl
    · replace h := it_f c35 h
      refine RN_aload_n (pc := 35) (k := 0) (by decide +kernel) rfl rfl ?_
      obtain ⟨c36, h⟩ := ck_el h
      obtain ⟨c37, h⟩ := ck_el h
      refine RN_getR (pc := 36) (idx := 20) (ci := 7) (k := 2) (by decide +kernel) lf_RX8_20 rfl c36 c37 ?_
      obtain ⟨r38, er38, h⟩ := nm_el h
      refine RN_nmR er38 ?_
      refine RN_iload_n (pc := 39) (k := 1) (by decide +kernel) rfl rfl ?_
      obtain ⟨c39, h⟩ := ck_el h
      obtain ⟨c40, h⟩ := ck_el h
      refine RN_aald18 (pc := 40) (by decide +kernel) c39 c40 ?_
      obtain ⟨r41, er41, h⟩ := nm_el h
      refine RN_nmR er41 ?_
      refine RN_iconst (pc := 41) (n := 0) (v := 0) (by decide +kernel) (by decide) ?_
      refine RN_iconst (pc := 42) (n := 1) (v := 1) (by decide +kernel) (by decide) ?_
      obtain ⟨c42, h⟩ := ck_el h
      refine RN_iast (pc := 43) (by decide +kernel) c42 ?_
      obtain ⟨σ43, eσ43, h⟩ := nm_el h
      refine RN_nmS eσ43 ?_
      refine RN_aload_n (pc := 44) (k := 0) (by decide +kernel) rfl rfl ?_
      obtain ⟨c44, h⟩ := ck_el h
      obtain ⟨c45, h⟩ := ck_el h
      refine RN_getR (pc := 45) (idx := 20) (ci := 7) (k := 2) (by decide +kernel) lf_RX8_20 rfl c44 c45 ?_
      obtain ⟨r46, er46, h⟩ := nm_el h
      refine RN_nmR er46 ?_
      refine RN_iload_n (pc := 48) (k := 1) (by decide +kernel) rfl rfl ?_
      obtain ⟨c47, h⟩ := ck_el h
      obtain ⟨c48, h⟩ := ck_el h
      refine RN_aald18 (pc := 49) (by decide +kernel) c47 c48 ?_
      obtain ⟨r49, er49, h⟩ := nm_el h
      refine RN_nmR er49 ?_
      refine RN_iconst (pc := 50) (n := 1) (v := 1) (by decide +kernel) (by decide) ?_
      refine RN_iconst (pc := 51) (n := 1) (v := 1) (by decide +kernel) (by decide) ?_
      obtain ⟨c50, h⟩ := ck_el h
      refine RN_iast (pc := 52) (by decide +kernel) c50 ?_
      obtain ⟨σ51, eσ51, h⟩ := nm_el h
      refine RN_nmS eσ51 ?_
      refine RN_aload_n (pc := 53) (k := 0) (by decide +kernel) rfl rfl ?_
      obtain ⟨c52, h⟩ := ck_el h
      obtain ⟨c53, h⟩ := ck_el h
      refine RN_getR (pc := 54) (idx := 23) (ci := 7) (k := 3) (by decide +kernel) lf_RX8_23 rfl c52 c53 ?_
      obtain ⟨r54, er54, h⟩ := nm_el h
      refine RN_nmR er54 ?_
      refine RN_iload_n (pc := 57) (k := 1) (by decide +kernel) rfl rfl ?_
      refine RN_iconst (pc := 58) (n := 2) (v := 2) (by decide +kernel) (by decide) ?_
      obtain ⟨c55, h⟩ := ck_el h
      refine RN_iast (pc := 59) (by decide +kernel) c55 ?_
      obtain ⟨σ56, eσ56, h⟩ := nm_el h
      refine RN_nmS eσ56 ?_
      obtain ⟨x57, ex57, h⟩ := nm_el h
      refine RN_iinc (pc := 60) (i := 1) (n := 1) (v := x57) (ls2 := [some (.ref v0), some (.int x57)]) (by decide +kernel) rfl (by rw [ex57]; rfl) (by decide) rfl ?_
      refine RN_goto (pc := 63) (off := -33) (tgt := 30) (by decide +kernel) (by decide) ?_
      exact RN_weak (l := [some (.ref v0), some (.int x57)]) (And.intro rfl (And.intro rfl trivial)) (ih x57 σ56 h)
def b_X8_reset_28 (n : Nat) (v0 : Nat) (σ : Sg) : Option Sg :=
  b_X8_reset_30 n v0 (0 : Int32) σ
set_option maxRecDepth 20000 in
theorem tb_X8_reset_28 {G : Gl} {σr : Sg} (n : Nat) (v0 : Nat) (σ : Sg) (h : b_X8_reset_28 n v0 σ = some σr) : RN G M_X8_reset 28 [some (.ref v0)] [] σ (.inl none) σr := by
  unfold b_X8_reset_28 at h
  refine RN_iconst (pc := 28) (n := 0) (v := 0) (by decide +kernel) (by decide) ?_
  refine RN_istore_n (pc := 29) (k := 1) (ls2 := [some (.ref v0), some (.int (0 : Int32))]) (by decide +kernel) rfl (by decide) rfl ?_
  exact RN_weak (l := [some (.ref v0), some (.int (0 : Int32))]) (And.intro rfl (And.intro rfl trivial)) (tb_X8_reset_30 v0 n (0 : Int32) σ h)
def b_X8_reset_2 : Nat → Nat → Int32 → Sg → Option Sg
  | 0, _, _, _ => none
  | n + 1, v0, v1, σ =>
  if (8 : Int32) ≤ v1 then (
    b_X8_reset_28 n v0 σ)
  else (
    ck (okO σ v0 7) <|
    ck (¬ gR σ v0 0 = 0) <|
    nm (gR σ v0 0) fun r60 =>
    ck (okW σ r60 13 v1) <|
    nm (pI σ r60 v1.toNatClampNeg (0 : Int32)) fun σ62 =>
    ck (okO σ62 v0 7) <|
    ck (¬ gR σ62 v0 1 = 0) <|
    nm (gR σ62 v0 1) fun r65 =>
    ck (okW σ62 r65 13 v1) <|
    nm (pI σ62 r65 v1.toNatClampNeg (1 : Int32)) fun σ67 =>
    nm (v1 + (1 : Int32)) fun x68 =>
    b_X8_reset_2 n v0 x68 σ67)
set_option maxRecDepth 20000 in
theorem tb_X8_reset_2 {G : Gl} {σr : Sg} (v0 : Nat) : ∀ (n : Nat) (v1 : Int32) (σ : Sg), b_X8_reset_2 n v0 v1 σ = some σr → RN G M_X8_reset 2 [some (.ref v0), some (.int v1)] [] σ (.inl none) σr := by
  intro n
  induction n with
  | zero =>
    intro v1 σ h
    exact none_el h
  | succ n ih =>
    intro v1 σ h
    rw [b_X8_reset_2] at h
    refine RN_iload_n (pc := 2) (k := 1) (by decide +kernel) rfl rfl ?_
    refine RN_bipush (pc := 3) (n := 8) (v := 8) (by decide +kernel) (by decide) ?_
    refine RN_icmp_ge (pc := 5) (off := 23) (tgt := 28) (by decide +kernel) (by decide) (fun c34 => ?_) (fun c34 => ?_)
    · replace h := it_t c34 h
      exact RN_weak (l := [some (.ref v0)]) (And.intro rfl trivial) (tb_X8_reset_28 n v0 σ h)
    · replace h := it_f c34 h
      refine RN_aload_n (pc := 8) (k := 0) (by decide +kernel) rfl rfl ?_
      obtain ⟨c58, h⟩ := ck_el h
      obtain ⟨c59, h⟩ := ck_el h
      refine RN_getR (pc := 9) (idx := 9) (ci := 7) (k := 0) (by decide +kernel) lf_RX8_9 rfl c58 c59 ?_
      obtain ⟨r60, er60, h⟩ := nm_el h
      refine RN_nmR er60 ?_
      refine RN_iload_n (pc := 12) (k := 1) (by decide +kernel) rfl rfl ?_
      refine RN_iconst (pc := 13) (n := 0) (v := 0) (by decide +kernel) (by decide) ?_
      obtain ⟨c61, h⟩ := ck_el h
      refine RN_iast (pc := 14) (by decide +kernel) c61 ?_
      obtain ⟨σ62, eσ62, h⟩ := nm_el h
      refine RN_nmS eσ62 ?_
      refine RN_aload_n (pc := 15) (k := 0) (by decide +kernel) rfl rfl ?_
      obtain ⟨c63, h⟩ := ck_el h
      obtain ⟨c64, h⟩ := ck_el h
      refine RN_getR (pc := 16) (idx := 15) (ci := 7) (k := 1) (by decide +kernel) lf_RX8_15 rfl c63 c64 ?_
      obtain ⟨r65, er65, h⟩ := nm_el h
      refine RN_nmR er65 ?_
      refine RN_iload_n (pc := 19) (k := 1) (by decide +kernel) rfl rfl ?_
      refine RN_iconst (pc := 20) (n := 1) (v := 1) (by decide +kernel) (by decide) ?_
      obtain ⟨c66, h⟩ := ck_el h
      refine RN_iast (pc := 21) (by decide +kernel) c66 ?_
      obtain ⟨σ67, eσ67, h⟩ := nm_el h
      refine RN_nmS eσ67 ?_
      obtain ⟨x68, ex68, h⟩ := nm_el h
      refine RN_iinc (pc := 22) (i := 1) (n := 1) (v := x68) (ls2 := [some (.ref v0), some (.int x68)]) (by decide +kernel) rfl (by rw [ex68]; rfl) (by decide) rfl ?_
      refine RN_goto (pc := 25) (off := -23) (tgt := 2) (by decide +kernel) (by decide) ?_
      exact RN_weak (l := [some (.ref v0), some (.int x68)]) (And.intro rfl (And.intro rfl trivial)) (ih x68 σ67 h)
def f_X8_reset (n : Nat) (v0 : Nat) (σ : Sg) : Option Sg :=
  b_X8_reset_2 n v0 (0 : Int32) σ
set_option maxRecDepth 20000 in
theorem t_X8_reset {G : Gl} {σr : Sg} {n : Nat} {v0 : Nat} {σ : Sg} (h : f_X8_reset n v0 σ = some σr) : MT G M_X8_reset [.ref v0] σ none σr := by
  refine MT_of rfl rfl (Nat.le_of_ble_eq_true rfl) ?_
  show RN G M_X8_reset 0 [some (.ref v0)] [] σ (.inl none) σr
  unfold f_X8_reset at h
  refine RN_iconst (pc := 0) (n := 0) (v := 0) (by decide +kernel) (by decide) ?_
  refine RN_istore_n (pc := 1) (k := 1) (ls2 := [some (.ref v0), some (.int (0 : Int32))]) (by decide +kernel) rfl (by decide) rfl ?_
  exact RN_weak (l := [some (.ref v0), some (.int (0 : Int32))]) (And.intro rfl (And.intro rfl trivial)) (tb_X8_reset_2 v0 n (0 : Int32) σ h)
def f_X8_init (n : Nat) (v0 : Nat) (σ : Sg) : Option Sg :=
  nm (sN σ) fun r24 =>
  nm (nw σ 13 8) fun σ25 =>
  ck (okO σ25 v0 7) <|
  ck (¬ r24 = 0) <|
  nm (pR σ25 v0 0 r24) fun σ28 =>
  nm (sN σ28) fun r29 =>
  nm (nw σ28 13 8) fun σ30 =>
  ck (okO σ30 v0 7) <|
  ck (¬ r29 = 0) <|
  nm (pR σ30 v0 1 r29) fun σ33 =>
  nm (sN σ33) fun r34 =>
  nm (nwM σ33) fun σ35 =>
  ck (okO σ35 v0 7) <|
  ck (¬ r34 = 0) <|
  nm (pR σ35 v0 2 r34) fun σ38 =>
  nm (sN σ38) fun r39 =>
  nm (nw σ38 13 4) fun σ40 =>
  ck (okO σ40 v0 7) <|
  ck (¬ r39 = 0) <|
  nm (pR σ40 v0 3 r39) fun σ43 =>
  ck (okO σ43 v0 7) <|
  bp (f_X8_reset n v0 σ43) fun σ46 =>
  some σ46
set_option maxRecDepth 20000 in
theorem t_X8_init {G : Gl} {σr : Sg} {n : Nat} {v0 : Nat} {σ : Sg} (h : f_X8_init n v0 σ = some σr) : MT G M_X8_init [.ref v0] σ none σr := by
  refine MT_of rfl rfl (Nat.le_of_ble_eq_true rfl) ?_
  show RN G M_X8_init 0 [some (.ref v0)] [] σ (.inl none) σr
  unfold f_X8_init at h
  refine RN_aload_n (pc := 0) (k := 0) (by decide +kernel) rfl rfl ?_
  refine RN_objInit (pc := 1) (idx := 3) (by decide +kernel) oi_RX8_3 oi_b oi_c (by decide) (by decide) (Nat.le_of_ble_eq_true rfl) ?_
  refine RN_aload_n (pc := 4) (k := 0) (by decide +kernel) rfl rfl ?_
  refine RN_bipush (pc := 5) (n := 8) (v := 8) (by decide +kernel) (by decide) ?_
  refine RN_newa (pc := 7) (atype := .int) (N := 8) (t := 13) (by decide +kernel) ⟨by decide, by decide, rfl⟩ ac_13 (by decide) (by decide) (by decide) ?_
  obtain ⟨r24, er24, h⟩ := nm_el h
  refine RN_nmR er24 ?_
  obtain ⟨σ25, eσ25, h⟩ := nm_el h
  refine RN_nmS eσ25 ?_
  obtain ⟨c26, h⟩ := ck_el h
  obtain ⟨c27, h⟩ := ck_el h
  refine RN_putR (pc := 9) (idx := 9) (ci := 7) (k := 0) (by decide +kernel) lf_RX8_9 rfl (fun q hq => by cases hq; exact Or.inr ⟨rfl, rfl, rfl⟩) c27 c26 ?_
  obtain ⟨σ28, eσ28, h⟩ := nm_el h
  refine RN_nmS eσ28 ?_
  refine RN_aload_n (pc := 12) (k := 0) (by decide +kernel) rfl rfl ?_
  refine RN_bipush (pc := 13) (n := 8) (v := 8) (by decide +kernel) (by decide) ?_
  refine RN_newa (pc := 15) (atype := .int) (N := 8) (t := 13) (by decide +kernel) ⟨by decide, by decide, rfl⟩ ac_13 (by decide) (by decide) (by decide) ?_
  obtain ⟨r29, er29, h⟩ := nm_el h
  refine RN_nmR er29 ?_
  obtain ⟨σ30, eσ30, h⟩ := nm_el h
  refine RN_nmS eσ30 ?_
  obtain ⟨c31, h⟩ := ck_el h
  obtain ⟨c32, h⟩ := ck_el h
  refine RN_putR (pc := 17) (idx := 15) (ci := 7) (k := 1) (by decide +kernel) lf_RX8_15 rfl (fun q hq => by cases hq; exact Or.inr ⟨rfl, rfl, rfl⟩) c32 c31 ?_
  obtain ⟨σ33, eσ33, h⟩ := nm_el h
  refine RN_nmS eσ33 ?_
  refine RN_aload_n (pc := 20) (k := 0) (by decide +kernel) rfl rfl ?_
  refine RN_iconst (pc := 21) (n := 4) (v := 4) (by decide +kernel) (by decide) ?_
  refine RN_bipush (pc := 22) (n := 8) (v := 8) (by decide +kernel) (by decide) ?_
  refine RN_mna (pc := 24) (idx := 18) (by decide +kernel) km_RX8_18 ac_13 ?_
  obtain ⟨r34, er34, h⟩ := nm_el h
  refine RN_nmR er34 ?_
  obtain ⟨σ35, eσ35, h⟩ := nm_el h
  refine RN_nmS eσ35 ?_
  obtain ⟨c36, h⟩ := ck_el h
  obtain ⟨c37, h⟩ := ck_el h
  refine RN_putR (pc := 28) (idx := 20) (ci := 7) (k := 2) (by decide +kernel) lf_RX8_20 rfl (fun q hq => by cases hq; exact Or.inr ⟨rfl, rfl, rfl⟩) c37 c36 ?_
  obtain ⟨σ38, eσ38, h⟩ := nm_el h
  refine RN_nmS eσ38 ?_
  refine RN_aload_n (pc := 31) (k := 0) (by decide +kernel) rfl rfl ?_
  refine RN_iconst (pc := 32) (n := 4) (v := 4) (by decide +kernel) (by decide) ?_
  refine RN_newa (pc := 33) (atype := .int) (N := 4) (t := 13) (by decide +kernel) ⟨by decide, by decide, rfl⟩ ac_13 (by decide) (by decide) (by decide) ?_
  obtain ⟨r39, er39, h⟩ := nm_el h
  refine RN_nmR er39 ?_
  obtain ⟨σ40, eσ40, h⟩ := nm_el h
  refine RN_nmS eσ40 ?_
  obtain ⟨c41, h⟩ := ck_el h
  obtain ⟨c42, h⟩ := ck_el h
  refine RN_putR (pc := 35) (idx := 23) (ci := 7) (k := 3) (by decide +kernel) lf_RX8_23 rfl (fun q hq => by cases hq; exact Or.inr ⟨rfl, rfl, rfl⟩) c42 c41 ?_
  obtain ⟨σ43, eσ43, h⟩ := nm_el h
  refine RN_nmS eσ43 ?_
  refine RN_aload_n (pc := 38) (k := 0) (by decide +kernel) rfl rfl ?_
  obtain ⟨c44, h⟩ := ck_el h
  obtain ⟨σ46, f45, h⟩ := bp_el h
  refine RN_callV (M := M_X8_init) (pc := 39) (idx := 26) (as := []) (st := []) (t_X8_reset f45) (by decide +kernel) lk_RX8_26 rfl ⟨by decide, fun q hq => by cases hq; rfl⟩ c44 (Nat.le_of_ble_eq_true rfl) ⟨Nat.le_of_ble_eq_true rfl, Nat.le_of_ble_eq_true rfl⟩ rfl ?_
  show RN G M_X8_init 42 [some (.ref v0)] [] σ46 _ _
  obtain rfl := some_el h
  exact RN_return (by decide +kernel) rfl
def f_X9_init (v0 : Nat) (σ : Sg) : Option Sg :=
  nm (sN σ) fun r23 =>
  nm (nw σ 14 64) fun σ24 =>
  ck (okO σ24 v0 8) <|
  ck (¬ r23 = 0) <|
  nm (pR σ24 v0 1 r23) fun σ27 =>
  nm (sN σ27) fun r28 =>
  nm (nw σ27 3 2) fun σ29 =>
  bp (f_X4_init r28 σ29) fun σ31 =>
  ck (okO σ31 v0 8) <|
  ck (¬ r28 = 0) <|
  nm (pR σ31 v0 2 r28) fun σ34 =>
  nm (sN σ34) fun r35 =>
  nm (nw σ34 14 4) fun σ36 =>
  ck (okO σ36 v0 8) <|
  ck (¬ r35 = 0) <|
  nm (pR σ36 v0 3 r35) fun σ39 =>
  nm (sN σ39) fun r40 =>
  nm (nw σ39 14 4) fun σ41 =>
  ck (okO σ41 v0 8) <|
  ck (¬ r40 = 0) <|
  nm (pR σ41 v0 4 r40) fun σ44 =>
  some σ44
set_option maxRecDepth 20000 in
theorem t_X9_init {G : Gl} {σr : Sg} {v0 : Nat} {σ : Sg} (h : f_X9_init v0 σ = some σr) : MT G M_X9_init [.ref v0] σ none σr := by
  refine MT_of rfl rfl (Nat.le_of_ble_eq_true rfl) ?_
  show RN G M_X9_init 0 [some (.ref v0)] [] σ (.inl none) σr
  unfold f_X9_init at h
  refine RN_aload_n (pc := 0) (k := 0) (by decide +kernel) rfl rfl ?_
  refine RN_objInit (pc := 1) (idx := 3) (by decide +kernel) oi_RX9_3 oi_b oi_c (by decide) (by decide) (Nat.le_of_ble_eq_true rfl) ?_
  refine RN_aload_n (pc := 4) (k := 0) (by decide +kernel) rfl rfl ?_
  refine RN_bipush (pc := 5) (n := 64) (v := 64) (by decide +kernel) (by decide) ?_
  refine RN_newa (pc := 7) (atype := .long) (N := 64) (t := 14) (by decide +kernel) ⟨by decide, by decide, rfl⟩ ac_14 (by decide) (by decide) (by decide) ?_
  obtain ⟨r23, er23, h⟩ := nm_el h
  refine RN_nmR er23 ?_
  obtain ⟨σ24, eσ24, h⟩ := nm_el h
  refine RN_nmS eσ24 ?_
  obtain ⟨c25, h⟩ := ck_el h
  obtain ⟨c26, h⟩ := ck_el h
  refine RN_putR (pc := 9) (idx := 9) (ci := 8) (k := 1) (by decide +kernel) lf_RX9_9 rfl (fun q hq => by cases hq; exact Or.inr ⟨rfl, rfl, rfl⟩) c26 c25 ?_
  obtain ⟨σ27, eσ27, h⟩ := nm_el h
  refine RN_nmS eσ27 ?_
  refine RN_aload_n (pc := 12) (k := 0) (by decide +kernel) rfl rfl ?_
  refine RN_new (pc := 13) (idx := 15) (ci := 3) (N := 2) (by decide +kernel) ln_RX9_15 ?_
  obtain ⟨r28, er28, h⟩ := nm_el h
  refine RN_nmR er28 ?_
  obtain ⟨σ29, eσ29, h⟩ := nm_el h
  refine RN_nmS eσ29 ?_
  refine RN_dup (pc := 16) (by decide +kernel) rfl ?_
  obtain ⟨σ31, f30, h⟩ := bp_el h
  refine RN_callN (M := M_X9_init) (pc := 17) (idx := 17) (as := []) (st := [.ref r28, .ref v0]) (t_X4_init f30) (by decide +kernel) lk_RX9_17 rfl (Nat.le_of_ble_eq_true rfl) ⟨Nat.le_of_ble_eq_true rfl, Nat.le_of_ble_eq_true rfl⟩ rfl ?_
  show RN G M_X9_init 20 [some (.ref v0)] [.ref r28, .ref v0] σ31 _ _
  obtain ⟨c32, h⟩ := ck_el h
  obtain ⟨c33, h⟩ := ck_el h
  refine RN_putR (pc := 20) (idx := 18) (ci := 8) (k := 2) (by decide +kernel) lf_RX9_18 rfl (fun q hq => by cases hq; exact Or.inr ⟨rfl, rfl, rfl⟩) c33 c32 ?_
  obtain ⟨σ34, eσ34, h⟩ := nm_el h
  refine RN_nmS eσ34 ?_
  refine RN_aload_n (pc := 23) (k := 0) (by decide +kernel) rfl rfl ?_
  refine RN_iconst (pc := 24) (n := 4) (v := 4) (by decide +kernel) (by decide) ?_
  refine RN_newa (pc := 25) (atype := .long) (N := 4) (t := 14) (by decide +kernel) ⟨by decide, by decide, rfl⟩ ac_14 (by decide) (by decide) (by decide) ?_
  obtain ⟨r35, er35, h⟩ := nm_el h
  refine RN_nmR er35 ?_
  obtain ⟨σ36, eσ36, h⟩ := nm_el h
  refine RN_nmS eσ36 ?_
  obtain ⟨c37, h⟩ := ck_el h
  obtain ⟨c38, h⟩ := ck_el h
  refine RN_putR (pc := 27) (idx := 22) (ci := 8) (k := 3) (by decide +kernel) lf_RX9_22 rfl (fun q hq => by cases hq; exact Or.inr ⟨rfl, rfl, rfl⟩) c38 c37 ?_
  obtain ⟨σ39, eσ39, h⟩ := nm_el h
  refine RN_nmS eσ39 ?_
  refine RN_aload_n (pc := 30) (k := 0) (by decide +kernel) rfl rfl ?_
  refine RN_iconst (pc := 31) (n := 4) (v := 4) (by decide +kernel) (by decide) ?_
  refine RN_newa (pc := 32) (atype := .long) (N := 4) (t := 14) (by decide +kernel) ⟨by decide, by decide, rfl⟩ ac_14 (by decide) (by decide) (by decide) ?_
  obtain ⟨r40, er40, h⟩ := nm_el h
  refine RN_nmR er40 ?_
  obtain ⟨σ41, eσ41, h⟩ := nm_el h
  refine RN_nmS eσ41 ?_
  obtain ⟨c42, h⟩ := ck_el h
  obtain ⟨c43, h⟩ := ck_el h
  refine RN_putR (pc := 34) (idx := 25) (ci := 8) (k := 4) (by decide +kernel) lf_RX9_25 rfl (fun q hq => by cases hq; exact Or.inr ⟨rfl, rfl, rfl⟩) c43 c42 ?_
  obtain ⟨σ44, eσ44, h⟩ := nm_el h
  refine RN_nmS eσ44 ?_
  obtain rfl := some_el h
  exact RN_return (by decide +kernel) rfl
def b_X9_holdRow_12 : Nat → Nat → Int32 → Sg → Option Sg
  | 0, _, _, _ => none
  | n + 1, v0, v3, σ =>
  ck (okO σ v0 8) <|
  if (gI σ v0 6) ≤ v3 then (
    some σ)
  else (
    ck (¬ gR σ v0 1 = 0) <|
    nm (gR σ v0 1) fun r19 =>
    ck (okW σ r19 14 v3) <|
    nm (pJ σ r19 v3.toNatClampNeg (0 : Int64)) fun σ21 =>
    nm (v3 + (1 : Int32)) fun x22 =>
    b_X9_holdRow_12 n v0 x22 σ21)
set_option maxRecDepth 20000 in
theorem tb_X9_holdRow_12 {G : Gl} {σr : Sg} (v0 : Nat) : ∀ (n : Nat) (v3 : Int32) (σ : Sg), b_X9_holdRow_12 n v0 v3 σ = some σr → RN G M_X9_holdRow 12 [some (.ref v0), none, none, some (.int v3)] [] σ (.inl none) σr := by
  intro n
  induction n with
  | zero =>
    intro v3 σ h
    exact none_el h
  | succ n ih =>
    intro v3 σ h
    rw [b_X9_holdRow_12] at h
    refine RN_iload_n (pc := 12) (k := 3) (by decide +kernel) rfl rfl ?_
    refine RN_aload_n (pc := 13) (k := 0) (by decide +kernel) rfl rfl ?_
    obtain ⟨c16, h⟩ := ck_el h
    refine RN_getI (pc := 14) (idx := 32) (ci := 8) (k := 6) (by decide +kernel) lf_RX9_32 (Or.inl rfl) c16 ?_
    refine RN_icmp_ge (pc := 17) (off := 16) (tgt := 33) (by decide +kernel) (by decide) (fun c17 => ?_) (fun c17 => ?_)
    · replace h := it_t c17 h
      obtain rfl := some_el h
      exact RN_return (by decide +kernel) rfl
    · replace h := it_f c17 h
      refine RN_aload_n (pc := 20) (k := 0) (by decide +kernel) rfl rfl ?_
      obtain ⟨c18, h⟩ := ck_el h
      refine RN_getR (pc := 21) (idx := 9) (ci := 8) (k := 1) (by decide +kernel) lf_RX9_9 rfl c16 c18 ?_
      obtain ⟨r19, er19, h⟩ := nm_el h
      refine RN_nmR er19 ?_
      refine RN_iload_n (pc := 24) (k := 3) (by decide +kernel) rfl rfl ?_
      refine RN_lconst (pc := 25) (n := 0) (v := 0) (by decide +kernel) (by decide) ?_
      obtain ⟨c20, h⟩ := ck_el h
      refine RN_last (pc := 26) (by decide +kernel) c20 ?_
      obtain ⟨σ21, eσ21, h⟩ := nm_el h
      refine RN_nmS eσ21 ?_
      obtain ⟨x22, ex22, h⟩ := nm_el h
      refine RN_iinc (pc := 27) (i := 3) (n := 1) (v := x22) (ls2 := [some (.ref v0), none, none, some (.int x22)]) (by decide +kernel) rfl (by rw [ex22]; rfl) (by decide) rfl ?_
      refine RN_goto (pc := 30) (off := -18) (tgt := 12) (by decide +kernel) (by decide) ?_
      exact RN_weak (l := [some (.ref v0), none, none, some (.int x22)]) (And.intro rfl (And.intro rfl trivial)) (ih x22 σ21 h)
def f_X9_holdRow (n : Nat) (v0 : Nat) (v1 : Int32) (v2 : Int32) (σ : Sg) : Option Sg :=
  ck (okO σ v0 8) <|
  nm (pI σ v0 0 v1) fun σ13 =>
  ck (okO σ13 v0 8) <|
  nm (pI σ13 v0 6 v2) fun σ15 =>
  b_X9_holdRow_12 n v0 (0 : Int32) σ15
set_option maxRecDepth 20000 in
theorem t_X9_holdRow {G : Gl} {σr : Sg} {n : Nat} {v0 : Nat} {v1 : Int32} {v2 : Int32} {σ : Sg} (h : f_X9_holdRow n v0 v1 v2 σ = some σr) : MT G M_X9_holdRow [.ref v0, .int v1, .int v2] σ none σr := by
  refine MT_of rfl rfl (Nat.le_of_ble_eq_true rfl) ?_
  show RN G M_X9_holdRow 0 [some (.ref v0), some (.int v1), some (.int v2)] [] σ (.inl none) σr
  unfold f_X9_holdRow at h
  refine RN_aload_n (pc := 0) (k := 0) (by decide +kernel) rfl rfl ?_
  refine RN_iload_n (pc := 1) (k := 1) (by decide +kernel) rfl rfl ?_
  obtain ⟨c12, h⟩ := ck_el h
  refine RN_putI (pc := 2) (idx := 28) (ci := 8) (k := 0) (by decide +kernel) lf_RX9_28 rfl (fun q hq => by cases hq; exact Or.inl rfl) c12 ?_
  obtain ⟨σ13, eσ13, h⟩ := nm_el h
  refine RN_nmS eσ13 ?_
  refine RN_aload_n (pc := 5) (k := 0) (by decide +kernel) rfl rfl ?_
  refine RN_iload_n (pc := 6) (k := 2) (by decide +kernel) rfl rfl ?_
  obtain ⟨c14, h⟩ := ck_el h
  refine RN_putI (pc := 7) (idx := 32) (ci := 8) (k := 6) (by decide +kernel) lf_RX9_32 rfl (fun q hq => by cases hq; exact Or.inl rfl) c14 ?_
  obtain ⟨σ15, eσ15, h⟩ := nm_el h
  refine RN_nmS eσ15 ?_
  refine RN_iconst (pc := 10) (n := 0) (v := 0) (by decide +kernel) (by decide) ?_
  refine RN_istore_n (pc := 11) (k := 3) (ls2 := [some (.ref v0), some (.int v1), some (.int v2), some (.int (0 : Int32))]) (by decide +kernel) rfl (by decide) rfl ?_
  exact RN_weak (l := [some (.ref v0), none, none, some (.int (0 : Int32))]) (And.intro rfl (And.intro rfl trivial)) (tb_X9_holdRow_12 v0 n (0 : Int32) σ15 h)
def b_X9_isRow_19 (σ : Sg) : Option Int32 :=
  some (0 : Int32)
set_option maxRecDepth 20000 in
theorem tb_X9_isRow_19 {G : Gl} {xr : Int32} (σ : Sg) (h : b_X9_isRow_19 σ = some xr) : RN G M_X9_isRow 19 [] [] σ (.inl (some (.int xr))) σ := by
  unfold b_X9_isRow_19 at h
  refine RN_iconst (pc := 19) (n := 0) (v := 0) (by decide +kernel) (by decide) ?_
  obtain rfl := some_el h
  exact RN_zreturn (by decide +kernel) rfl (Or.inl rfl)
def f_X9_isRow (v0 : Nat) (σ : Sg) : Option Int32 :=
  ck (okO σ v0 8) <|
  if (gI σ v0 0) = 0 then (
    b_X9_isRow_19 σ)
  else (
    if (gI σ v0 0) = (5 : Int32) then (
      b_X9_isRow_19 σ)
    else (
      some (1 : Int32)))
set_option maxRecDepth 20000 in
theorem t_X9_isRow {G : Gl} {xr : Int32} {v0 : Nat} {σ : Sg} (h : f_X9_isRow v0 σ = some xr) : MT G M_X9_isRow [.ref v0] σ (some (.int xr)) σ := by
  refine MT_of rfl rfl (Nat.le_of_ble_eq_true rfl) ?_
  show RN G M_X9_isRow 0 [some (.ref v0)] [] σ (.inl (some (.int xr))) σ
  unfold f_X9_isRow at h
  refine RN_aload_n (pc := 0) (k := 0) (by decide +kernel) rfl rfl ?_
  obtain ⟨c3, h⟩ := ck_el h
  refine RN_getI (pc := 1) (idx := 28) (ci := 8) (k := 0) (by decide +kernel) lf_RX9_28 (Or.inl rfl) c3 ?_
  refine RN_if_eq (pc := 4) (off := 15) (tgt := 19) (by decide +kernel) (by decide) (fun c4 => ?_) (fun c4 => ?_)
  · replace h := it_t c4 h
    exact RN_weak (l := []) trivial (tb_X9_isRow_19  σ h)
  · replace h := it_f c4 h
    refine RN_aload_n (pc := 7) (k := 0) (by decide +kernel) rfl rfl ?_
    refine RN_getI (pc := 8) (idx := 28) (ci := 8) (k := 0) (by decide +kernel) lf_RX9_28 (Or.inl rfl) c3 ?_
    refine RN_iconst (pc := 11) (n := 5) (v := 5) (by decide +kernel) (by decide) ?_
    refine RN_icmp_eq (pc := 12) (off := 7) (tgt := 19) (by decide +kernel) (by decide) (fun c5 => ?_) (fun c5 => ?_)
    · replace h := it_t c5 h
      exact RN_weak (l := []) trivial (tb_X9_isRow_19  σ h)
    · replace h := it_f c5 h
      refine RN_iconst (pc := 15) (n := 1) (v := 1) (by decide +kernel) (by decide) ?_
      refine RN_goto (pc := 16) (off := 4) (tgt := 20) (by decide +kernel) (by decide) ?_
      obtain rfl := some_el h
      exact RN_zreturn (by decide +kernel) rfl (Or.inr rfl)
def b_X9_hasPlaces_30 (σ : Sg) : Option Int32 :=
  some (0 : Int32)
set_option maxRecDepth 20000 in
theorem tb_X9_hasPlaces_30 {G : Gl} {xr : Int32} (σ : Sg) (h : b_X9_hasPlaces_30 σ = some xr) : RN G M_X9_hasPlaces 30 [] [] σ (.inl (some (.int xr))) σ := by
  unfold b_X9_hasPlaces_30 at h
  refine RN_iconst (pc := 30) (n := 0) (v := 0) (by decide +kernel) (by decide) ?_
  obtain rfl := some_el h
  exact RN_zreturn (by decide +kernel) rfl (Or.inl rfl)
def f_X9_hasPlaces (v0 : Nat) (v1 : Int32) (v2 : Int32) (σ : Sg) : Option Int32 :=
  if v1 < 0 then (
    b_X9_hasPlaces_30 σ)
  else (
    if v2 < 0 then (
      b_X9_hasPlaces_30 σ)
    else (
      ck (okO σ v0 8) <|
      if (gI σ v0 6) < v2 then (
        b_X9_hasPlaces_30 σ)
      else (
        if ((gI σ v0 6) - v2) < v1 then (
          b_X9_hasPlaces_30 σ)
        else (
          some (1 : Int32)))))
set_option maxRecDepth 20000 in
theorem t_X9_hasPlaces {G : Gl} {xr : Int32} {v0 : Nat} {v1 : Int32} {v2 : Int32} {σ : Sg} (h : f_X9_hasPlaces v0 v1 v2 σ = some xr) : MT G M_X9_hasPlaces [.ref v0, .int v1, .int v2] σ (some (.int xr)) σ := by
  refine MT_of rfl rfl (Nat.le_of_ble_eq_true rfl) ?_
  show RN G M_X9_hasPlaces 0 [some (.ref v0), some (.int v1), some (.int v2)] [] σ (.inl (some (.int xr))) σ
  unfold f_X9_hasPlaces at h
  refine RN_iload_n (pc := 0) (k := 1) (by decide +kernel) rfl rfl ?_
  refine RN_if_lt (pc := 1) (off := 29) (tgt := 30) (by decide +kernel) (by decide) (fun c3 => ?_) (fun c3 => ?_)
  · replace h := it_t c3 h
    exact RN_weak (l := []) trivial (tb_X9_hasPlaces_30  σ h)
  · replace h := it_f c3 h
    refine RN_iload_n (pc := 4) (k := 2) (by decide +kernel) rfl rfl ?_
    refine RN_if_lt (pc := 5) (off := 25) (tgt := 30) (by decide +kernel) (by decide) (fun c4 => ?_) (fun c4 => ?_)
    · replace h := it_t c4 h
      exact RN_weak (l := []) trivial (tb_X9_hasPlaces_30  σ h)
    · replace h := it_f c4 h
      refine RN_iload_n (pc := 8) (k := 2) (by decide +kernel) rfl rfl ?_
      refine RN_aload_n (pc := 9) (k := 0) (by decide +kernel) rfl rfl ?_
      obtain ⟨c5, h⟩ := ck_el h
      refine RN_getI (pc := 10) (idx := 32) (ci := 8) (k := 6) (by decide +kernel) lf_RX9_32 (Or.inl rfl) c5 ?_
      refine RN_icmp_gt (pc := 13) (off := 17) (tgt := 30) (by decide +kernel) (by decide) (fun c6 => ?_) (fun c6 => ?_)
      · replace h := it_t c6 h
        exact RN_weak (l := []) trivial (tb_X9_hasPlaces_30  σ h)
      · replace h := it_f c6 h
        refine RN_iload_n (pc := 16) (k := 1) (by decide +kernel) rfl rfl ?_
        refine RN_aload_n (pc := 17) (k := 0) (by decide +kernel) rfl rfl ?_
        refine RN_getI (pc := 18) (idx := 32) (ci := 8) (k := 6) (by decide +kernel) lf_RX9_32 (Or.inl rfl) c5 ?_
        refine RN_iload_n (pc := 21) (k := 2) (by decide +kernel) rfl rfl ?_
        refine RN_isub (pc := 22) (by decide +kernel) ?_
        refine RN_icmp_gt (pc := 23) (off := 7) (tgt := 30) (by decide +kernel) (by decide) (fun c7 => ?_) (fun c7 => ?_)
        · replace h := it_t c7 h
          exact RN_weak (l := []) trivial (tb_X9_hasPlaces_30  σ h)
        · replace h := it_f c7 h
          refine RN_iconst (pc := 26) (n := 1) (v := 1) (by decide +kernel) (by decide) ?_
          refine RN_goto (pc := 27) (off := 4) (tgt := 31) (by decide +kernel) (by decide) ?_
          obtain rfl := some_el h
          exact RN_zreturn (by decide +kernel) rfl (Or.inr rfl)
def f_X9_narrowed (v0 : Nat) (v1 : Int64) (σ : Sg) : Option Int64 :=
  ck (okO σ v0 8) <|
  if (gI σ v0 0) = 1 then (
    some (((v1.toInt32).toInt8.toInt32).toInt64))
  else (
  if (gI σ v0 0) = 2 then (
    some (((v1.toInt32).toInt16.toInt32).toInt64))
  else (
  if (gI σ v0 0) = 3 then (
    some ((v1.toInt32).toInt64))
  else (
    some v1)))
set_option maxRecDepth 20000 in
theorem t_X9_narrowed {G : Gl} {xr : Int64} {v0 : Nat} {v1 : Int64} {σ : Sg} (h : f_X9_narrowed v0 v1 σ = some xr) : MT G M_X9_narrowed [.ref v0, .long v1] σ (some (.long xr)) σ := by
  refine MT_of rfl rfl (Nat.le_of_ble_eq_true rfl) ?_
  show RN G M_X9_narrowed 0 [some (.ref v0), some (.long v1), none] [] σ (.inl (some (.long xr))) σ
  unfold f_X9_narrowed at h
  refine RN_aload_n (pc := 0) (k := 0) (by decide +kernel) rfl rfl ?_
  obtain ⟨c2, h⟩ := ck_el h
  refine RN_getI (pc := 1) (idx := 28) (ci := 8) (k := 0) (by decide +kernel) lf_RX9_28 (Or.inl rfl) c2 ?_
  by_cases c3 : (gI σ v0 0) = 1
  · replace h := it_t c3 h
    refine RN_tsw (pc := 4) (dflt := 42) (lo := 1) (hi := 3) (offs := #[28, 33, 38]) (len := 28) (v := 1) (off := 28) (tgt := 32) c3 (by decide +kernel) (by decide) (by decide) (by decide +kernel) (by decide) ?_
    refine RN_lload_n (pc := 32) (k := 1) (by decide +kernel) rfl rfl ?_
    refine RN_l2i (pc := 33) (by decide +kernel) ?_
    refine RN_i2b (pc := 34) (by decide +kernel) ?_
    refine RN_i2l (pc := 35) (by decide +kernel) ?_
    obtain rfl := some_el h
    exact RN_lreturn (by decide +kernel) rfl
  · replace h := it_f c3 h
    by_cases c4 : (gI σ v0 0) = 2
    · replace h := it_t c4 h
      refine RN_tsw (pc := 4) (dflt := 42) (lo := 1) (hi := 3) (offs := #[28, 33, 38]) (len := 28) (v := 2) (off := 33) (tgt := 37) c4 (by decide +kernel) (by decide) (by decide) (by decide +kernel) (by decide) ?_
      refine RN_lload_n (pc := 37) (k := 1) (by decide +kernel) rfl rfl ?_
      refine RN_l2i (pc := 38) (by decide +kernel) ?_
      refine RN_i2s (pc := 39) (by decide +kernel) ?_
      refine RN_i2l (pc := 40) (by decide +kernel) ?_
      obtain rfl := some_el h
      exact RN_lreturn (by decide +kernel) rfl
    · replace h := it_f c4 h
      by_cases c5 : (gI σ v0 0) = 3
      · replace h := it_t c5 h
        refine RN_tsw (pc := 4) (dflt := 42) (lo := 1) (hi := 3) (offs := #[28, 33, 38]) (len := 28) (v := 3) (off := 38) (tgt := 42) c5 (by decide +kernel) (by decide) (by decide) (by decide +kernel) (by decide) ?_
        refine RN_lload_n (pc := 42) (k := 1) (by decide +kernel) rfl rfl ?_
        refine RN_l2i (pc := 43) (by decide +kernel) ?_
        refine RN_i2l (pc := 44) (by decide +kernel) ?_
        obtain rfl := some_el h
        exact RN_lreturn (by decide +kernel) rfl
      · replace h := it_f c5 h
        refine RN_tableOut (pc := 4) (dflt := 42) (lo := 1) (hi := 3) (offs := #[28, 33, 38]) (len := 28) (tgt := 46) (by decide +kernel) (tsw_s (hi := 2) (hi' := 3) (tsw_s (hi := 1) (hi' := 2) (tsw_s (hi := 0) (hi' := 1) (tsw_0 (1)) (by decide) (by decide) c3) (by decide) (by decide) c4) (by decide) (by decide) c5) (by decide) ?_
        refine RN_lload_n (pc := 46) (k := 1) (by decide +kernel) rfl rfl ?_
        obtain rfl := some_el h
        exact RN_lreturn (by decide +kernel) rfl
def f_X10_init (n : Nat) (v0 : Nat) (σ : Sg) : Option Sg :=
  nm (sN σ) fun r27 =>
  nm (nw σ 4 11) fun σ28 =>
  bp (f_X5_init n r27 σ28) fun σ30 =>
  ck (okO σ30 v0 9) <|
  ck (¬ r27 = 0) <|
  nm (pR σ30 v0 0 r27) fun σ33 =>
  nm (sN σ33) fun r34 =>
  nm (nw σ33 4 11) fun σ35 =>
  bp (f_X5_init n r34 σ35) fun σ37 =>
  ck (okO σ37 v0 9) <|
  ck (¬ r34 = 0) <|
  nm (pR σ37 v0 1 r34) fun σ40 =>
  nm (sN σ40) fun r41 =>
  nm (nw σ40 2 4) fun σ42 =>
  bp (f_X2_init r41 σ42) fun σ44 =>
  ck (okO σ44 v0 9) <|
  ck (¬ r41 = 0) <|
  nm (pR σ44 v0 2 r41) fun σ47 =>
  nm (sN σ47) fun r48 =>
  nm (nw σ47 13 6) fun σ49 =>
  ck (okO σ49 v0 9) <|
  ck (¬ r48 = 0) <|
  nm (pR σ49 v0 3 r48) fun σ52 =>
  some σ52
set_option maxRecDepth 20000 in
theorem t_X10_init {G : Gl} {σr : Sg} {n : Nat} {v0 : Nat} {σ : Sg} (h : f_X10_init n v0 σ = some σr) : MT G M_X10_init [.ref v0] σ none σr := by
  refine MT_of rfl rfl (Nat.le_of_ble_eq_true rfl) ?_
  show RN G M_X10_init 0 [some (.ref v0)] [] σ (.inl none) σr
  unfold f_X10_init at h
  refine RN_aload_n (pc := 0) (k := 0) (by decide +kernel) rfl rfl ?_
  refine RN_objInit (pc := 1) (idx := 3) (by decide +kernel) oi_RX10_3 oi_b oi_c (by decide) (by decide) (Nat.le_of_ble_eq_true rfl) ?_
  refine RN_aload_n (pc := 4) (k := 0) (by decide +kernel) rfl rfl ?_
  refine RN_new (pc := 5) (idx := 9) (ci := 4) (N := 11) (by decide +kernel) ln_RX10_9 ?_
  obtain ⟨r27, er27, h⟩ := nm_el h
  refine RN_nmR er27 ?_
  obtain ⟨σ28, eσ28, h⟩ := nm_el h
  refine RN_nmS eσ28 ?_
  refine RN_dup (pc := 8) (by decide +kernel) rfl ?_
  obtain ⟨σ30, f29, h⟩ := bp_el h
  refine RN_callI (M := M_X10_init) (pc := 9) (idx := 11) (as := []) (st := [.ref r27, .ref v0]) (t_X5_init f29) (by decide +kernel) lk_RX10_11 rfl (Nat.le_of_ble_eq_true rfl) ⟨Nat.le_of_ble_eq_true rfl, Nat.le_of_ble_eq_true rfl⟩ rfl ?_
  show RN G M_X10_init 12 [some (.ref v0)] [.ref r27, .ref v0] σ30 _ _
  obtain ⟨c31, h⟩ := ck_el h
  obtain ⟨c32, h⟩ := ck_el h
  refine RN_putR (pc := 12) (idx := 12) (ci := 9) (k := 0) (by decide +kernel) lf_RX10_12 rfl (fun q hq => by cases hq; exact Or.inr ⟨rfl, rfl, rfl⟩) c32 c31 ?_
  obtain ⟨σ33, eσ33, h⟩ := nm_el h
  refine RN_nmS eσ33 ?_
  refine RN_aload_n (pc := 15) (k := 0) (by decide +kernel) rfl rfl ?_
  refine RN_new (pc := 16) (idx := 9) (ci := 4) (N := 11) (by decide +kernel) ln_RX10_9 ?_
  obtain ⟨r34, er34, h⟩ := nm_el h
  refine RN_nmR er34 ?_
  obtain ⟨σ35, eσ35, h⟩ := nm_el h
  refine RN_nmS eσ35 ?_
  refine RN_dup (pc := 19) (by decide +kernel) rfl ?_
  obtain ⟨σ37, f36, h⟩ := bp_el h
  refine RN_callI (M := M_X10_init) (pc := 20) (idx := 11) (as := []) (st := [.ref r34, .ref v0]) (t_X5_init f36) (by decide +kernel) lk_RX10_11 rfl (Nat.le_of_ble_eq_true rfl) ⟨Nat.le_of_ble_eq_true rfl, Nat.le_of_ble_eq_true rfl⟩ rfl ?_
  show RN G M_X10_init 23 [some (.ref v0)] [.ref r34, .ref v0] σ37 _ _
  obtain ⟨c38, h⟩ := ck_el h
  obtain ⟨c39, h⟩ := ck_el h
  refine RN_putR (pc := 23) (idx := 18) (ci := 9) (k := 1) (by decide +kernel) lf_RX10_18 rfl (fun q hq => by cases hq; exact Or.inr ⟨rfl, rfl, rfl⟩) c39 c38 ?_
  obtain ⟨σ40, eσ40, h⟩ := nm_el h
  refine RN_nmS eσ40 ?_
  refine RN_aload_n (pc := 26) (k := 0) (by decide +kernel) rfl rfl ?_
  refine RN_new (pc := 27) (idx := 21) (ci := 2) (N := 4) (by decide +kernel) ln_RX10_21 ?_
  obtain ⟨r41, er41, h⟩ := nm_el h
  refine RN_nmR er41 ?_
  obtain ⟨σ42, eσ42, h⟩ := nm_el h
  refine RN_nmS eσ42 ?_
  refine RN_dup (pc := 30) (by decide +kernel) rfl ?_
  obtain ⟨σ44, f43, h⟩ := bp_el h
  refine RN_callN (M := M_X10_init) (pc := 31) (idx := 23) (as := []) (st := [.ref r41, .ref v0]) (t_X2_init f43) (by decide +kernel) lk_RX10_23 rfl (Nat.le_of_ble_eq_true rfl) ⟨Nat.le_of_ble_eq_true rfl, Nat.le_of_ble_eq_true rfl⟩ rfl ?_
  show RN G M_X10_init 34 [some (.ref v0)] [.ref r41, .ref v0] σ44 _ _
  obtain ⟨c45, h⟩ := ck_el h
  obtain ⟨c46, h⟩ := ck_el h
  refine RN_putR (pc := 34) (idx := 24) (ci := 9) (k := 2) (by decide +kernel) lf_RX10_24 rfl (fun q hq => by cases hq; exact Or.inr ⟨rfl, rfl, rfl⟩) c46 c45 ?_
  obtain ⟨σ47, eσ47, h⟩ := nm_el h
  refine RN_nmS eσ47 ?_
  refine RN_aload_n (pc := 37) (k := 0) (by decide +kernel) rfl rfl ?_
  refine RN_bipush (pc := 38) (n := 6) (v := 6) (by decide +kernel) (by decide) ?_
  refine RN_newa (pc := 40) (atype := .int) (N := 6) (t := 13) (by decide +kernel) ⟨by decide, by decide, rfl⟩ ac_13 (by decide) (by decide) (by decide) ?_
  obtain ⟨r48, er48, h⟩ := nm_el h
  refine RN_nmR er48 ?_
  obtain ⟨σ49, eσ49, h⟩ := nm_el h
  refine RN_nmS eσ49 ?_
  obtain ⟨c50, h⟩ := ck_el h
  obtain ⟨c51, h⟩ := ck_el h
  refine RN_putR (pc := 42) (idx := 28) (ci := 9) (k := 3) (by decide +kernel) lf_RX10_28 rfl (fun q hq => by cases hq; exact Or.inr ⟨rfl, rfl, rfl⟩) c51 c50 ?_
  obtain ⟨σ52, eσ52, h⟩ := nm_el h
  refine RN_nmS eσ52 ?_
  obtain rfl := some_el h
  exact RN_return (by decide +kernel) rfl
def b_X10_differs_34 (n : Nat) (σ : Sg) : Option Int32 :=
  some (0 : Int32)
set_option maxRecDepth 20000 in
theorem tb_X10_differs_34 {G : Gl} {xr : Int32} (n : Nat) (σ : Sg) (h : b_X10_differs_34 n σ = some xr) : RN G M_X10_differs 34 [] [] σ (.inl (some (.int xr))) σ := by
  unfold b_X10_differs_34 at h
  refine RN_iconst (pc := 34) (n := 0) (v := 0) (by decide +kernel) (by decide) ?_
  obtain rfl := some_el h
  exact RN_zreturn (by decide +kernel) rfl (Or.inl rfl)
def f_X10_differs (n : Nat) (v0 : Nat) (v1 : Int32) (v2 : Int32) (v3 : Int32) (σ : Sg) : Option Int32 :=
  if v1 = v2 then (
    if v1 = 0 then (
      b_X10_differs_34 n σ)
    else (
      ck (okO σ v0 9) <|
      ck (¬ gR σ v0 0 = 0) <|
      nm (gR σ v0 0) fun r19 =>
      ck (okO σ r19 4) <|
      ck (¬ gR σ r19 1 = 0) <|
      nm (gR σ r19 1) fun r22 =>
      ck (¬ gR σ v0 1 = 0) <|
      nm (gR σ v0 1) fun r24 =>
      ck (okO σ r24 4) <|
      ck (¬ gR σ r24 1 = 0) <|
      nm (gR σ r24 1) fun r27 =>
      ck (okO σ r22 3) <|
      bp (f_X4_matches n r22 r27 v3 σ) fun x30 =>
      if x30 = 0 then (
        some (1 : Int32))
      else (
        b_X10_differs_34 n σ)))
  else (
    some (1 : Int32))
set_option maxRecDepth 20000 in
theorem t_X10_differs {G : Gl} {xr : Int32} {n : Nat} {v0 : Nat} {v1 : Int32} {v2 : Int32} {v3 : Int32} {σ : Sg} (h : f_X10_differs n v0 v1 v2 v3 σ = some xr) : MT G M_X10_differs [.ref v0, .int v1, .int v2, .int v3] σ (some (.int xr)) σ := by
  refine MT_of rfl rfl (Nat.le_of_ble_eq_true rfl) ?_
  show RN G M_X10_differs 0 [some (.ref v0), some (.int v1), some (.int v2), some (.int v3)] [] σ (.inl (some (.int xr))) σ
  unfold f_X10_differs at h
  refine RN_iload_n (pc := 0) (k := 1) (by decide +kernel) rfl rfl ?_
  refine RN_iload_n (pc := 1) (k := 2) (by decide +kernel) rfl rfl ?_
  refine RN_icmp_ne (pc := 2) (off := 28) (tgt := 30) (by decide +kernel) (by decide) (fun c15 => ?_) (fun c15 => ?_)
  · replace h := it_f c15 h
    refine RN_iconst (pc := 30) (n := 1) (v := 1) (by decide +kernel) (by decide) ?_
    refine RN_goto (pc := 31) (off := 4) (tgt := 35) (by decide +kernel) (by decide) ?_
    obtain rfl := some_el h
    exact RN_zreturn (by decide +kernel) rfl (Or.inr rfl)
  · replace h := it_t c15 h
    refine RN_iload_n (pc := 5) (k := 1) (by decide +kernel) rfl rfl ?_
    refine RN_if_eq (pc := 6) (off := 28) (tgt := 34) (by decide +kernel) (by decide) (fun c16 => ?_) (fun c16 => ?_)
    · replace h := it_t c16 h
      exact RN_weak (l := []) trivial (tb_X10_differs_34 n  σ h)
    · replace h := it_f c16 h
      refine RN_aload_n (pc := 9) (k := 0) (by decide +kernel) rfl rfl ?_
      obtain ⟨c17, h⟩ := ck_el h
      obtain ⟨c18, h⟩ := ck_el h
      refine RN_getR (pc := 10) (idx := 12) (ci := 9) (k := 0) (by decide +kernel) lf_RX10_12 rfl c17 c18 ?_
      obtain ⟨r19, er19, h⟩ := nm_el h
      refine RN_nmR er19 ?_
      obtain ⟨c20, h⟩ := ck_el h
      obtain ⟨c21, h⟩ := ck_el h
      refine RN_getR (pc := 13) (idx := 54) (ci := 4) (k := 1) (by decide +kernel) lf_RX10_54 rfl c20 c21 ?_
      obtain ⟨r22, er22, h⟩ := nm_el h
      refine RN_nmR er22 ?_
      refine RN_aload_n (pc := 16) (k := 0) (by decide +kernel) rfl rfl ?_
      obtain ⟨c23, h⟩ := ck_el h
      refine RN_getR (pc := 17) (idx := 18) (ci := 9) (k := 1) (by decide +kernel) lf_RX10_18 rfl c17 c23 ?_
      obtain ⟨r24, er24, h⟩ := nm_el h
      refine RN_nmR er24 ?_
      obtain ⟨c25, h⟩ := ck_el h
      obtain ⟨c26, h⟩ := ck_el h
      refine RN_getR (pc := 20) (idx := 54) (ci := 4) (k := 1) (by decide +kernel) lf_RX10_54 rfl c25 c26 ?_
      obtain ⟨r27, er27, h⟩ := nm_el h
      refine RN_nmR er27 ?_
      refine RN_iload_n (pc := 23) (k := 3) (by decide +kernel) rfl rfl ?_
      obtain ⟨c28, h⟩ := ck_el h
      obtain ⟨x30, f29, h⟩ := bp_el h
      refine RN_callV (M := M_X10_differs) (pc := 24) (idx := 90) (as := [.ref r27, .int v3]) (st := []) (t_X4_matches f29) (by decide +kernel) lk_RX10_90 rfl ⟨by decide, fun q hq => by cases hq; rfl⟩ c28 (Nat.le_of_ble_eq_true rfl) ⟨Nat.le_of_ble_eq_true rfl, Nat.le_of_ble_eq_true rfl⟩ rfl ?_
      show RN G M_X10_differs 27 [some (.ref v0), some (.int v1), some (.int v2), some (.int v3)] [.int x30] σ _ _
      refine RN_if_ne (pc := 27) (off := 7) (tgt := 34) (by decide +kernel) (by decide) (fun c31 => ?_) (fun c31 => ?_)
      · replace h := it_f c31 h
        exact RN_weak (l := []) trivial (tb_X10_differs_34 n  σ h)
      · replace h := it_t c31 h
        refine RN_iconst (pc := 30) (n := 1) (v := 1) (by decide +kernel) (by decide) ?_
        refine RN_goto (pc := 31) (off := 4) (tgt := 35) (by decide +kernel) (by decide) ?_
        obtain rfl := some_el h
        exact RN_zreturn (by decide +kernel) rfl (Or.inr rfl)
