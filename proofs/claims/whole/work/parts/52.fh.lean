def f_L_account (v0 : Nat) (v1 : Int32) (v2 : Nat) (σ : Sg) : Option (Int32 × Sg) :=
  ck (okO σ v0 10) <|
  bx (f_X11_account v0 v1 σ) (fun x5 σ6 =>
    ck (okW σ6 v2 14 (0 : Int32)) <|
    nm (pJ σ6 v2 (0 : Int32).toNatClampNeg x5) fun σ9 =>
    some ((0 : Int32), σ9)) (fun E7 σ6 =>
    if E7 = nIA then some ((1 : Int32), σ6)
    else (
    none))
set_option maxRecDepth 20000 in
theorem t_L_account {G : Gl} {xr : Int32} {σr : Sg} {v0 : Nat} {v1 : Int32} {v2 : Nat} {σ : Sg} (h : f_L_account v0 v1 v2 σ = some (xr, σr)) : MH G M_L_account [.ref v0, .int v1, .ref v2] σ (some (.int xr)) σr := by
  refine MH_of rfl rfl (Nat.le_of_ble_eq_true rfl) ?_
  show RN G M_L_account 0 [some (.ref v0), some (.int v1), some (.ref v2)] [] σ (.inl (some (.int xr))) σr
  unfold f_L_account at h
  refine RN_aload_n (pc := 0) (k := 2) (by decide +kernel) rfl rfl ?_
  refine RN_iconst (pc := 1) (n := 0) (v := 0) (by decide +kernel) (by decide) ?_
  refine RN_aload_n (pc := 2) (k := 0) (by decide +kernel) rfl rfl ?_
  refine RN_iload_n (pc := 3) (k := 1) (by decide +kernel) rfl rfl ?_
  obtain ⟨c3, h⟩ := ck_el h
  rcases bx_el h with ⟨x5, σ6, f4, h⟩ | ⟨E7, σ6, f4, h⟩
  · refine RN_callVR (M := M_L_account) (pc := 4) (idx := 7) (as := [.int v1]) (st := [.int (0 : Int32), .ref v2]) (v := some (.long x5)) (t_X11_account f4) (by decide +kernel) lk_RL_7 rfl ⟨by decide, fun q hq => by cases hq; rfl⟩ c3 (Nat.le_of_ble_eq_true rfl) ⟨Nat.le_of_ble_eq_true rfl, Nat.le_of_ble_eq_true rfl⟩ rfl ?_
    show RN G M_L_account 7 [some (.ref v0), some (.int v1), some (.ref v2)] [.long x5, .int (0 : Int32), .ref v2] σ6 _ _
    obtain ⟨c8, h⟩ := ck_el h
    refine RN_last (pc := 7) (by decide +kernel) c8 ?_
    obtain ⟨σ9, eσ9, h⟩ := nm_el h
    refine RN_nmS eσ9 ?_
    refine RN_goto (pc := 8) (off := 6) (tgt := 14) (by decide +kernel) (by decide) ?_
    refine RN_iconst (pc := 14) (n := 0) (v := 0) (by decide +kernel) (by decide) ?_
    obtain ⟨rfl, rfl⟩ := some_el2 h
    exact RN_ireturn (by decide +kernel) rfl
  · by_cases c10 : E7 = nIA
    · replace h := it_t c10 h
      subst c10
      refine RN_callVX (M := M_L_account) (pc := 4) (idx := 7) (as := [.int v1]) (st := [.int (0 : Int32), .ref v2]) (E := nIA) (i := 3) (ln := 1) (t_X11_account f4) (by decide +kernel) lk_RL_7 rfl ⟨by decide, fun q hq => by cases hq; rfl⟩ c3 (Nat.le_of_ble_eq_true rfl) ⟨Nat.le_of_ble_eq_true rfl, Nat.le_of_ble_eq_true rfl⟩ rfl [] ⟨0, 8, 11, 13⟩ [] rfl (fun z hz => nomatch hz) (by decide) (by decide) kx_RL_13 xb_nIA (Or.inr ⟨3, rfl, (by decide +kernel), rfl⟩) (by decide) (Nat.le_of_ble_eq_true rfl) (by intro v h; cases h; exact (show (1 : Nat) ≠ 2 by decide)) ?_
      show RN G M_L_account 12 [some (.ref v0), some (.int v1), some (.ref v2)] [] σ6 _ _
      refine RN_iconst (pc := 12) (n := 1) (v := 1) (by decide +kernel) (by decide) ?_
      obtain ⟨rfl, rfl⟩ := some_el2 h
      exact RN_ireturn (by decide +kernel) rfl
    · replace h := it_f c10 h
      exact none_el h
def f_L_slot (v0 : Nat) (v1 : Int32) (v2 : Int32) (v3 : Nat) (σ : Sg) : Option (Int32 × Sg) :=
  ck (okO σ v0 10) <|
  bx (f_X11_slot v0 v1 v2 σ) (fun x5 σ6 =>
    ck (okW σ6 v3 14 (0 : Int32)) <|
    nm (pJ σ6 v3 (0 : Int32).toNatClampNeg x5) fun σ9 =>
    some ((0 : Int32), σ9)) (fun E7 σ6 =>
    if E7 = nIA then some ((1 : Int32), σ6)
    else (
    none))
set_option maxRecDepth 20000 in
theorem t_L_slot {G : Gl} {xr : Int32} {σr : Sg} {v0 : Nat} {v1 : Int32} {v2 : Int32} {v3 : Nat} {σ : Sg} (h : f_L_slot v0 v1 v2 v3 σ = some (xr, σr)) : MH G M_L_slot [.ref v0, .int v1, .int v2, .ref v3] σ (some (.int xr)) σr := by
  refine MH_of rfl rfl (Nat.le_of_ble_eq_true rfl) ?_
  show RN G M_L_slot 0 [some (.ref v0), some (.int v1), some (.int v2), some (.ref v3)] [] σ (.inl (some (.int xr))) σr
  unfold f_L_slot at h
  refine RN_aload_n (pc := 0) (k := 3) (by decide +kernel) rfl rfl ?_
  refine RN_iconst (pc := 1) (n := 0) (v := 0) (by decide +kernel) (by decide) ?_
  refine RN_aload_n (pc := 2) (k := 0) (by decide +kernel) rfl rfl ?_
  refine RN_iload_n (pc := 3) (k := 1) (by decide +kernel) rfl rfl ?_
  refine RN_iload_n (pc := 4) (k := 2) (by decide +kernel) rfl rfl ?_
  obtain ⟨c3, h⟩ := ck_el h
  rcases bx_el h with ⟨x5, σ6, f4, h⟩ | ⟨E7, σ6, f4, h⟩
  · refine RN_callVR (M := M_L_slot) (pc := 5) (idx := 15) (as := [.int v1, .int v2]) (st := [.int (0 : Int32), .ref v3]) (v := some (.long x5)) (t_X11_slot f4) (by decide +kernel) lk_RL_15 rfl ⟨by decide, fun q hq => by cases hq; rfl⟩ c3 (Nat.le_of_ble_eq_true rfl) ⟨Nat.le_of_ble_eq_true rfl, Nat.le_of_ble_eq_true rfl⟩ rfl ?_
    show RN G M_L_slot 8 [some (.ref v0), some (.int v1), some (.int v2), some (.ref v3)] [.long x5, .int (0 : Int32), .ref v3] σ6 _ _
    obtain ⟨c8, h⟩ := ck_el h
    refine RN_last (pc := 8) (by decide +kernel) c8 ?_
    obtain ⟨σ9, eσ9, h⟩ := nm_el h
    refine RN_nmS eσ9 ?_
    refine RN_goto (pc := 9) (off := 7) (tgt := 16) (by decide +kernel) (by decide) ?_
    refine RN_iconst (pc := 16) (n := 0) (v := 0) (by decide +kernel) (by decide) ?_
    obtain ⟨rfl, rfl⟩ := some_el2 h
    exact RN_ireturn (by decide +kernel) rfl
  · by_cases c10 : E7 = nIA
    · replace h := it_t c10 h
      subst c10
      refine RN_callVX (M := M_L_slot) (pc := 5) (idx := 15) (as := [.int v1, .int v2]) (st := [.int (0 : Int32), .ref v3]) (E := nIA) (i := 4) (ln := 2) (t_X11_slot f4) (by decide +kernel) lk_RL_15 rfl ⟨by decide, fun q hq => by cases hq; rfl⟩ c3 (Nat.le_of_ble_eq_true rfl) ⟨Nat.le_of_ble_eq_true rfl, Nat.le_of_ble_eq_true rfl⟩ rfl [] ⟨0, 9, 12, 13⟩ [] rfl (fun z hz => nomatch hz) (by decide) (by decide) kx_RL_13 xb_nIA (Or.inl ⟨(by decide +kernel), rfl⟩) (by decide) (Nat.le_of_ble_eq_true rfl) (by intro v h; cases h; exact (show (1 : Nat) ≠ 2 by decide)) ?_
      show RN G M_L_slot 14 [some (.ref v0), some (.int v1), some (.int v2), some (.ref v3)] [] σ6 _ _
      refine RN_iconst (pc := 14) (n := 1) (v := 1) (by decide +kernel) (by decide) ?_
      obtain ⟨rfl, rfl⟩ := some_el2 h
      exact RN_ireturn (by decide +kernel) rfl
    · replace h := it_f c10 h
      exact none_el h
def f_L_part (v0 : Nat) (v1 : Int32) (v2 : Nat) (σ : Sg) : Option (Int32 × Sg) :=
  ck (okO σ v0 10) <|
  bx (f_X11_part v0 v1 σ) (fun x5 σ6 =>
    ck (okW σ6 v2 14 (0 : Int32)) <|
    nm (pJ σ6 v2 (0 : Int32).toNatClampNeg x5) fun σ9 =>
    some ((0 : Int32), σ9)) (fun E7 σ6 =>
    if E7 = nIA then some ((1 : Int32), σ6)
    else (
    none))
set_option maxRecDepth 20000 in
theorem t_L_part {G : Gl} {xr : Int32} {σr : Sg} {v0 : Nat} {v1 : Int32} {v2 : Nat} {σ : Sg} (h : f_L_part v0 v1 v2 σ = some (xr, σr)) : MH G M_L_part [.ref v0, .int v1, .ref v2] σ (some (.int xr)) σr := by
  refine MH_of rfl rfl (Nat.le_of_ble_eq_true rfl) ?_
  show RN G M_L_part 0 [some (.ref v0), some (.int v1), some (.ref v2)] [] σ (.inl (some (.int xr))) σr
  unfold f_L_part at h
  refine RN_aload_n (pc := 0) (k := 2) (by decide +kernel) rfl rfl ?_
  refine RN_iconst (pc := 1) (n := 0) (v := 0) (by decide +kernel) (by decide) ?_
  refine RN_aload_n (pc := 2) (k := 0) (by decide +kernel) rfl rfl ?_
  refine RN_iload_n (pc := 3) (k := 1) (by decide +kernel) rfl rfl ?_
  obtain ⟨c3, h⟩ := ck_el h
  rcases bx_el h with ⟨x5, σ6, f4, h⟩ | ⟨E7, σ6, f4, h⟩
  · refine RN_callVR (M := M_L_part) (pc := 4) (idx := 19) (as := [.int v1]) (st := [.int (0 : Int32), .ref v2]) (v := some (.long x5)) (t_X11_part f4) (by decide +kernel) lk_RL_19 rfl ⟨by decide, fun q hq => by cases hq; rfl⟩ c3 (Nat.le_of_ble_eq_true rfl) ⟨Nat.le_of_ble_eq_true rfl, Nat.le_of_ble_eq_true rfl⟩ rfl ?_
    show RN G M_L_part 7 [some (.ref v0), some (.int v1), some (.ref v2)] [.long x5, .int (0 : Int32), .ref v2] σ6 _ _
    obtain ⟨c8, h⟩ := ck_el h
    refine RN_last (pc := 7) (by decide +kernel) c8 ?_
    obtain ⟨σ9, eσ9, h⟩ := nm_el h
    refine RN_nmS eσ9 ?_
    refine RN_goto (pc := 8) (off := 6) (tgt := 14) (by decide +kernel) (by decide) ?_
    refine RN_iconst (pc := 14) (n := 0) (v := 0) (by decide +kernel) (by decide) ?_
    obtain ⟨rfl, rfl⟩ := some_el2 h
    exact RN_ireturn (by decide +kernel) rfl
  · by_cases c10 : E7 = nIA
    · replace h := it_t c10 h
      subst c10
      refine RN_callVX (M := M_L_part) (pc := 4) (idx := 19) (as := [.int v1]) (st := [.int (0 : Int32), .ref v2]) (E := nIA) (i := 3) (ln := 1) (t_X11_part f4) (by decide +kernel) lk_RL_19 rfl ⟨by decide, fun q hq => by cases hq; rfl⟩ c3 (Nat.le_of_ble_eq_true rfl) ⟨Nat.le_of_ble_eq_true rfl, Nat.le_of_ble_eq_true rfl⟩ rfl [] ⟨0, 8, 11, 13⟩ [] rfl (fun z hz => nomatch hz) (by decide) (by decide) kx_RL_13 xb_nIA (Or.inr ⟨3, rfl, (by decide +kernel), rfl⟩) (by decide) (Nat.le_of_ble_eq_true rfl) (by intro v h; cases h; exact (show (1 : Nat) ≠ 2 by decide)) ?_
      show RN G M_L_part 12 [some (.ref v0), some (.int v1), some (.ref v2)] [] σ6 _ _
      refine RN_iconst (pc := 12) (n := 1) (v := 1) (by decide +kernel) (by decide) ?_
      obtain ⟨rfl, rfl⟩ := some_el2 h
      exact RN_ireturn (by decide +kernel) rfl
    · replace h := it_f c10 h
      exact none_el h
def f_L_got (v0 : Nat) (v1 : Int32) (v2 : Nat) (σ : Sg) : Option (Int32 × Sg) :=
  ck (okO σ v0 10) <|
  bx (f_X11_got v0 v1 σ) (fun x5 σ6 =>
    ck (okW σ6 v2 14 (0 : Int32)) <|
    nm (pJ σ6 v2 (0 : Int32).toNatClampNeg x5) fun σ9 =>
    some ((0 : Int32), σ9)) (fun E7 σ6 =>
    if E7 = nIA then some ((1 : Int32), σ6)
    else (
    none))
set_option maxRecDepth 20000 in
theorem t_L_got {G : Gl} {xr : Int32} {σr : Sg} {v0 : Nat} {v1 : Int32} {v2 : Nat} {σ : Sg} (h : f_L_got v0 v1 v2 σ = some (xr, σr)) : MH G M_L_got [.ref v0, .int v1, .ref v2] σ (some (.int xr)) σr := by
  refine MH_of rfl rfl (Nat.le_of_ble_eq_true rfl) ?_
  show RN G M_L_got 0 [some (.ref v0), some (.int v1), some (.ref v2)] [] σ (.inl (some (.int xr))) σr
  unfold f_L_got at h
  refine RN_aload_n (pc := 0) (k := 2) (by decide +kernel) rfl rfl ?_
  refine RN_iconst (pc := 1) (n := 0) (v := 0) (by decide +kernel) (by decide) ?_
  refine RN_aload_n (pc := 2) (k := 0) (by decide +kernel) rfl rfl ?_
  refine RN_iload_n (pc := 3) (k := 1) (by decide +kernel) rfl rfl ?_
  obtain ⟨c3, h⟩ := ck_el h
  rcases bx_el h with ⟨x5, σ6, f4, h⟩ | ⟨E7, σ6, f4, h⟩
  · refine RN_callVR (M := M_L_got) (pc := 4) (idx := 22) (as := [.int v1]) (st := [.int (0 : Int32), .ref v2]) (v := some (.long x5)) (t_X11_got f4) (by decide +kernel) lk_RL_22 rfl ⟨by decide, fun q hq => by cases hq; rfl⟩ c3 (Nat.le_of_ble_eq_true rfl) ⟨Nat.le_of_ble_eq_true rfl, Nat.le_of_ble_eq_true rfl⟩ rfl ?_
    show RN G M_L_got 7 [some (.ref v0), some (.int v1), some (.ref v2)] [.long x5, .int (0 : Int32), .ref v2] σ6 _ _
    obtain ⟨c8, h⟩ := ck_el h
    refine RN_last (pc := 7) (by decide +kernel) c8 ?_
    obtain ⟨σ9, eσ9, h⟩ := nm_el h
    refine RN_nmS eσ9 ?_
    refine RN_goto (pc := 8) (off := 6) (tgt := 14) (by decide +kernel) (by decide) ?_
    refine RN_iconst (pc := 14) (n := 0) (v := 0) (by decide +kernel) (by decide) ?_
    obtain ⟨rfl, rfl⟩ := some_el2 h
    exact RN_ireturn (by decide +kernel) rfl
  · by_cases c10 : E7 = nIA
    · replace h := it_t c10 h
      subst c10
      refine RN_callVX (M := M_L_got) (pc := 4) (idx := 22) (as := [.int v1]) (st := [.int (0 : Int32), .ref v2]) (E := nIA) (i := 3) (ln := 1) (t_X11_got f4) (by decide +kernel) lk_RL_22 rfl ⟨by decide, fun q hq => by cases hq; rfl⟩ c3 (Nat.le_of_ble_eq_true rfl) ⟨Nat.le_of_ble_eq_true rfl, Nat.le_of_ble_eq_true rfl⟩ rfl [] ⟨0, 8, 11, 13⟩ [] rfl (fun z hz => nomatch hz) (by decide) (by decide) kx_RL_13 xb_nIA (Or.inr ⟨3, rfl, (by decide +kernel), rfl⟩) (by decide) (Nat.le_of_ble_eq_true rfl) (by intro v h; cases h; exact (show (1 : Nat) ≠ 2 by decide)) ?_
      show RN G M_L_got 12 [some (.ref v0), some (.int v1), some (.ref v2)] [] σ6 _ _
      refine RN_iconst (pc := 12) (n := 1) (v := 1) (by decide +kernel) (by decide) ?_
      obtain ⟨rfl, rfl⟩ := some_el2 h
      exact RN_ireturn (by decide +kernel) rfl
    · replace h := it_f c10 h
      exact none_el h
def f_L_carried (v0 : Nat) (v1 : Int32) (v2 : Int32) (v3 : Nat) (σ : Sg) : Option (Int32 × Sg) :=
  ck (okO σ v0 10) <|
  bx (f_X11_carried v0 v1 v2 σ) (fun x5 σ6 =>
    ck (okW σ6 v3 14 (0 : Int32)) <|
    nm (pJ σ6 v3 (0 : Int32).toNatClampNeg x5) fun σ9 =>
    some ((0 : Int32), σ9)) (fun E7 σ6 =>
    if E7 = nIA then some ((1 : Int32), σ6)
    else (
    none))
set_option maxRecDepth 20000 in
theorem t_L_carried {G : Gl} {xr : Int32} {σr : Sg} {v0 : Nat} {v1 : Int32} {v2 : Int32} {v3 : Nat} {σ : Sg} (h : f_L_carried v0 v1 v2 v3 σ = some (xr, σr)) : MH G M_L_carried [.ref v0, .int v1, .int v2, .ref v3] σ (some (.int xr)) σr := by
  refine MH_of rfl rfl (Nat.le_of_ble_eq_true rfl) ?_
  show RN G M_L_carried 0 [some (.ref v0), some (.int v1), some (.int v2), some (.ref v3)] [] σ (.inl (some (.int xr))) σr
  unfold f_L_carried at h
  refine RN_aload_n (pc := 0) (k := 3) (by decide +kernel) rfl rfl ?_
  refine RN_iconst (pc := 1) (n := 0) (v := 0) (by decide +kernel) (by decide) ?_
  refine RN_aload_n (pc := 2) (k := 0) (by decide +kernel) rfl rfl ?_
  refine RN_iload_n (pc := 3) (k := 1) (by decide +kernel) rfl rfl ?_
  refine RN_iload_n (pc := 4) (k := 2) (by decide +kernel) rfl rfl ?_
  obtain ⟨c3, h⟩ := ck_el h
  rcases bx_el h with ⟨x5, σ6, f4, h⟩ | ⟨E7, σ6, f4, h⟩
  · refine RN_callVR (M := M_L_carried) (pc := 5) (idx := 25) (as := [.int v1, .int v2]) (st := [.int (0 : Int32), .ref v3]) (v := some (.long x5)) (t_X11_carried f4) (by decide +kernel) lk_RL_25 rfl ⟨by decide, fun q hq => by cases hq; rfl⟩ c3 (Nat.le_of_ble_eq_true rfl) ⟨Nat.le_of_ble_eq_true rfl, Nat.le_of_ble_eq_true rfl⟩ rfl ?_
    show RN G M_L_carried 8 [some (.ref v0), some (.int v1), some (.int v2), some (.ref v3)] [.long x5, .int (0 : Int32), .ref v3] σ6 _ _
    obtain ⟨c8, h⟩ := ck_el h
    refine RN_last (pc := 8) (by decide +kernel) c8 ?_
    obtain ⟨σ9, eσ9, h⟩ := nm_el h
    refine RN_nmS eσ9 ?_
    refine RN_goto (pc := 9) (off := 7) (tgt := 16) (by decide +kernel) (by decide) ?_
    refine RN_iconst (pc := 16) (n := 0) (v := 0) (by decide +kernel) (by decide) ?_
    obtain ⟨rfl, rfl⟩ := some_el2 h
    exact RN_ireturn (by decide +kernel) rfl
  · by_cases c10 : E7 = nIA
    · replace h := it_t c10 h
      subst c10
      refine RN_callVX (M := M_L_carried) (pc := 5) (idx := 25) (as := [.int v1, .int v2]) (st := [.int (0 : Int32), .ref v3]) (E := nIA) (i := 4) (ln := 2) (t_X11_carried f4) (by decide +kernel) lk_RL_25 rfl ⟨by decide, fun q hq => by cases hq; rfl⟩ c3 (Nat.le_of_ble_eq_true rfl) ⟨Nat.le_of_ble_eq_true rfl, Nat.le_of_ble_eq_true rfl⟩ rfl [] ⟨0, 9, 12, 13⟩ [] rfl (fun z hz => nomatch hz) (by decide) (by decide) kx_RL_13 xb_nIA (Or.inl ⟨(by decide +kernel), rfl⟩) (by decide) (Nat.le_of_ble_eq_true rfl) (by intro v h; cases h; exact (show (1 : Nat) ≠ 2 by decide)) ?_
      show RN G M_L_carried 14 [some (.ref v0), some (.int v1), some (.int v2), some (.ref v3)] [] σ6 _ _
      refine RN_iconst (pc := 14) (n := 1) (v := 1) (by decide +kernel) (by decide) ?_
      obtain ⟨rfl, rfl⟩ := some_el2 h
      exact RN_ireturn (by decide +kernel) rfl
    · replace h := it_f c10 h
      exact none_el h
def f_L_drift (n : Nat) (v0 : Nat) (v1 : Int32) (v2 : Int32) (v3 : Int32) (v4 : Int32) (v5 : Int32) (v6 : Nat) (σ : Sg) : Option (Int32 × Sg) :=
  ck (okO σ v0 10) <|
  bx (f_X11_drift n v0 v1 v2 v3 v4 v5 σ) (fun x5 σ6 =>
    ck (okW σ6 v6 14 (0 : Int32)) <|
    nm (pJ σ6 v6 (0 : Int32).toNatClampNeg (x5.toInt64)) fun σ9 =>
    some ((0 : Int32), σ9)) (fun E7 σ6 =>
    if E7 = nIA then some ((1 : Int32), σ6)
    else (
    none))
set_option maxRecDepth 20000 in
theorem t_L_drift {G : Gl} {xr : Int32} {σr : Sg} {n : Nat} {v0 : Nat} {v1 : Int32} {v2 : Int32} {v3 : Int32} {v4 : Int32} {v5 : Int32} {v6 : Nat} {σ : Sg} (h : f_L_drift n v0 v1 v2 v3 v4 v5 v6 σ = some (xr, σr)) : MH G M_L_drift [.ref v0, .int v1, .int v2, .int v3, .int v4, .int v5, .ref v6] σ (some (.int xr)) σr := by
  refine MH_of rfl rfl (Nat.le_of_ble_eq_true rfl) ?_
  show RN G M_L_drift 0 [some (.ref v0), some (.int v1), some (.int v2), some (.int v3), some (.int v4), some (.int v5), some (.ref v6)] [] σ (.inl (some (.int xr))) σr
  unfold f_L_drift at h
  refine RN_aload (pc := 0) (i := 6) (by decide +kernel) rfl ?_
  refine RN_iconst (pc := 2) (n := 0) (v := 0) (by decide +kernel) (by decide) ?_
  refine RN_aload_n (pc := 3) (k := 0) (by decide +kernel) rfl rfl ?_
  refine RN_iload_n (pc := 4) (k := 1) (by decide +kernel) rfl rfl ?_
  refine RN_iload_n (pc := 5) (k := 2) (by decide +kernel) rfl rfl ?_
  refine RN_iload_n (pc := 6) (k := 3) (by decide +kernel) rfl rfl ?_
  refine RN_iload (pc := 7) (i := 4) (by decide +kernel) rfl ?_
  refine RN_iload (pc := 9) (i := 5) (by decide +kernel) rfl ?_
  obtain ⟨c3, h⟩ := ck_el h
  rcases bx_el h with ⟨x5, σ6, f4, h⟩ | ⟨E7, σ6, f4, h⟩
  · refine RN_callVR (M := M_L_drift) (pc := 11) (idx := 28) (as := [.int v1, .int v2, .int v3, .int v4, .int v5]) (st := [.int (0 : Int32), .ref v6]) (v := some (.int x5)) (t_X11_drift f4) (by decide +kernel) lk_RL_28 rfl ⟨by decide, fun q hq => by cases hq; rfl⟩ c3 (Nat.le_of_ble_eq_true rfl) ⟨Nat.le_of_ble_eq_true rfl, Nat.le_of_ble_eq_true rfl⟩ rfl ?_
    show RN G M_L_drift 14 [some (.ref v0), some (.int v1), some (.int v2), some (.int v3), some (.int v4), some (.int v5), some (.ref v6)] [.int x5, .int (0 : Int32), .ref v6] σ6 _ _
    refine RN_i2l (pc := 14) (by decide +kernel) ?_
    obtain ⟨c8, h⟩ := ck_el h
    refine RN_last (pc := 15) (by decide +kernel) c8 ?_
    obtain ⟨σ9, eσ9, h⟩ := nm_el h
    refine RN_nmS eσ9 ?_
    refine RN_goto (pc := 16) (off := 7) (tgt := 23) (by decide +kernel) (by decide) ?_
    refine RN_iconst (pc := 23) (n := 0) (v := 0) (by decide +kernel) (by decide) ?_
    obtain ⟨rfl, rfl⟩ := some_el2 h
    exact RN_ireturn (by decide +kernel) rfl
  · by_cases c10 : E7 = nIA
    · replace h := it_t c10 h
      subst c10
      refine RN_callVX (M := M_L_drift) (pc := 11) (idx := 28) (as := [.int v1, .int v2, .int v3, .int v4, .int v5]) (st := [.int (0 : Int32), .ref v6]) (E := nIA) (i := 7) (ln := 2) (t_X11_drift f4) (by decide +kernel) lk_RL_28 rfl ⟨by decide, fun q hq => by cases hq; rfl⟩ c3 (Nat.le_of_ble_eq_true rfl) ⟨Nat.le_of_ble_eq_true rfl, Nat.le_of_ble_eq_true rfl⟩ rfl [] ⟨0, 16, 19, 13⟩ [] rfl (fun z hz => nomatch hz) (by decide) (by decide) kx_RL_13 xb_nIA (Or.inl ⟨(by decide +kernel), rfl⟩) (by decide) (Nat.le_of_ble_eq_true rfl) (by intro v h; cases h; exact (show (1 : Nat) ≠ 2 by decide)) ?_
      show RN G M_L_drift 21 [some (.ref v0), some (.int v1), some (.int v2), some (.int v3), some (.int v4), some (.int v5), some (.ref v6)] [] σ6 _ _
      refine RN_iconst (pc := 21) (n := 1) (v := 1) (by decide +kernel) (by decide) ?_
      obtain ⟨rfl, rfl⟩ := some_el2 h
      exact RN_ireturn (by decide +kernel) rfl
    · replace h := it_f c10 h
      exact none_el h
def f_L_rounded (v0 : Nat) (v1 : Int64) (v3 : Int32) (v4 : Int32) (v5 : Int32) (v6 : Nat) (σ : Sg) : Option (Int32 × Sg) :=
  ck (okO σ v0 10) <|
  bx (f_X11_rounded v0 v1 v3 v4 v5 σ) (fun x5 σ6 =>
    ck (okW σ6 v6 14 (0 : Int32)) <|
    nm (pJ σ6 v6 (0 : Int32).toNatClampNeg x5) fun σ9 =>
    some ((0 : Int32), σ9)) (fun E7 σ6 =>
    if E7 = nIA then some ((1 : Int32), σ6)
    else (
    none))
set_option maxRecDepth 20000 in
theorem t_L_rounded {G : Gl} {xr : Int32} {σr : Sg} {v0 : Nat} {v1 : Int64} {v3 : Int32} {v4 : Int32} {v5 : Int32} {v6 : Nat} {σ : Sg} (h : f_L_rounded v0 v1 v3 v4 v5 v6 σ = some (xr, σr)) : MH G M_L_rounded [.ref v0, .long v1, .int v3, .int v4, .int v5, .ref v6] σ (some (.int xr)) σr := by
  refine MH_of rfl rfl (Nat.le_of_ble_eq_true rfl) ?_
  show RN G M_L_rounded 0 [some (.ref v0), some (.long v1), none, some (.int v3), some (.int v4), some (.int v5), some (.ref v6)] [] σ (.inl (some (.int xr))) σr
  unfold f_L_rounded at h
  refine RN_aload (pc := 0) (i := 6) (by decide +kernel) rfl ?_
  refine RN_iconst (pc := 2) (n := 0) (v := 0) (by decide +kernel) (by decide) ?_
  refine RN_aload_n (pc := 3) (k := 0) (by decide +kernel) rfl rfl ?_
  refine RN_lload_n (pc := 4) (k := 1) (by decide +kernel) rfl rfl ?_
  refine RN_iload_n (pc := 5) (k := 3) (by decide +kernel) rfl rfl ?_
  refine RN_iload (pc := 6) (i := 4) (by decide +kernel) rfl ?_
  refine RN_iload (pc := 8) (i := 5) (by decide +kernel) rfl ?_
  obtain ⟨c3, h⟩ := ck_el h
  rcases bx_el h with ⟨x5, σ6, f4, h⟩ | ⟨E7, σ6, f4, h⟩
  · refine RN_callVR (M := M_L_rounded) (pc := 10) (idx := 32) (as := [.long v1, .int v3, .int v4, .int v5]) (st := [.int (0 : Int32), .ref v6]) (v := some (.long x5)) (t_X11_rounded f4) (by decide +kernel) lk_RL_32 rfl ⟨by decide, fun q hq => by cases hq; rfl⟩ c3 (Nat.le_of_ble_eq_true rfl) ⟨Nat.le_of_ble_eq_true rfl, Nat.le_of_ble_eq_true rfl⟩ rfl ?_
    show RN G M_L_rounded 13 [some (.ref v0), some (.long v1), none, some (.int v3), some (.int v4), some (.int v5), some (.ref v6)] [.long x5, .int (0 : Int32), .ref v6] σ6 _ _
    obtain ⟨c8, h⟩ := ck_el h
    refine RN_last (pc := 13) (by decide +kernel) c8 ?_
    obtain ⟨σ9, eσ9, h⟩ := nm_el h
    refine RN_nmS eσ9 ?_
    refine RN_goto (pc := 14) (off := 7) (tgt := 21) (by decide +kernel) (by decide) ?_
    refine RN_iconst (pc := 21) (n := 0) (v := 0) (by decide +kernel) (by decide) ?_
    obtain ⟨rfl, rfl⟩ := some_el2 h
    exact RN_ireturn (by decide +kernel) rfl
  · by_cases c10 : E7 = nIA
    · replace h := it_t c10 h
      subst c10
      refine RN_callVX (M := M_L_rounded) (pc := 10) (idx := 32) (as := [.long v1, .int v3, .int v4, .int v5]) (st := [.int (0 : Int32), .ref v6]) (E := nIA) (i := 7) (ln := 2) (t_X11_rounded f4) (by decide +kernel) lk_RL_32 rfl ⟨by decide, fun q hq => by cases hq; rfl⟩ c3 (Nat.le_of_ble_eq_true rfl) ⟨Nat.le_of_ble_eq_true rfl, Nat.le_of_ble_eq_true rfl⟩ rfl [] ⟨0, 14, 17, 13⟩ [] rfl (fun z hz => nomatch hz) (by decide) (by decide) kx_RL_13 xb_nIA (Or.inl ⟨(by decide +kernel), rfl⟩) (by decide) (Nat.le_of_ble_eq_true rfl) (by intro v h; cases h; exact (show (1 : Nat) ≠ 2 by decide)) ?_
      show RN G M_L_rounded 19 [some (.ref v0), some (.long v1), none, some (.int v3), some (.int v4), some (.int v5), some (.ref v6)] [] σ6 _ _
      refine RN_iconst (pc := 19) (n := 1) (v := 1) (by decide +kernel) (by decide) ?_
      obtain ⟨rfl, rfl⟩ := some_el2 h
      exact RN_ireturn (by decide +kernel) rfl
    · replace h := it_f c10 h
      exact none_el h
def f_L_at (v0 : Nat) (v1 : Int32) (v2 : Int32) (v3 : Nat) (σ : Sg) : Option (Int32 × Sg) :=
  ck (okO σ v0 10) <|
  bx (f_X11_at v0 v1 v2 σ) (fun x5 σ6 =>
    ck (okW σ6 v3 14 (0 : Int32)) <|
    nm (pJ σ6 v3 (0 : Int32).toNatClampNeg x5) fun σ9 =>
    some ((0 : Int32), σ9)) (fun E7 σ6 =>
    if E7 = nIA then some ((1 : Int32), σ6)
    else (
    if E7 = nIS then some ((2 : Int32), σ6)
    else (
    none)))
set_option maxRecDepth 20000 in
theorem t_L_at {G : Gl} {xr : Int32} {σr : Sg} {v0 : Nat} {v1 : Int32} {v2 : Int32} {v3 : Nat} {σ : Sg} (h : f_L_at v0 v1 v2 v3 σ = some (xr, σr)) : MH G M_L_at [.ref v0, .int v1, .int v2, .ref v3] σ (some (.int xr)) σr := by
  refine MH_of rfl rfl (Nat.le_of_ble_eq_true rfl) ?_
  show RN G M_L_at 0 [some (.ref v0), some (.int v1), some (.int v2), some (.ref v3)] [] σ (.inl (some (.int xr))) σr
  unfold f_L_at at h
  refine RN_aload_n (pc := 0) (k := 3) (by decide +kernel) rfl rfl ?_
  refine RN_iconst (pc := 1) (n := 0) (v := 0) (by decide +kernel) (by decide) ?_
  refine RN_aload_n (pc := 2) (k := 0) (by decide +kernel) rfl rfl ?_
  refine RN_iload_n (pc := 3) (k := 1) (by decide +kernel) rfl rfl ?_
  refine RN_iload_n (pc := 4) (k := 2) (by decide +kernel) rfl rfl ?_
  obtain ⟨c3, h⟩ := ck_el h
  rcases bx_el h with ⟨x5, σ6, f4, h⟩ | ⟨E7, σ6, f4, h⟩
  · refine RN_callVR (M := M_L_at) (pc := 5) (idx := 36) (as := [.int v1, .int v2]) (st := [.int (0 : Int32), .ref v3]) (v := some (.long x5)) (t_X11_at f4) (by decide +kernel) lk_RL_36 rfl ⟨by decide, fun q hq => by cases hq; rfl⟩ c3 (Nat.le_of_ble_eq_true rfl) ⟨Nat.le_of_ble_eq_true rfl, Nat.le_of_ble_eq_true rfl⟩ rfl ?_
    show RN G M_L_at 8 [some (.ref v0), some (.int v1), some (.int v2), some (.ref v3)] [.long x5, .int (0 : Int32), .ref v3] σ6 _ _
    obtain ⟨c8, h⟩ := ck_el h
    refine RN_last (pc := 8) (by decide +kernel) c8 ?_
    obtain ⟨σ9, eσ9, h⟩ := nm_el h
    refine RN_nmS eσ9 ?_
    refine RN_goto (pc := 9) (off := 11) (tgt := 20) (by decide +kernel) (by decide) ?_
    refine RN_iconst (pc := 20) (n := 0) (v := 0) (by decide +kernel) (by decide) ?_
    obtain ⟨rfl, rfl⟩ := some_el2 h
    exact RN_ireturn (by decide +kernel) rfl
  · by_cases c11 : E7 = nIA
    · replace h := it_t c11 h
      subst c11
      refine RN_callVX (M := M_L_at) (pc := 5) (idx := 36) (as := [.int v1, .int v2]) (st := [.int (0 : Int32), .ref v3]) (E := nIA) (i := 4) (ln := 2) (t_X11_at f4) (by decide +kernel) lk_RL_36 rfl ⟨by decide, fun q hq => by cases hq; rfl⟩ c3 (Nat.le_of_ble_eq_true rfl) ⟨Nat.le_of_ble_eq_true rfl, Nat.le_of_ble_eq_true rfl⟩ rfl [] ⟨0, 9, 12, 13⟩ [⟨0, 9, 16, 39⟩] rfl (fun z hz => nomatch hz) (by decide) (by decide) kx_RL_13 xb_nIA (Or.inl ⟨(by decide +kernel), rfl⟩) (by decide) (Nat.le_of_ble_eq_true rfl) (by intro v h; cases h; exact (show (1 : Nat) ≠ 2 by decide)) ?_
      show RN G M_L_at 14 [some (.ref v0), some (.int v1), some (.int v2), some (.ref v3)] [] σ6 _ _
      refine RN_iconst (pc := 14) (n := 1) (v := 1) (by decide +kernel) (by decide) ?_
      obtain ⟨rfl, rfl⟩ := some_el2 h
      exact RN_ireturn (by decide +kernel) rfl
    · replace h := it_f c11 h
      by_cases c10 : E7 = nIS
      · replace h := it_t c10 h
        subst c10
        refine RN_callVX (M := M_L_at) (pc := 5) (idx := 36) (as := [.int v1, .int v2]) (st := [.int (0 : Int32), .ref v3]) (E := nIS) (i := 4) (ln := 2) (t_X11_at f4) (by decide +kernel) lk_RL_36 rfl ⟨by decide, fun q hq => by cases hq; rfl⟩ c3 (Nat.le_of_ble_eq_true rfl) ⟨Nat.le_of_ble_eq_true rfl, Nat.le_of_ble_eq_true rfl⟩ rfl [⟨0, 9, 12, 13⟩] ⟨0, 9, 16, 39⟩ [] rfl (fun z hz => by rw [List.mem_singleton] at hz; subst hz; exact ⟨by decide, kx_RL_13, rfl⟩) (by decide) (by decide) kx_RL_39 xb_nIS (Or.inl ⟨(by decide +kernel), rfl⟩) (by decide) (Nat.le_of_ble_eq_true rfl) (by intro v h; cases h; exact (show (1 : Nat) ≠ 2 by decide)) ?_
        show RN G M_L_at 18 [some (.ref v0), some (.int v1), some (.int v2), some (.ref v3)] [] σ6 _ _
        refine RN_iconst (pc := 18) (n := 2) (v := 2) (by decide +kernel) (by decide) ?_
        obtain ⟨rfl, rfl⟩ := some_el2 h
        exact RN_ireturn (by decide +kernel) rfl
      · replace h := it_f c10 h
        exact none_el h
