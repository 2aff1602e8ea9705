def b_X10_breaks_104 (n : Nat) (σ : Sg) : Option (Int32 × Sg) :=
  some ((0 : Int32), σ)
set_option maxRecDepth 20000 in
theorem tb_X10_breaks_104 {G : Gl} {xr : Int32} {σr : Sg} (n : Nat) (σ : Sg) (h : b_X10_breaks_104 n σ = some (xr, σr)) : RN G M_X10_breaks 104 [] [] σ (.inl (some (.int xr))) σr := by
  unfold b_X10_breaks_104 at h
  refine RN_iconst (pc := 104) (n := 0) (v := 0) (by decide +kernel) (by decide) ?_
  obtain ⟨rfl, rfl⟩ := some_el2 h
  exact RN_zreturn (by decide +kernel) rfl (Or.inl rfl)
def b_X10_breaks_168 (n : Nat) (s0 : Int32) (s1 : Int32) (s2 : Int32) (s3 : Nat) (σ : Sg) : Option (Int32 × Sg) :=
  ck (okO σ s3 9) <|
  bp (f_X10_differs n s3 s2 s1 s0 σ) fun x163 =>
  ck (x163 = 0 ∨ x163 = 1) <|
  some (x163, σ)
set_option maxRecDepth 20000 in
theorem tb_X10_breaks_168 {G : Gl} {xr : Int32} {σr : Sg} (n : Nat) (s0 : Int32) (s1 : Int32) (s2 : Int32) (s3 : Nat) (σ : Sg) (h : b_X10_breaks_168 n s0 s1 s2 s3 σ = some (xr, σr)) : RN G M_X10_breaks 168 [] [.int s0, .int s1, .int s2, .ref s3] σ (.inl (some (.int xr))) σr := by
  unfold b_X10_breaks_168 at h
  obtain ⟨c161, h⟩ := ck_el h
  obtain ⟨x163, f162, h⟩ := bp_el h
  refine RN_callV (M := M_X10_breaks) (pc := 168) (idx := 64) (as := [.int s2, .int s1, .int s0]) (st := []) (t_X10_differs f162) (by decide +kernel) lk_RX10_64 rfl ⟨by decide, fun q hq => by cases hq; rfl⟩ c161 (Nat.le_of_ble_eq_true rfl) ⟨Nat.le_of_ble_eq_true rfl, Nat.le_of_ble_eq_true rfl⟩ rfl ?_
  show RN G M_X10_breaks 171 [] [.int x163] σ _ _
  obtain ⟨c164, h⟩ := ck_el h
  obtain ⟨rfl, rfl⟩ := some_el2 h
  exact RN_zreturn (by decide +kernel) rfl c164
def b_X10_breaks_157 (n : Nat) (v4 : Int32) (s0 : Int32) (s1 : Int32) (s2 : Nat) (σ : Sg) : Option (Int32 × Sg) :=
  if v4 = (1 : Int32) then (
    b_X10_breaks_168 n (-1 : Int32) s0 s1 s2 σ)
  else (
    b_X10_breaks_168 n (1 : Int32) s0 s1 s2 σ)
set_option maxRecDepth 20000 in
theorem tb_X10_breaks_157 {G : Gl} {xr : Int32} {σr : Sg} (n : Nat) (v4 : Int32) (s0 : Int32) (s1 : Int32) (s2 : Nat) (σ : Sg) (h : b_X10_breaks_157 n v4 s0 s1 s2 σ = some (xr, σr)) : RN G M_X10_breaks 157 [none, none, none, none, some (.int v4)] [.int s0, .int s1, .ref s2] σ (.inl (some (.int xr))) σr := by
  unfold b_X10_breaks_157 at h
  refine RN_iload (pc := 157) (i := 4) (by decide +kernel) rfl ?_
  refine RN_iconst (pc := 159) (n := 1) (v := 1) (by decide +kernel) (by decide) ?_
  refine RN_icmp_ne (pc := 160) (off := 7) (tgt := 167) (by decide +kernel) (by decide) (fun c160 => ?_) (fun c160 => ?_)
  · replace h := it_f c160 h
    refine RN_iconst (pc := 167) (n := 1) (v := 1) (by decide +kernel) (by decide) ?_
    exact RN_weak (l := []) trivial (tb_X10_breaks_168 n (1 : Int32) s0 s1 s2 σ h)
  · replace h := it_t c160 h
    refine RN_iconst (pc := 163) (n := -1) (v := -1) (by decide +kernel) (by decide) ?_
    refine RN_goto (pc := 164) (off := 4) (tgt := 168) (by decide +kernel) (by decide) ?_
    exact RN_weak (l := []) trivial (tb_X10_breaks_168 n (-1 : Int32) s0 s1 s2 σ h)
def b_X10_breaks_127 (n : Nat) (v0 : Nat) (v1 : Nat) (v3 : Nat) (v4 : Int32) (v6 : Int32) (s0 : Int32) (s1 : Nat) (σ : Sg) : Option (Int32 × Sg) :=
  ck (okO σ s1 0) <|
  bp (f_X0_becomeOneLine s1 s0 σ) fun σ145 =>
  ck (okO σ145 v0 9) <|
  ck (¬ gR σ145 v0 1 = 0) <|
  nm (gR σ145 v0 1) fun r148 =>
  ck (okO σ145 r148 4) <|
  bp (f_X5_startAfresh n r148 σ145) fun σ151 =>
  ck (okO σ151 v0 9) <|
  ck (¬ gR σ151 v0 1 = 0) <|
  nm (gR σ151 v0 1) fun r154 =>
  ck (okO σ151 r154 4) <|
  bd (f_X5_perform n r154 v3 v1 σ151) fun x158 σ157 =>
  if x158 = 0 then (
    b_X10_breaks_157 n v4 (1 : Int32) v6 v0 σ157)
  else (
    b_X10_breaks_157 n v4 (0 : Int32) v6 v0 σ157)
set_option maxRecDepth 20000 in
theorem tb_X10_breaks_127 {G : Gl} {xr : Int32} {σr : Sg} (n : Nat) (v0 : Nat) (v1 : Nat) (v3 : Nat) (v4 : Int32) (v6 : Int32) (s0 : Int32) (s1 : Nat) (σ : Sg) (h : b_X10_breaks_127 n v0 v1 v3 v4 v6 s0 s1 σ = some (xr, σr)) : RN G M_X10_breaks 127 [some (.ref v0), some (.ref v1), none, some (.ref v3), some (.int v4), none, some (.int v6)] [.int s0, .ref s1] σ (.inl (some (.int xr))) σr := by
  unfold b_X10_breaks_127 at h
  obtain ⟨c143, h⟩ := ck_el h
  obtain ⟨σ145, f144, h⟩ := bp_el h
  refine RN_callV (M := M_X10_breaks) (pc := 127) (idx := 41) (as := [.int s0]) (st := []) (t_X0_becomeOneLine f144) (by decide +kernel) lk_RX10_41 rfl ⟨by decide, fun q hq => by cases hq; rfl⟩ c143 (Nat.le_of_ble_eq_true rfl) ⟨Nat.le_of_ble_eq_true rfl, Nat.le_of_ble_eq_true rfl⟩ rfl ?_
  show RN G M_X10_breaks 130 [some (.ref v0), some (.ref v1), none, some (.ref v3), some (.int v4), none, some (.int v6)] [] σ145 _ _
  refine RN_aload_n (pc := 130) (k := 0) (by decide +kernel) rfl rfl ?_
  obtain ⟨c146, h⟩ := ck_el h
  obtain ⟨c147, h⟩ := ck_el h
  refine RN_getR (pc := 131) (idx := 18) (ci := 9) (k := 1) (by decide +kernel) lf_RX10_18 rfl c146 c147 ?_
  obtain ⟨r148, er148, h⟩ := nm_el h
  refine RN_nmR er148 ?_
  obtain ⟨c149, h⟩ := ck_el h
  obtain ⟨σ151, f150, h⟩ := bp_el h
  refine RN_callV (M := M_X10_breaks) (pc := 134) (idx := 47) (as := []) (st := []) (t_X5_startAfresh f150) (by decide +kernel) lk_RX10_47 rfl ⟨by decide, fun q hq => by cases hq; rfl⟩ c149 (Nat.le_of_ble_eq_true rfl) ⟨Nat.le_of_ble_eq_true rfl, Nat.le_of_ble_eq_true rfl⟩ rfl ?_
  show RN G M_X10_breaks 137 [some (.ref v0), some (.ref v1), none, some (.ref v3), some (.int v4), none, some (.int v6)] [] σ151 _ _
  refine RN_aload_n (pc := 137) (k := 0) (by decide +kernel) rfl rfl ?_
  refine RN_iload (pc := 138) (i := 6) (by decide +kernel) rfl ?_
  refine RN_aload_n (pc := 140) (k := 0) (by decide +kernel) rfl rfl ?_
  obtain ⟨c152, h⟩ := ck_el h
  obtain ⟨c153, h⟩ := ck_el h
  refine RN_getR (pc := 141) (idx := 18) (ci := 9) (k := 1) (by decide +kernel) lf_RX10_18 rfl c152 c153 ?_
  obtain ⟨r154, er154, h⟩ := nm_el h
  refine RN_nmR er154 ?_
  refine RN_aload_n (pc := 144) (k := 3) (by decide +kernel) rfl rfl ?_
  refine RN_aload_n (pc := 145) (k := 1) (by decide +kernel) rfl rfl ?_
  obtain ⟨c155, h⟩ := ck_el h
  obtain ⟨x158, σ157, f156, h⟩ := bd_el h
  refine RN_callV (M := M_X10_breaks) (pc := 146) (idx := 50) (as := [.ref v3, .ref v1]) (st := [.int v6, .ref v0]) (t_X5_perform f156) (by decide +kernel) lk_RX10_50 rfl ⟨by decide, fun q hq => by cases hq; rfl⟩ c155 (Nat.le_of_ble_eq_true rfl) ⟨Nat.le_of_ble_eq_true rfl, Nat.le_of_ble_eq_true rfl⟩ rfl ?_
  show RN G M_X10_breaks 149 [some (.ref v0), some (.ref v1), none, some (.ref v3), some (.int v4), none, some (.int v6)] [.int x158, .int v6, .ref v0] σ157 _ _
  refine RN_if_ne (pc := 149) (off := 7) (tgt := 156) (by decide +kernel) (by decide) (fun c159 => ?_) (fun c159 => ?_)
  · replace h := it_f c159 h
    refine RN_iconst (pc := 156) (n := 0) (v := 0) (by decide +kernel) (by decide) ?_
    exact RN_weak (l := [none, none, none, none, some (.int v4)]) (And.intro rfl trivial) (tb_X10_breaks_157 n v4 (0 : Int32) v6 v0 σ157 h)
  · replace h := it_t c159 h
    refine RN_iconst (pc := 152) (n := 1) (v := 1) (by decide +kernel) (by decide) ?_
    refine RN_goto (pc := 153) (off := 4) (tgt := 157) (by decide +kernel) (by decide) ?_
    exact RN_weak (l := [none, none, none, none, some (.int v4)]) (And.intro rfl trivial) (tb_X10_breaks_157 n v4 (1 : Int32) v6 v0 σ157 h)
def b_X10_breaks_207 (n : Nat) (σ : Sg) : Option (Int32 × Sg) :=
  some ((0 : Int32), σ)
set_option maxRecDepth 20000 in
theorem tb_X10_breaks_207 {G : Gl} {xr : Int32} {σr : Sg} (n : Nat) (σ : Sg) (h : b_X10_breaks_207 n σ = some (xr, σr)) : RN G M_X10_breaks 207 [] [] σ (.inl (some (.int xr))) σr := by
  unfold b_X10_breaks_207 at h
  refine RN_iconst (pc := 207) (n := 0) (v := 0) (by decide +kernel) (by decide) ?_
  obtain ⟨rfl, rfl⟩ := some_el2 h
  exact RN_zreturn (by decide +kernel) rfl (Or.inl rfl)
def b_X10_breaks_242 (n : Nat) (σ : Sg) : Option (Int32 × Sg) :=
  some ((0 : Int32), σ)
set_option maxRecDepth 20000 in
theorem tb_X10_breaks_242 {G : Gl} {xr : Int32} {σr : Sg} (n : Nat) (σ : Sg) (h : b_X10_breaks_242 n σ = some (xr, σr)) : RN G M_X10_breaks 242 [] [] σ (.inl (some (.int xr))) σr := by
  unfold b_X10_breaks_242 at h
  refine RN_iconst (pc := 242) (n := 0) (v := 0) (by decide +kernel) (by decide) ?_
  obtain ⟨rfl, rfl⟩ := some_el2 h
  exact RN_zreturn (by decide +kernel) rfl (Or.inl rfl)
def b_X10_breaks_36 (n : Nat) (v0 : Nat) (v1 : Nat) (v2 : Nat) (v3 : Nat) (v4 : Int32) (v5 : Int32) (s0 : Int32) (σ : Sg) : Option (Int32 × Sg) :=
  if v4 = 0 then (
    if s0 = 0 then (
      b_X10_breaks_104 n σ)
    else (
      ck (okO σ v0 9) <|
      ck (¬ gR σ v0 0 = 0) <|
      nm (gR σ v0 0) fun r127 =>
      ck (okO σ r127 4) <|
      ck (¬ gR σ r127 1 = 0) <|
      nm (gR σ r127 1) fun r130 =>
      ck (okO σ r130 3) <|
      bp (f_X4_total n r130 σ) fun x133 =>
      if x133 = (0 : Int64) then (
        b_X10_breaks_104 n σ)
      else (
        some ((1 : Int32), σ))))
  else (
  if v4 = 1 then (
    ck (okO σ v0 9) <|
    ck (¬ gR σ v0 1 = 0) <|
    nm (gR σ v0 1) fun r138 =>
    ck (okO σ r138 4) <|
    ck (¬ gR σ r138 0 = 0) <|
    nm (gR σ r138 0) fun r141 =>
    if v4 = (1 : Int32) then (
      b_X10_breaks_127 n v0 v1 v3 v4 s0 (-v5) r141 σ)
    else (
      b_X10_breaks_127 n v0 v1 v3 v4 s0 v5 r141 σ))
  else (
  if v4 = 2 then (
    ck (okO σ v0 9) <|
    ck (¬ gR σ v0 1 = 0) <|
    nm (gR σ v0 1) fun r168 =>
    ck (okO σ r168 4) <|
    ck (¬ gR σ r168 0 = 0) <|
    nm (gR σ r168 0) fun r171 =>
    if v4 = (1 : Int32) then (
      b_X10_breaks_127 n v0 v1 v3 v4 s0 (-v5) r171 σ)
    else (
      b_X10_breaks_127 n v0 v1 v3 v4 s0 v5 r171 σ))
  else (
  if v4 = 3 then (
    if s0 = 0 then (
      b_X10_breaks_207 n σ)
    else (
      ck (okO σ v0 9) <|
      ck (¬ gR σ v0 0 = 0) <|
      nm (gR σ v0 0) fun r177 =>
      ck (okO σ r177 4) <|
      ck (¬ gR σ r177 2 = 0) <|
      nm (gR σ r177 2) fun r180 =>
      ck (okO σ r180 6) <|
      if (gI σ r180 1) = 0 then (
        b_X10_breaks_207 n σ)
      else (
        nm (gR σ v0 0) fun r183 =>
        ck (okO σ r183 4) <|
        ck (¬ gR σ r183 2 = 0) <|
        nm (gR σ r183 2) fun r186 =>
        ck (okO σ r186 6) <|
        bp (f_X7_strays n r186 σ) fun x189 =>
        if x189 = 0 then (
          b_X10_breaks_207 n σ)
        else (
          some ((1 : Int32), σ)))))
  else (
  if v4 = 4 then (
    if s0 = 0 then (
      some ((1 : Int32), σ))
    else (
      some ((0 : Int32), σ)))
  else (
  if v4 = 5 then (
    if s0 = 0 then (
      b_X10_breaks_242 n σ)
    else (
      ck (okO σ v0 9) <|
      ck (¬ gR σ v0 0 = 0) <|
      nm (gR σ v0 0) fun r197 =>
      ck (okO σ r197 4) <|
      ck (¬ gR σ r197 1 = 0) <|
      nm (gR σ r197 1) fun r200 =>
      ck (okO σ r200 3) <|
      if (gI σ r200 1) ≤ 0 then (
        b_X10_breaks_242 n σ)
      else (
        some ((1 : Int32), σ))))
  else (
    if s0 = 0 then (
      some ((0 : Int32), σ))
    else (
      ck (okO σ v0 9) <|
      ck (¬ gR σ v0 2 = 0) <|
      nm (gR σ v0 2) fun r206 =>
      ck (okO σ r206 2) <|
      bp (f_X2_perform n r206 v2 v1 v5 σ) fun σ209 =>
      ck (okO σ209 v0 9) <|
      ck (¬ gR σ209 v0 0 = 0) <|
      nm (gR σ209 v0 0) fun r212 =>
      ck (okO σ209 r212 4) <|
      ck (¬ gR σ209 r212 1 = 0) <|
      nm (gR σ209 r212 1) fun r215 =>
      ck (¬ gR σ209 v0 2 = 0) <|
      nm (gR σ209 v0 2) fun r217 =>
      ck (okO σ209 r217 2) <|
      ck (¬ gR σ209 r217 0 = 0) <|
      nm (gR σ209 r217 0) fun r220 =>
      ck (okO σ209 r215 3) <|
      bp (f_X4_matches n r215 r220 (1 : Int32) σ209) fun x223 =>
      if x223 = 0 then (
        some ((1 : Int32), σ209))
      else (
        some ((0 : Int32), σ209)))))))))
set_option maxRecDepth 20000 in
theorem tb_X10_breaks_36 {G : Gl} {xr : Int32} {σr : Sg} (n : Nat) (v0 : Nat) (v1 : Nat) (v2 : Nat) (v3 : Nat) (v4 : Int32) (v5 : Int32) (s0 : Int32) (σ : Sg) (h : b_X10_breaks_36 n v0 v1 v2 v3 v4 v5 s0 σ = some (xr, σr)) : RN G M_X10_breaks 36 [some (.ref v0), some (.ref v1), some (.ref v2), some (.ref v3), some (.int v4), some (.int v5)] [.int s0] σ (.inl (some (.int xr))) σr := by
  unfold b_X10_breaks_36 at h
  refine RN_istore (pc := 36) (i := 6) (ls2 := [some (.ref v0), some (.ref v1), some (.ref v2), some (.ref v3), some (.int v4), some (.int v5), some (.int s0)]) (by decide +kernel) (by decide) rfl ?_
  refine RN_iload (pc := 38) (i := 4) (by decide +kernel) rfl ?_
  by_cases c123 : v4 = 0
  · replace h := it_t c123 h
    refine RN_tsw (pc := 40) (dflt := 204) (lo := 0) (hi := 5) (offs := #[40, 66, 66, 132, 169, 180]) (len := 40) (v := 0) (off := 40) (tgt := 80) c123 (by decide +kernel) (by decide) (by decide) (by decide +kernel) (by decide) ?_
    refine RN_iload (pc := 80) (i := 6) (by decide +kernel) rfl ?_
    refine RN_if_eq (pc := 82) (off := 22) (tgt := 104) (by decide +kernel) (by decide) (fun c124 => ?_) (fun c124 => ?_)
    · replace h := it_t c124 h
      exact RN_weak (l := []) trivial (tb_X10_breaks_104 n  σ h)
    · replace h := it_f c124 h
      refine RN_aload_n (pc := 85) (k := 0) (by decide +kernel) rfl rfl ?_
      obtain ⟨c125, h⟩ := ck_el h
      obtain ⟨c126, h⟩ := ck_el h
      refine RN_getR (pc := 86) (idx := 12) (ci := 9) (k := 0) (by decide +kernel) lf_RX10_12 rfl c125 c126 ?_
      obtain ⟨r127, er127, h⟩ := nm_el h
      refine RN_nmR er127 ?_
      obtain ⟨c128, h⟩ := ck_el h
      obtain ⟨c129, h⟩ := ck_el h
      refine RN_getR (pc := 89) (idx := 54) (ci := 4) (k := 1) (by decide +kernel) lf_RX10_54 rfl c128 c129 ?_
      obtain ⟨r130, er130, h⟩ := nm_el h
      refine RN_nmR er130 ?_
      obtain ⟨c131, h⟩ := ck_el h
      obtain ⟨x133, f132, h⟩ := bp_el h
      refine RN_callV (M := M_X10_breaks) (pc := 92) (idx := 58) (as := []) (st := []) (t_X4_total f132) (by decide +kernel) lk_RX10_58 rfl ⟨by decide, fun q hq => by cases hq; rfl⟩ c131 (Nat.le_of_ble_eq_true rfl) ⟨Nat.le_of_ble_eq_true rfl, Nat.le_of_ble_eq_true rfl⟩ rfl ?_
      show RN G M_X10_breaks 95 [some (.ref v0), some (.ref v1), some (.ref v2), some (.ref v3), some (.int v4), some (.int v5), some (.int s0)] [.long x133] σ _ _
      refine RN_lconst (pc := 95) (n := 0) (v := 0) (by decide +kernel) (by decide) ?_
      refine RN_lc_eq (pc := 96) (off := 7) (tgt := 104) (by decide +kernel) (by decide +kernel) (by decide) (fun c134 => ?_) (fun c134 => ?_)
      · replace h := it_t c134 h
        exact RN_weak (l := []) trivial (tb_X10_breaks_104 n  σ h)
      · replace h := it_f c134 h
        refine RN_iconst (pc := 100) (n := 1) (v := 1) (by decide +kernel) (by decide) ?_
        refine RN_goto (pc := 101) (off := 4) (tgt := 105) (by decide +kernel) (by decide) ?_
        obtain ⟨rfl, rfl⟩ := some_el2 h
        exact RN_zreturn (by decide +kernel) rfl (Or.inr rfl)
  · replace h := it_f c123 h
    by_cases c135 : v4 = 1
    · replace h := it_t c135 h
      refine RN_tsw (pc := 40) (dflt := 204) (lo := 0) (hi := 5) (offs := #[40, 66, 66, 132, 169, 180]) (len := 40) (v := 1) (off := 66) (tgt := 106) c135 (by decide +kernel) (by decide) (by decide) (by decide +kernel) (by decide) ?_
      refine RN_aload_n (pc := 106) (k := 0) (by decide +kernel) rfl rfl ?_
      obtain ⟨c136, h⟩ := ck_el h
      obtain ⟨c137, h⟩ := ck_el h
      refine RN_getR (pc := 107) (idx := 18) (ci := 9) (k := 1) (by decide +kernel) lf_RX10_18 rfl c136 c137 ?_
      obtain ⟨r138, er138, h⟩ := nm_el h
      refine RN_nmR er138 ?_
      obtain ⟨c139, h⟩ := ck_el h
      obtain ⟨c140, h⟩ := ck_el h
      refine RN_getR (pc := 110) (idx := 37) (ci := 4) (k := 0) (by decide +kernel) lf_RX10_37 rfl c139 c140 ?_
      obtain ⟨r141, er141, h⟩ := nm_el h
      refine RN_nmR er141 ?_
      refine RN_iload (pc := 113) (i := 4) (by decide +kernel) rfl ?_
      refine RN_iconst (pc := 115) (n := 1) (v := 1) (by decide +kernel) (by decide) ?_
      refine RN_icmp_ne (pc := 116) (off := 9) (tgt := 125) (by decide +kernel) (by decide) (fun c142 => ?_) (fun c142 => ?_)
      · replace h := it_f c142 h
        refine RN_iload (pc := 125) (i := 5) (by decide +kernel) rfl ?_
        exact RN_weak (l := [some (.ref v0), some (.ref v1), none, some (.ref v3), some (.int v4), none, some (.int s0)]) (And.intro rfl (And.intro rfl (And.intro rfl (And.intro rfl (And.intro rfl trivial))))) (tb_X10_breaks_127 n v0 v1 v3 v4 s0 v5 r141 σ h)
      · replace h := it_t c142 h
        refine RN_iload (pc := 119) (i := 5) (by decide +kernel) rfl ?_
        refine RN_ineg (pc := 121) (by decide +kernel) ?_
        refine RN_goto (pc := 122) (off := 5) (tgt := 127) (by decide +kernel) (by decide) ?_
        exact RN_weak (l := [some (.ref v0), some (.ref v1), none, some (.ref v3), some (.int v4), none, some (.int s0)]) (And.intro rfl (And.intro rfl (And.intro rfl (And.intro rfl (And.intro rfl trivial))))) (tb_X10_breaks_127 n v0 v1 v3 v4 s0 (-v5) r141 σ h)
    · replace h := it_f c135 h
      by_cases c165 : v4 = 2
      · replace h := it_t c165 h
        refine RN_tsw (pc := 40) (dflt := 204) (lo := 0) (hi := 5) (offs := #[40, 66, 66, 132, 169, 180]) (len := 40) (v := 2) (off := 66) (tgt := 106) c165 (by decide +kernel) (by decide) (by decide) (by decide +kernel) (by decide) ?_
        refine RN_aload_n (pc := 106) (k := 0) (by decide +kernel) rfl rfl ?_
        obtain ⟨c166, h⟩ := ck_el h
        obtain ⟨c167, h⟩ := ck_el h
        refine RN_getR (pc := 107) (idx := 18) (ci := 9) (k := 1) (by decide +kernel) lf_RX10_18 rfl c166 c167 ?_
        obtain ⟨r168, er168, h⟩ := nm_el h
        refine RN_nmR er168 ?_
        obtain ⟨c169, h⟩ := ck_el h
        obtain ⟨c170, h⟩ := ck_el h
        refine RN_getR (pc := 110) (idx := 37) (ci := 4) (k := 0) (by decide +kernel) lf_RX10_37 rfl c169 c170 ?_
        obtain ⟨r171, er171, h⟩ := nm_el h
        refine RN_nmR er171 ?_
        refine RN_iload (pc := 113) (i := 4) (by decide +kernel) rfl ?_
        refine RN_iconst (pc := 115) (n := 1) (v := 1) (by decide +kernel) (by decide) ?_
        refine RN_icmp_ne (pc := 116) (off := 9) (tgt := 125) (by decide +kernel) (by decide) (fun c172 => ?_) (fun c172 => ?_)
        · replace h := it_f c172 h
          refine RN_iload (pc := 125) (i := 5) (by decide +kernel) rfl ?_
          exact RN_weak (l := [some (.ref v0), some (.ref v1), none, some (.ref v3), some (.int v4), none, some (.int s0)]) (And.intro rfl (And.intro rfl (And.intro rfl (And.intro rfl (And.intro rfl trivial))))) (tb_X10_breaks_127 n v0 v1 v3 v4 s0 v5 r171 σ h)
        · replace h := it_t c172 h
          refine RN_iload (pc := 119) (i := 5) (by decide +kernel) rfl ?_
          refine RN_ineg (pc := 121) (by decide +kernel) ?_
          refine RN_goto (pc := 122) (off := 5) (tgt := 127) (by decide +kernel) (by decide) ?_
          exact RN_weak (l := [some (.ref v0), some (.ref v1), none, some (.ref v3), some (.int v4), none, some (.int s0)]) (And.intro rfl (And.intro rfl (And.intro rfl (And.intro rfl (And.intro rfl trivial))))) (tb_X10_breaks_127 n v0 v1 v3 v4 s0 (-v5) r171 σ h)
      · replace h := it_f c165 h
        by_cases c173 : v4 = 3
        · replace h := it_t c173 h
          refine RN_tsw (pc := 40) (dflt := 204) (lo := 0) (hi := 5) (offs := #[40, 66, 66, 132, 169, 180]) (len := 40) (v := 3) (off := 132) (tgt := 172) c173 (by decide +kernel) (by decide) (by decide) (by decide +kernel) (by decide) ?_
          refine RN_iload (pc := 172) (i := 6) (by decide +kernel) rfl ?_
          refine RN_if_eq (pc := 174) (off := 33) (tgt := 207) (by decide +kernel) (by decide) (fun c174 => ?_) (fun c174 => ?_)
          · replace h := it_t c174 h
            exact RN_weak (l := []) trivial (tb_X10_breaks_207 n  σ h)
          · replace h := it_f c174 h
            refine RN_aload_n (pc := 177) (k := 0) (by decide +kernel) rfl rfl ?_
            obtain ⟨c175, h⟩ := ck_el h
            obtain ⟨c176, h⟩ := ck_el h
            refine RN_getR (pc := 178) (idx := 12) (ci := 9) (k := 0) (by decide +kernel) lf_RX10_12 rfl c175 c176 ?_
            obtain ⟨r177, er177, h⟩ := nm_el h
            refine RN_nmR er177 ?_
            obtain ⟨c178, h⟩ := ck_el h
            obtain ⟨c179, h⟩ := ck_el h
            refine RN_getR (pc := 181) (idx := 68) (ci := 4) (k := 2) (by decide +kernel) lf_RX10_68 rfl c178 c179 ?_
            obtain ⟨r180, er180, h⟩ := nm_el h
            refine RN_nmR er180 ?_
            obtain ⟨c181, h⟩ := ck_el h
            refine RN_getI (pc := 184) (idx := 72) (ci := 6) (k := 1) (by decide +kernel) lf_RX10_72 (Or.inr rfl) c181 ?_
            refine RN_if_eq (pc := 187) (off := 20) (tgt := 207) (by decide +kernel) (by decide) (fun c182 => ?_) (fun c182 => ?_)
            · replace h := it_t c182 h
              exact RN_weak (l := []) trivial (tb_X10_breaks_207 n  σ h)
            · replace h := it_f c182 h
              refine RN_aload_n (pc := 190) (k := 0) (by decide +kernel) rfl rfl ?_
              refine RN_getR (pc := 191) (idx := 12) (ci := 9) (k := 0) (by decide +kernel) lf_RX10_12 rfl c175 c176 ?_
              obtain ⟨r183, er183, h⟩ := nm_el h
              refine RN_nmR er183 ?_
              obtain ⟨c184, h⟩ := ck_el h
              obtain ⟨c185, h⟩ := ck_el h
              refine RN_getR (pc := 194) (idx := 68) (ci := 4) (k := 2) (by decide +kernel) lf_RX10_68 rfl c184 c185 ?_
              obtain ⟨r186, er186, h⟩ := nm_el h
              refine RN_nmR er186 ?_
              obtain ⟨c187, h⟩ := ck_el h
              obtain ⟨x189, f188, h⟩ := bp_el h
              refine RN_callV (M := M_X10_breaks) (pc := 197) (idx := 78) (as := []) (st := []) (t_X7_strays f188) (by decide +kernel) lk_RX10_78 rfl ⟨by decide, fun q hq => by cases hq; rfl⟩ c187 (Nat.le_of_ble_eq_true rfl) ⟨Nat.le_of_ble_eq_true rfl, Nat.le_of_ble_eq_true rfl⟩ rfl ?_
              show RN G M_X10_breaks 200 [some (.ref v0), some (.ref v1), some (.ref v2), some (.ref v3), some (.int v4), some (.int v5), some (.int s0)] [.int x189] σ _ _
              refine RN_if_eq (pc := 200) (off := 7) (tgt := 207) (by decide +kernel) (by decide) (fun c190 => ?_) (fun c190 => ?_)
              · replace h := it_t c190 h
                exact RN_weak (l := []) trivial (tb_X10_breaks_207 n  σ h)
              · replace h := it_f c190 h
                refine RN_iconst (pc := 203) (n := 1) (v := 1) (by decide +kernel) (by decide) ?_
                refine RN_goto (pc := 204) (off := 4) (tgt := 208) (by decide +kernel) (by decide) ?_
                obtain ⟨rfl, rfl⟩ := some_el2 h
                exact RN_zreturn (by decide +kernel) rfl (Or.inr rfl)
        · replace h := it_f c173 h
          by_cases c191 : v4 = 4
          · replace h := it_t c191 h
            refine RN_tsw (pc := 40) (dflt := 204) (lo := 0) (hi := 5) (offs := #[40, 66, 66, 132, 169, 180]) (len := 40) (v := 4) (off := 169) (tgt := 209) c191 (by decide +kernel) (by decide) (by decide) (by decide +kernel) (by decide) ?_
            refine RN_iload (pc := 209) (i := 6) (by decide +kernel) rfl ?_
            refine RN_if_ne (pc := 211) (off := 7) (tgt := 218) (by decide +kernel) (by decide) (fun c192 => ?_) (fun c192 => ?_)
            · replace h := it_f c192 h
              refine RN_iconst (pc := 218) (n := 0) (v := 0) (by decide +kernel) (by decide) ?_
              obtain ⟨rfl, rfl⟩ := some_el2 h
              exact RN_zreturn (by decide +kernel) rfl (Or.inl rfl)
            · replace h := it_t c192 h
              refine RN_iconst (pc := 214) (n := 1) (v := 1) (by decide +kernel) (by decide) ?_
              refine RN_goto (pc := 215) (off := 4) (tgt := 219) (by decide +kernel) (by decide) ?_
              obtain ⟨rfl, rfl⟩ := some_el2 h
              exact RN_zreturn (by decide +kernel) rfl (Or.inr rfl)
          · replace h := it_f c191 h
            by_cases c193 : v4 = 5
            · replace h := it_t c193 h
              refine RN_tsw (pc := 40) (dflt := 204) (lo := 0) (hi := 5) (offs := #[40, 66, 66, 132, 169, 180]) (len := 40) (v := 5) (off := 180) (tgt := 220) c193 (by decide +kernel) (by decide) (by decide) (by decide +kernel) (by decide) ?_
              refine RN_iload (pc := 220) (i := 6) (by decide +kernel) rfl ?_
              refine RN_if_eq (pc := 222) (off := 20) (tgt := 242) (by decide +kernel) (by decide) (fun c194 => ?_) (fun c194 => ?_)
              · replace h := it_t c194 h
                exact RN_weak (l := []) trivial (tb_X10_breaks_242 n  σ h)
              · replace h := it_f c194 h
                refine RN_aload_n (pc := 225) (k := 0) (by decide +kernel) rfl rfl ?_
                obtain ⟨c195, h⟩ := ck_el h
                obtain ⟨c196, h⟩ := ck_el h
                refine RN_getR (pc := 226) (idx := 12) (ci := 9) (k := 0) (by decide +kernel) lf_RX10_12 rfl c195 c196 ?_
                obtain ⟨r197, er197, h⟩ := nm_el h
                refine RN_nmR er197 ?_
                obtain ⟨c198, h⟩ := ck_el h
                obtain ⟨c199, h⟩ := ck_el h
                refine RN_getR (pc := 229) (idx := 54) (ci := 4) (k := 1) (by decide +kernel) lf_RX10_54 rfl c198 c199 ?_
                obtain ⟨r200, er200, h⟩ := nm_el h
                refine RN_nmR er200 ?_
                obtain ⟨c201, h⟩ := ck_el h
                refine RN_getI (pc := 232) (idx := 82) (ci := 3) (k := 1) (by decide +kernel) lf_RX10_82 (Or.inl rfl) c201 ?_
                refine RN_if_le (pc := 235) (off := 7) (tgt := 242) (by decide +kernel) (by decide) (fun c202 => ?_) (fun c202 => ?_)
                · replace h := it_t c202 h
                  exact RN_weak (l := []) trivial (tb_X10_breaks_242 n  σ h)
                · replace h := it_f c202 h
                  refine RN_iconst (pc := 238) (n := 1) (v := 1) (by decide +kernel) (by decide) ?_
                  refine RN_goto (pc := 239) (off := 4) (tgt := 243) (by decide +kernel) (by decide) ?_
                  obtain ⟨rfl, rfl⟩ := some_el2 h
                  exact RN_zreturn (by decide +kernel) rfl (Or.inr rfl)
            · replace h := it_f c193 h
              refine RN_tableOut (pc := 40) (dflt := 204) (lo := 0) (hi := 5) (offs := #[40, 66, 66, 132, 169, 180]) (len := 40) (tgt := 244) (by decide +kernel) (tsw_s (hi := 4) (hi' := 5) (tsw_s (hi := 3) (hi' := 4) (tsw_s (hi := 2) (hi' := 3) (tsw_s (hi := 1) (hi' := 2) (tsw_s (hi := 0) (hi' := 1) (tsw_s (hi := -1) (hi' := 0) (tsw_0 (0)) (by decide) (by decide) c123) (by decide) (by decide) c135) (by decide) (by decide) c165) (by decide) (by decide) c173) (by decide) (by decide) c191) (by decide) (by decide) c193) (by decide) ?_
              refine RN_iload (pc := 244) (i := 6) (by decide +kernel) rfl ?_
              refine RN_if_ne (pc := 246) (off := 5) (tgt := 251) (by decide +kernel) (by decide) (fun c203 => ?_) (fun c203 => ?_)
              · replace h := it_f c203 h
                refine RN_aload_n (pc := 251) (k := 0) (by decide +kernel) rfl rfl ?_
                obtain ⟨c204, h⟩ := ck_el h
                obtain ⟨c205, h⟩ := ck_el h
                refine RN_getR (pc := 252) (idx := 24) (ci := 9) (k := 2) (by decide +kernel) lf_RX10_24 rfl c204 c205 ?_
                obtain ⟨r206, er206, h⟩ := nm_el h
                refine RN_nmR er206 ?_
                refine RN_aload_n (pc := 255) (k := 2) (by decide +kernel) rfl rfl ?_
                refine RN_aload_n (pc := 256) (k := 1) (by decide +kernel) rfl rfl ?_
                refine RN_iload (pc := 257) (i := 5) (by decide +kernel) rfl ?_
                obtain ⟨c207, h⟩ := ck_el h
                obtain ⟨σ209, f208, h⟩ := bp_el h
                refine RN_callV (M := M_X10_breaks) (pc := 259) (idx := 86) (as := [.ref v2, .ref v1, .int v5]) (st := []) (t_X2_perform f208) (by decide +kernel) lk_RX10_86 rfl ⟨by decide, fun q hq => by cases hq; rfl⟩ c207 (Nat.le_of_ble_eq_true rfl) ⟨Nat.le_of_ble_eq_true rfl, Nat.le_of_ble_eq_true rfl⟩ rfl ?_
                show RN G M_X10_breaks 262 [some (.ref v0), some (.ref v1), some (.ref v2), some (.ref v3), some (.int v4), some (.int v5), some (.int s0)] [] σ209 _ _
                refine RN_aload_n (pc := 262) (k := 0) (by decide +kernel) rfl rfl ?_
                obtain ⟨c210, h⟩ := ck_el h
                obtain ⟨c211, h⟩ := ck_el h
                refine RN_getR (pc := 263) (idx := 12) (ci := 9) (k := 0) (by decide +kernel) lf_RX10_12 rfl c210 c211 ?_
                obtain ⟨r212, er212, h⟩ := nm_el h
                refine RN_nmR er212 ?_
                obtain ⟨c213, h⟩ := ck_el h
                obtain ⟨c214, h⟩ := ck_el h
                refine RN_getR (pc := 266) (idx := 54) (ci := 4) (k := 1) (by decide +kernel) lf_RX10_54 rfl c213 c214 ?_
                obtain ⟨r215, er215, h⟩ := nm_el h
                refine RN_nmR er215 ?_
                refine RN_aload_n (pc := 269) (k := 0) (by decide +kernel) rfl rfl ?_
                obtain ⟨c216, h⟩ := ck_el h
                refine RN_getR (pc := 270) (idx := 24) (ci := 9) (k := 2) (by decide +kernel) lf_RX10_24 rfl c210 c216 ?_
                obtain ⟨r217, er217, h⟩ := nm_el h
                refine RN_nmR er217 ?_
                obtain ⟨c218, h⟩ := ck_el h
                obtain ⟨c219, h⟩ := ck_el h
                refine RN_getR (pc := 273) (idx := 89) (ci := 2) (k := 0) (by decide +kernel) lf_RX10_89 rfl c218 c219 ?_
                obtain ⟨r220, er220, h⟩ := nm_el h
                refine RN_nmR er220 ?_
                refine RN_iconst (pc := 276) (n := 1) (v := 1) (by decide +kernel) (by decide) ?_
                obtain ⟨c221, h⟩ := ck_el h
                obtain ⟨x223, f222, h⟩ := bp_el h
                refine RN_callV (M := M_X10_breaks) (pc := 277) (idx := 90) (as := [.ref r220, .int (1 : Int32)]) (st := []) (t_X4_matches f222) (by decide +kernel) lk_RX10_90 rfl ⟨by decide, fun q hq => by cases hq; rfl⟩ c221 (Nat.le_of_ble_eq_true rfl) ⟨Nat.le_of_ble_eq_true rfl, Nat.le_of_ble_eq_true rfl⟩ rfl ?_
                show RN G M_X10_breaks 280 [some (.ref v0), some (.ref v1), some (.ref v2), some (.ref v3), some (.int v4), some (.int v5), some (.int s0)] [.int x223] σ209 _ _
                refine RN_if_ne (pc := 280) (off := 7) (tgt := 287) (by decide +kernel) (by decide) (fun c224 => ?_) (fun c224 => ?_)
                · replace h := it_f c224 h
                  refine RN_iconst (pc := 287) (n := 0) (v := 0) (by decide +kernel) (by decide) ?_
                  obtain ⟨rfl, rfl⟩ := some_el2 h
                  exact RN_zreturn (by decide +kernel) rfl (Or.inl rfl)
                · replace h := it_t c224 h
                  refine RN_iconst (pc := 283) (n := 1) (v := 1) (by decide +kernel) (by decide) ?_
                  refine RN_goto (pc := 284) (off := 4) (tgt := 288) (by decide +kernel) (by decide) ?_
                  obtain ⟨rfl, rfl⟩ := some_el2 h
                  exact RN_zreturn (by decide +kernel) rfl (Or.inr rfl)
              · replace h := it_t c203 h
                refine RN_iconst (pc := 249) (n := 0) (v := 0) (by decide +kernel) (by decide) ?_
                obtain ⟨rfl, rfl⟩ := some_el2 h
                exact RN_zreturn (by decide +kernel) rfl (Or.inl rfl)
def f_X10_breaks (n : Nat) (v0 : Nat) (v1 : Nat) (v2 : Nat) (v3 : Nat) (v4 : Int32) (v5 : Int32) (σ : Sg) : Option (Int32 × Sg) :=
  ck (okO σ v0 9) <|
  ck (¬ gR σ v0 0 = 0) <|
  nm (gR σ v0 0) fun r102 =>
  ck (okO σ r102 4) <|
  ck (¬ gR σ r102 0 = 0) <|
  nm (gR σ r102 0) fun r105 =>
  ck (okO σ r105 0) <|
  bp (f_X0_becomeOneLine r105 v5 σ) fun σ108 =>
  ck (okO σ108 v0 9) <|
  ck (¬ gR σ108 v0 0 = 0) <|
  nm (gR σ108 v0 0) fun r111 =>
  ck (okO σ108 r111 4) <|
  bp (f_X5_startAfresh n r111 σ108) fun σ114 =>
  ck (okO σ114 v0 9) <|
  ck (¬ gR σ114 v0 0 = 0) <|
  nm (gR σ114 v0 0) fun r117 =>
  ck (okO σ114 r117 4) <|
  bd (f_X5_perform n r117 v2 v1 σ114) fun x121 σ120 =>
  if x121 = 0 then (
    b_X10_breaks_36 n v0 v1 v2 v3 v4 v5 (1 : Int32) σ120)
  else (
    b_X10_breaks_36 n v0 v1 v2 v3 v4 v5 (0 : Int32) σ120)
set_option maxRecDepth 20000 in
theorem t_X10_breaks {G : Gl} {xr : Int32} {σr : Sg} {n : Nat} {v0 : Nat} {v1 : Nat} {v2 : Nat} {v3 : Nat} {v4 : Int32} {v5 : Int32} {σ : Sg} (h : f_X10_breaks n v0 v1 v2 v3 v4 v5 σ = some (xr, σr)) : MT G M_X10_breaks [.ref v0, .ref v1, .ref v2, .ref v3, .int v4, .int v5] σ (some (.int xr)) σr := by
  refine MT_of rfl rfl (Nat.le_of_ble_eq_true rfl) ?_
  show RN G M_X10_breaks 0 [some (.ref v0), some (.ref v1), some (.ref v2), some (.ref v3), some (.int v4), some (.int v5)] [] σ (.inl (some (.int xr))) σr
  unfold f_X10_breaks at h
  refine RN_aload_n (pc := 0) (k := 0) (by decide +kernel) rfl rfl ?_
  obtain ⟨c100, h⟩ := ck_el h
  obtain ⟨c101, h⟩ := ck_el h
  refine RN_getR (pc := 1) (idx := 12) (ci := 9) (k := 0) (by decide +kernel) lf_RX10_12 rfl c100 c101 ?_
  obtain ⟨r102, er102, h⟩ := nm_el h
  refine RN_nmR er102 ?_
  obtain ⟨c103, h⟩ := ck_el h
  obtain ⟨c104, h⟩ := ck_el h
  refine RN_getR (pc := 4) (idx := 37) (ci := 4) (k := 0) (by decide +kernel) lf_RX10_37 rfl c103 c104 ?_
  obtain ⟨r105, er105, h⟩ := nm_el h
  refine RN_nmR er105 ?_
  refine RN_iload (pc := 7) (i := 5) (by decide +kernel) rfl ?_
  obtain ⟨c106, h⟩ := ck_el h
  obtain ⟨σ108, f107, h⟩ := bp_el h
  refine RN_callV (M := M_X10_breaks) (pc := 9) (idx := 41) (as := [.int v5]) (st := []) (t_X0_becomeOneLine f107) (by decide +kernel) lk_RX10_41 rfl ⟨by decide, fun q hq => by cases hq; rfl⟩ c106 (Nat.le_of_ble_eq_true rfl) ⟨Nat.le_of_ble_eq_true rfl, Nat.le_of_ble_eq_true rfl⟩ rfl ?_
  show RN G M_X10_breaks 12 [some (.ref v0), some (.ref v1), some (.ref v2), some (.ref v3), some (.int v4), some (.int v5)] [] σ108 _ _
  refine RN_aload_n (pc := 12) (k := 0) (by decide +kernel) rfl rfl ?_
  obtain ⟨c109, h⟩ := ck_el h
  obtain ⟨c110, h⟩ := ck_el h
  refine RN_getR (pc := 13) (idx := 12) (ci := 9) (k := 0) (by decide +kernel) lf_RX10_12 rfl c109 c110 ?_
  obtain ⟨r111, er111, h⟩ := nm_el h
  refine RN_nmR er111 ?_
  obtain ⟨c112, h⟩ := ck_el h
  obtain ⟨σ114, f113, h⟩ := bp_el h
  refine RN_callV (M := M_X10_breaks) (pc := 16) (idx := 47) (as := []) (st := []) (t_X5_startAfresh f113) (by decide +kernel) lk_RX10_47 rfl ⟨by decide, fun q hq => by cases hq; rfl⟩ c112 (Nat.le_of_ble_eq_true rfl) ⟨Nat.le_of_ble_eq_true rfl, Nat.le_of_ble_eq_true rfl⟩ rfl ?_
  show RN G M_X10_breaks 19 [some (.ref v0), some (.ref v1), some (.ref v2), some (.ref v3), some (.int v4), some (.int v5)] [] σ114 _ _
  refine RN_aload_n (pc := 19) (k := 0) (by decide +kernel) rfl rfl ?_
  obtain ⟨c115, h⟩ := ck_el h
  obtain ⟨c116, h⟩ := ck_el h
  refine RN_getR (pc := 20) (idx := 12) (ci := 9) (k := 0) (by decide +kernel) lf_RX10_12 rfl c115 c116 ?_
  obtain ⟨r117, er117, h⟩ := nm_el h
  refine RN_nmR er117 ?_
  refine RN_aload_n (pc := 23) (k := 2) (by decide +kernel) rfl rfl ?_
  refine RN_aload_n (pc := 24) (k := 1) (by decide +kernel) rfl rfl ?_
  obtain ⟨c118, h⟩ := ck_el h
  obtain ⟨x121, σ120, f119, h⟩ := bd_el h
  refine RN_callV (M := M_X10_breaks) (pc := 25) (idx := 50) (as := [.ref v2, .ref v1]) (st := []) (t_X5_perform f119) (by decide +kernel) lk_RX10_50 rfl ⟨by decide, fun q hq => by cases hq; rfl⟩ c118 (Nat.le_of_ble_eq_true rfl) ⟨Nat.le_of_ble_eq_true rfl, Nat.le_of_ble_eq_true rfl⟩ rfl ?_
  show RN G M_X10_breaks 28 [some (.ref v0), some (.ref v1), some (.ref v2), some (.ref v3), some (.int v4), some (.int v5)] [.int x121] σ120 _ _
  refine RN_if_ne (pc := 28) (off := 7) (tgt := 35) (by decide +kernel) (by decide) (fun c122 => ?_) (fun c122 => ?_)
  · replace h := it_f c122 h
    refine RN_iconst (pc := 35) (n := 0) (v := 0) (by decide +kernel) (by decide) ?_
    exact RN_weak (l := [some (.ref v0), some (.ref v1), some (.ref v2), some (.ref v3), some (.int v4), some (.int v5)]) (And.intro rfl (And.intro rfl (And.intro rfl (And.intro rfl (And.intro rfl (And.intro rfl trivial)))))) (tb_X10_breaks_36 n v0 v1 v2 v3 v4 v5 (0 : Int32) σ120 h)
  · replace h := it_t c122 h
    refine RN_iconst (pc := 31) (n := 1) (v := 1) (by decide +kernel) (by decide) ?_
    refine RN_goto (pc := 32) (off := 4) (tgt := 36) (by decide +kernel) (by decide) ?_
    exact RN_weak (l := [some (.ref v0), some (.ref v1), some (.ref v2), some (.ref v3), some (.int v4), some (.int v5)]) (And.intro rfl (And.intro rfl (And.intro rfl (And.intro rfl (And.intro rfl (And.intro rfl trivial)))))) (tb_X10_breaks_36 n v0 v1 v2 v3 v4 v5 (1 : Int32) σ120 h)
def b_X10_firstBreak_4 : Nat → Nat → Nat → Nat → Nat → Int32 → Int32 → Int32 → Sg → Option (Int32 × Sg)
  | 0, _, _, _, _, _, _, _, _ => none
  | n + 1, v0, v1, v2, v3, v4, v6, v7, σ =>
  if v6 < v7 then (
    some ((9999999 : Int32), σ))
  else (
    ck (okO σ v0 9) <|
    bd (f_X10_breaks n v0 v1 v2 v3 v4 v7 σ) fun x10 σ9 =>
    if x10 = 0 then (
      nm (v7 + (1 : Int32)) fun x12 =>
      b_X10_firstBreak_4 n v0 v1 v2 v3 v4 v6 x12 σ9)
    else (
      some (v7, σ9)))
set_option maxRecDepth 20000 in
theorem tb_X10_firstBreak_4 {G : Gl} {xr : Int32} {σr : Sg} (v0 : Nat) (v1 : Nat) (v2 : Nat) (v3 : Nat) (v4 : Int32) (v6 : Int32) : ∀ (n : Nat) (v7 : Int32) (σ : Sg), b_X10_firstBreak_4 n v0 v1 v2 v3 v4 v6 v7 σ = some (xr, σr) → RN G M_X10_firstBreak 4 [some (.ref v0), some (.ref v1), some (.ref v2), some (.ref v3), some (.int v4), none, some (.int v6), some (.int v7)] [] σ (.inl (some (.int xr))) σr := by
  intro n
  induction n with
  | zero =>
    intro v7 σ h
    exact none_el h
  | succ n ih =>
    intro v7 σ h
    rw [b_X10_firstBreak_4] at h
    refine RN_iload (pc := 4) (i := 7) (by decide +kernel) rfl ?_
    refine RN_iload (pc := 6) (i := 6) (by decide +kernel) rfl ?_
    refine RN_icmp_gt (pc := 8) (off := 26) (tgt := 34) (by decide +kernel) (by decide) (fun c6 => ?_) (fun c6 => ?_)
    · replace h := it_t c6 h
      refine RN_ldc (pc := 34) (idx := 36) (v := 9999999) (by decide +kernel) kc_RX10_36 ?_
      obtain ⟨rfl, rfl⟩ := some_el2 h
      exact RN_ireturn (by decide +kernel) rfl
    · replace h := it_f c6 h
      refine RN_aload_n (pc := 11) (k := 0) (by decide +kernel) rfl rfl ?_
      refine RN_aload_n (pc := 12) (k := 1) (by decide +kernel) rfl rfl ?_
      refine RN_aload_n (pc := 13) (k := 2) (by decide +kernel) rfl rfl ?_
      refine RN_aload_n (pc := 14) (k := 3) (by decide +kernel) rfl rfl ?_
      refine RN_iload (pc := 15) (i := 4) (by decide +kernel) rfl ?_
      refine RN_iload (pc := 17) (i := 7) (by decide +kernel) rfl ?_
      obtain ⟨c7, h⟩ := ck_el h
      obtain ⟨x10, σ9, f8, h⟩ := bd_el h
      refine RN_callV (M := M_X10_firstBreak) (pc := 19) (idx := 32) (as := [.ref v1, .ref v2, .ref v3, .int v4, .int v7]) (st := []) (t_X10_breaks f8) (by decide +kernel) lk_RX10_32 rfl ⟨by decide, fun q hq => by cases hq; rfl⟩ c7 (Nat.le_of_ble_eq_true rfl) ⟨Nat.le_of_ble_eq_true rfl, Nat.le_of_ble_eq_true rfl⟩ rfl ?_
      show RN G M_X10_firstBreak 22 [some (.ref v0), some (.ref v1), some (.ref v2), some (.ref v3), some (.int v4), none, some (.int v6), some (.int v7)] [.int x10] σ9 _ _
      refine RN_if_eq (pc := 22) (off := 6) (tgt := 28) (by decide +kernel) (by decide) (fun c11 => ?_) (fun c11 => ?_)
      · replace h := it_t c11 h
        obtain ⟨x12, ex12, h⟩ := nm_el h
        refine RN_iinc (pc := 28) (i := 7) (n := 1) (v := x12) (ls2 := [some (.ref v0), some (.ref v1), some (.ref v2), some (.ref v3), some (.int v4), none, some (.int v6), some (.int x12)]) (by decide +kernel) rfl (by rw [ex12]; rfl) (by decide) rfl ?_
        refine RN_goto (pc := 31) (off := -27) (tgt := 4) (by decide +kernel) (by decide) ?_
        exact RN_weak (l := [some (.ref v0), some (.ref v1), some (.ref v2), some (.ref v3), some (.int v4), none, some (.int v6), some (.int x12)]) (And.intro rfl (And.intro rfl (And.intro rfl (And.intro rfl (And.intro rfl (And.intro rfl (And.intro rfl trivial))))))) (ih x12 σ9 h)
      · replace h := it_f c11 h
        refine RN_iload (pc := 25) (i := 7) (by decide +kernel) rfl ?_
        obtain ⟨rfl, rfl⟩ := some_el2 h
        exact RN_ireturn (by decide +kernel) rfl
def f_X10_firstBreak (n : Nat) (v0 : Nat) (v1 : Nat) (v2 : Nat) (v3 : Nat) (v4 : Int32) (v5 : Int32) (v6 : Int32) (σ : Sg) : Option (Int32 × Sg) :=
  b_X10_firstBreak_4 n v0 v1 v2 v3 v4 v6 v5 σ
set_option maxRecDepth 20000 in
theorem t_X10_firstBreak {G : Gl} {xr : Int32} {σr : Sg} {n : Nat} {v0 : Nat} {v1 : Nat} {v2 : Nat} {v3 : Nat} {v4 : Int32} {v5 : Int32} {v6 : Int32} {σ : Sg} (h : f_X10_firstBreak n v0 v1 v2 v3 v4 v5 v6 σ = some (xr, σr)) : MT G M_X10_firstBreak [.ref v0, .ref v1, .ref v2, .ref v3, .int v4, .int v5, .int v6] σ (some (.int xr)) σr := by
  refine MT_of rfl rfl (Nat.le_of_ble_eq_true rfl) ?_
  show RN G M_X10_firstBreak 0 [some (.ref v0), some (.ref v1), some (.ref v2), some (.ref v3), some (.int v4), some (.int v5), some (.int v6)] [] σ (.inl (some (.int xr))) σr
  unfold f_X10_firstBreak at h
  refine RN_iload (pc := 0) (i := 5) (by decide +kernel) rfl ?_
  refine RN_istore (pc := 2) (i := 7) (ls2 := [some (.ref v0), some (.ref v1), some (.ref v2), some (.ref v3), some (.int v4), some (.int v5), some (.int v6), some (.int v5)]) (by decide +kernel) (by decide) rfl ?_
  exact RN_weak (l := [some (.ref v0), some (.ref v1), some (.ref v2), some (.ref v3), some (.int v4), none, some (.int v6), some (.int v5)]) (And.intro rfl (And.intro rfl (And.intro rfl (And.intro rfl (And.intro rfl (And.intro rfl (And.intro rfl trivial))))))) (tb_X10_firstBreak_4 v0 v1 v2 v3 v4 v6 n v5 σ h)
def f_X10_swap (v0 : Nat) (v1 : Int32) (v2 : Int32) (σ : Sg) : Option Sg :=
  ck (okO σ v0 9) <|
  ck (¬ gR σ v0 3 = 0) <|
  nm (gR σ v0 3) fun r18 =>
  ck (okA σ r18 13 v1) <|
  nm (gI σ r18 v1.toNatClampNeg) fun x20 =>
  nm (gR σ v0 3) fun r21 =>
  nm (gR σ v0 3) fun r22 =>
  ck (okA σ r22 13 v2) <|
  ck (okW σ r21 13 v1) <|
  nm (pI σ r21 v1.toNatClampNeg (gI σ r22 v2.toNatClampNeg)) fun σ25 =>
  ck (okO σ25 v0 9) <|
  ck (¬ gR σ25 v0 3 = 0) <|
  nm (gR σ25 v0 3) fun r28 =>
  ck (okW σ25 r28 13 v2) <|
  nm (pI σ25 r28 v2.toNatClampNeg x20) fun σ30 =>
  some σ30
set_option maxRecDepth 20000 in
theorem t_X10_swap {G : Gl} {σr : Sg} {v0 : Nat} {v1 : Int32} {v2 : Int32} {σ : Sg} (h : f_X10_swap v0 v1 v2 σ = some σr) : MT G M_X10_swap [.ref v0, .int v1, .int v2] σ none σr := by
  refine MT_of rfl rfl (Nat.le_of_ble_eq_true rfl) ?_
  show RN G M_X10_swap 0 [some (.ref v0), some (.int v1), some (.int v2)] [] σ (.inl none) σr
  unfold f_X10_swap at h
  refine RN_aload_n (pc := 0) (k := 0) (by decide +kernel) rfl rfl ?_
  obtain ⟨c16, h⟩ := ck_el h
  obtain ⟨c17, h⟩ := ck_el h
  refine RN_getR (pc := 1) (idx := 28) (ci := 9) (k := 3) (by decide +kernel) lf_RX10_28 rfl c16 c17 ?_
  obtain ⟨r18, er18, h⟩ := nm_el h
  refine RN_nmR er18 ?_
  refine RN_iload_n (pc := 4) (k := 1) (by decide +kernel) rfl rfl ?_
  obtain ⟨c19, h⟩ := ck_el h
  refine RN_iald (pc := 5) (by decide +kernel) c19 ?_
  obtain ⟨x20, ex20, h⟩ := nm_el h
  refine RN_nmI ex20 ?_
  refine RN_istore_n (pc := 6) (k := 3) (ls2 := [some (.ref v0), some (.int v1), some (.int v2), some (.int x20)]) (by decide +kernel) rfl (by decide) rfl ?_
  refine RN_aload_n (pc := 7) (k := 0) (by decide +kernel) rfl rfl ?_
  refine RN_getR (pc := 8) (idx := 28) (ci := 9) (k := 3) (by decide +kernel) lf_RX10_28 rfl c16 c17 ?_
  obtain ⟨r21, er21, h⟩ := nm_el h
  refine RN_nmR er21 ?_
  refine RN_iload_n (pc := 11) (k := 1) (by decide +kernel) rfl rfl ?_
  refine RN_aload_n (pc := 12) (k := 0) (by decide +kernel) rfl rfl ?_
  refine RN_getR (pc := 13) (idx := 28) (ci := 9) (k := 3) (by decide +kernel) lf_RX10_28 rfl c16 c17 ?_
  obtain ⟨r22, er22, h⟩ := nm_el h
  refine RN_nmR er22 ?_
  refine RN_iload_n (pc := 16) (k := 2) (by decide +kernel) rfl rfl ?_
  obtain ⟨c23, h⟩ := ck_el h
  refine RN_iald (pc := 17) (by decide +kernel) c23 ?_
  obtain ⟨c24, h⟩ := ck_el h
  refine RN_iast (pc := 18) (by decide +kernel) c24 ?_
  obtain ⟨σ25, eσ25, h⟩ := nm_el h
  refine RN_nmS eσ25 ?_
  refine RN_aload_n (pc := 19) (k := 0) (by decide +kernel) rfl rfl ?_
  obtain ⟨c26, h⟩ := ck_el h
  obtain ⟨c27, h⟩ := ck_el h
  refine RN_getR (pc := 20) (idx := 28) (ci := 9) (k := 3) (by decide +kernel) lf_RX10_28 rfl c26 c27 ?_
  obtain ⟨r28, er28, h⟩ := nm_el h
  refine RN_nmR er28 ?_
  refine RN_iload_n (pc := 23) (k := 2) (by decide +kernel) rfl rfl ?_
  refine RN_iload_n (pc := 24) (k := 3) (by decide +kernel) rfl rfl ?_
  obtain ⟨c29, h⟩ := ck_el h
  refine RN_iast (pc := 25) (by decide +kernel) c29 ?_
  obtain ⟨σ30, eσ30, h⟩ := nm_el h
  refine RN_nmS eσ30 ?_
  obtain rfl := some_el h
  exact RN_return (by decide +kernel) rfl
def b_X10_goToNextOrder_82 : Nat → Nat → Int32 → Int32 → Sg → Option Sg
  | 0, _, _, _, _ => none
  | n + 1, v0, v4, v5, σ =>
  if v5 ≤ v4 then (
    some σ)
  else (
    ck (okO σ v0 9) <|
    bp (f_X10_swap v0 v4 v5 σ) fun σ40 =>
    nm (v4 + (1 : Int32)) fun x41 =>
    nm (v5 + ((-1) : Int32)) fun x42 =>
    b_X10_goToNextOrder_82 n v0 x41 x42 σ40)
set_option maxRecDepth 20000 in
theorem tb_X10_goToNextOrder_82 {G : Gl} {σr : Sg} (v0 : Nat) : ∀ (n : Nat) (v4 : Int32) (v5 : Int32) (σ : Sg), b_X10_goToNextOrder_82 n v0 v4 v5 σ = some σr → RN G M_X10_goToNextOrder 82 [some (.ref v0), none, none, none, some (.int v4), some (.int v5)] [] σ (.inl none) σr := by
  intro n
  induction n with
  | zero =>
    intro v4 v5 σ h
    exact none_el h
  | succ n ih =>
    intro v4 v5 σ h
    rw [b_X10_goToNextOrder_82] at h
    refine RN_iload (pc := 82) (i := 4) (by decide +kernel) rfl ?_
    refine RN_iload (pc := 84) (i := 5) (by decide +kernel) rfl ?_
    refine RN_icmp_ge (pc := 86) (off := 20) (tgt := 106) (by decide +kernel) (by decide) (fun c37 => ?_) (fun c37 => ?_)
    · replace h := it_t c37 h
      obtain rfl := some_el h
      exact RN_return (by decide +kernel) rfl
    · replace h := it_f c37 h
      refine RN_aload_n (pc := 89) (k := 0) (by decide +kernel) rfl rfl ?_
      refine RN_iload (pc := 90) (i := 4) (by decide +kernel) rfl ?_
      refine RN_iload (pc := 92) (i := 5) (by decide +kernel) rfl ?_
      obtain ⟨c38, h⟩ := ck_el h
      obtain ⟨σ40, f39, h⟩ := bp_el h
      refine RN_callV (M := M_X10_goToNextOrder) (pc := 94) (idx := 115) (as := [.int v4, .int v5]) (st := []) (t_X10_swap f39) (by decide +kernel) lk_RX10_115 rfl ⟨by decide, fun q hq => by cases hq; rfl⟩ c38 (Nat.le_of_ble_eq_true rfl) ⟨Nat.le_of_ble_eq_true rfl, Nat.le_of_ble_eq_true rfl⟩ rfl ?_
      show RN G M_X10_goToNextOrder 97 [some (.ref v0), none, none, none, some (.int v4), some (.int v5)] [] σ40 _ _
      obtain ⟨x41, ex41, h⟩ := nm_el h
      refine RN_iinc (pc := 97) (i := 4) (n := 1) (v := x41) (ls2 := [some (.ref v0), none, none, none, some (.int x41), some (.int v5)]) (by decide +kernel) rfl (by rw [ex41]; rfl) (by decide) rfl ?_
      obtain ⟨x42, ex42, h⟩ := nm_el h
      refine RN_iinc (pc := 100) (i := 5) (n := -1) (v := x42) (ls2 := [some (.ref v0), none, none, none, some (.int x41), some (.int x42)]) (by decide +kernel) rfl (by rw [ex42]; rfl) (by decide) rfl ?_
      refine RN_goto (pc := 103) (off := -21) (tgt := 82) (by decide +kernel) (by decide) ?_
      exact RN_weak (l := [some (.ref v0), none, none, none, some (.int x41), some (.int x42)]) (And.intro rfl (And.intro rfl (And.intro rfl trivial))) (ih x41 x42 σ40 h)
def b_X10_goToNextOrder_66 (n : Nat) (v0 : Nat) (v1 : Int32) (v2 : Int32) (v3 : Int32) (σ : Sg) : Option Sg :=
  ck (okO σ v0 9) <|
  bp (f_X10_swap v0 v2 v3 σ) fun σ34 =>
  nm (v2 + (1 : Int32)) fun x35 =>
  nm (v1 - (1 : Int32)) fun x36 =>
  b_X10_goToNextOrder_82 n v0 x35 x36 σ34
set_option maxRecDepth 20000 in
theorem tb_X10_goToNextOrder_66 {G : Gl} {σr : Sg} (n : Nat) (v0 : Nat) (v1 : Int32) (v2 : Int32) (v3 : Int32) (σ : Sg) (h : b_X10_goToNextOrder_66 n v0 v1 v2 v3 σ = some σr) : RN G M_X10_goToNextOrder 66 [some (.ref v0), some (.int v1), some (.int v2), some (.int v3)] [] σ (.inl none) σr := by
  unfold b_X10_goToNextOrder_66 at h
  refine RN_aload_n (pc := 66) (k := 0) (by decide +kernel) rfl rfl ?_
  refine RN_iload_n (pc := 67) (k := 2) (by decide +kernel) rfl rfl ?_
  refine RN_iload_n (pc := 68) (k := 3) (by decide +kernel) rfl rfl ?_
  obtain ⟨c32, h⟩ := ck_el h
  obtain ⟨σ34, f33, h⟩ := bp_el h
  refine RN_callV (M := M_X10_goToNextOrder) (pc := 69) (idx := 115) (as := [.int v2, .int v3]) (st := []) (t_X10_swap f33) (by decide +kernel) lk_RX10_115 rfl ⟨by decide, fun q hq => by cases hq; rfl⟩ c32 (Nat.le_of_ble_eq_true rfl) ⟨Nat.le_of_ble_eq_true rfl, Nat.le_of_ble_eq_true rfl⟩ rfl ?_
  show RN G M_X10_goToNextOrder 72 [some (.ref v0), some (.int v1), some (.int v2), some (.int v3)] [] σ34 _ _
  refine RN_iload_n (pc := 72) (k := 2) (by decide +kernel) rfl rfl ?_
  refine RN_iconst (pc := 73) (n := 1) (v := 1) (by decide +kernel) (by decide) ?_
  refine RN_iadd (pc := 74) (by decide +kernel) ?_
  obtain ⟨x35, ex35, h⟩ := nm_el h
  refine RN_nmI ex35 ?_
  refine RN_istore (pc := 75) (i := 4) (ls2 := [some (.ref v0), some (.int v1), some (.int v2), some (.int v3), some (.int x35)]) (by decide +kernel) (by decide) rfl ?_
  refine RN_iload_n (pc := 77) (k := 1) (by decide +kernel) rfl rfl ?_
  refine RN_iconst (pc := 78) (n := 1) (v := 1) (by decide +kernel) (by decide) ?_
  refine RN_isub (pc := 79) (by decide +kernel) ?_
  obtain ⟨x36, ex36, h⟩ := nm_el h
  refine RN_nmI ex36 ?_
  refine RN_istore (pc := 80) (i := 5) (ls2 := [some (.ref v0), some (.int v1), some (.int v2), some (.int v3), some (.int x35), some (.int x36)]) (by decide +kernel) (by decide) rfl ?_
  exact RN_weak (l := [some (.ref v0), none, none, none, some (.int x35), some (.int x36)]) (And.intro rfl (And.intro rfl (And.intro rfl trivial))) (tb_X10_goToNextOrder_82 v0 n x35 x36 σ34 h)
def b_X10_goToNextOrder_40 : Nat → Nat → Int32 → Int32 → Int32 → Sg → Option Sg
  | 0, _, _, _, _, _ => none
  | n + 1, v0, v1, v2, v3, σ =>
  if v3 ≤ v2 then (
    b_X10_goToNextOrder_66 n v0 v1 v2 v3 σ)
  else (
    ck (okO σ v0 9) <|
    ck (¬ gR σ v0 3 = 0) <|
    nm (gR σ v0 3) fun r45 =>
    ck (okA σ r45 13 v3) <|
    nm (gR σ v0 3) fun r47 =>
    ck (okA σ r47 13 v2) <|
    if (gI σ r47 v2.toNatClampNeg) ≤ (gI σ r45 v3.toNatClampNeg) then (
      b_X10_goToNextOrder_66 n v0 v1 v2 v3 σ)
    else (
      nm (v3 + ((-1) : Int32)) fun x50 =>
      b_X10_goToNextOrder_40 n v0 v1 v2 x50 σ))
set_option maxRecDepth 20000 in
theorem tb_X10_goToNextOrder_40 {G : Gl} {σr : Sg} (v0 : Nat) (v1 : Int32) (v2 : Int32) (σ : Sg) : ∀ (n : Nat) (v3 : Int32), b_X10_goToNextOrder_40 n v0 v1 v2 v3 σ = some σr → RN G M_X10_goToNextOrder 40 [some (.ref v0), some (.int v1), some (.int v2), some (.int v3)] [] σ (.inl none) σr := by
  intro n
  induction n with
  | zero =>
    intro v3 h
    exact none_el h
  | succ n ih =>
    intro v3 h
    rw [b_X10_goToNextOrder_40] at h
    refine RN_iload_n (pc := 40) (k := 3) (by decide +kernel) rfl rfl ?_
    refine RN_iload_n (pc := 41) (k := 2) (by decide +kernel) rfl rfl ?_
    refine RN_icmp_le (pc := 42) (off := 24) (tgt := 66) (by decide +kernel) (by decide) (fun c31 => ?_) (fun c31 => ?_)
    · replace h := it_t c31 h
      exact RN_weak (l := [some (.ref v0), some (.int v1), some (.int v2), some (.int v3)]) (And.intro rfl (And.intro rfl (And.intro rfl (And.intro rfl trivial)))) (tb_X10_goToNextOrder_66 n v0 v1 v2 v3 σ h)
    · replace h := it_f c31 h
      refine RN_aload_n (pc := 45) (k := 0) (by decide +kernel) rfl rfl ?_
      obtain ⟨c43, h⟩ := ck_el h
      obtain ⟨c44, h⟩ := ck_el h
      refine RN_getR (pc := 46) (idx := 28) (ci := 9) (k := 3) (by decide +kernel) lf_RX10_28 rfl c43 c44 ?_
      obtain ⟨r45, er45, h⟩ := nm_el h
      refine RN_nmR er45 ?_
      refine RN_iload_n (pc := 49) (k := 3) (by decide +kernel) rfl rfl ?_
      obtain ⟨c46, h⟩ := ck_el h
      refine RN_iald (pc := 50) (by decide +kernel) c46 ?_
      refine RN_aload_n (pc := 51) (k := 0) (by decide +kernel) rfl rfl ?_
      refine RN_getR (pc := 52) (idx := 28) (ci := 9) (k := 3) (by decide +kernel) lf_RX10_28 rfl c43 c44 ?_
      obtain ⟨r47, er47, h⟩ := nm_el h
      refine RN_nmR er47 ?_
      refine RN_iload_n (pc := 55) (k := 2) (by decide +kernel) rfl rfl ?_
      obtain ⟨c48, h⟩ := ck_el h
      refine RN_iald (pc := 56) (by decide +kernel) c48 ?_
      refine RN_icmp_ge (pc := 57) (off := 9) (tgt := 66) (by decide +kernel) (by decide) (fun c49 => ?_) (fun c49 => ?_)
      · replace h := it_t c49 h
        exact RN_weak (l := [some (.ref v0), some (.int v1), some (.int v2), some (.int v3)]) (And.intro rfl (And.intro rfl (And.intro rfl (And.intro rfl trivial)))) (tb_X10_goToNextOrder_66 n v0 v1 v2 v3 σ h)
      · replace h := it_f c49 h
        obtain ⟨x50, ex50, h⟩ := nm_el h
        refine RN_iinc (pc := 60) (i := 3) (n := -1) (v := x50) (ls2 := [some (.ref v0), some (.int v1), some (.int v2), some (.int x50)]) (by decide +kernel) rfl (by rw [ex50]; rfl) (by decide) rfl ?_
        refine RN_goto (pc := 63) (off := -23) (tgt := 40) (by decide +kernel) (by decide) ?_
        exact RN_weak (l := [some (.ref v0), some (.int v1), some (.int v2), some (.int x50)]) (And.intro rfl (And.intro rfl (And.intro rfl (And.intro rfl trivial)))) (ih x50 h)
def b_X10_goToNextOrder_31 (n : Nat) (v0 : Nat) (v1 : Int32) (v2 : Int32) (σ : Sg) : Option Sg :=
  if 0 ≤ v2 then (
    nm (v1 - (1 : Int32)) fun x30 =>
    b_X10_goToNextOrder_40 n v0 v1 v2 x30 σ)
  else (
    some σ)
set_option maxRecDepth 20000 in
theorem tb_X10_goToNextOrder_31 {G : Gl} {σr : Sg} (n : Nat) (v0 : Nat) (v1 : Int32) (v2 : Int32) (σ : Sg) (h : b_X10_goToNextOrder_31 n v0 v1 v2 σ = some σr) : RN G M_X10_goToNextOrder 31 [some (.ref v0), some (.int v1), some (.int v2)] [] σ (.inl none) σr := by
  unfold b_X10_goToNextOrder_31 at h
  refine RN_iload_n (pc := 31) (k := 2) (by decide +kernel) rfl rfl ?_
  refine RN_if_ge (pc := 32) (off := 4) (tgt := 36) (by decide +kernel) (by decide) (fun c29 => ?_) (fun c29 => ?_)
  · replace h := it_t c29 h
    refine RN_iload_n (pc := 36) (k := 1) (by decide +kernel) rfl rfl ?_
    refine RN_iconst (pc := 37) (n := 1) (v := 1) (by decide +kernel) (by decide) ?_
    refine RN_isub (pc := 38) (by decide +kernel) ?_
    obtain ⟨x30, ex30, h⟩ := nm_el h
    refine RN_nmI ex30 ?_
    refine RN_istore_n (pc := 39) (k := 3) (ls2 := [some (.ref v0), some (.int v1), some (.int v2), some (.int x30)]) (by decide +kernel) rfl (by decide) rfl ?_
    exact RN_weak (l := [some (.ref v0), some (.int v1), some (.int v2), some (.int x30)]) (And.intro rfl (And.intro rfl (And.intro rfl (And.intro rfl trivial)))) (tb_X10_goToNextOrder_40 v0 v1 v2 σ n x30 h)
  · replace h := it_f c29 h
    obtain rfl := some_el h
    exact RN_return (by decide +kernel) rfl
def b_X10_goToNextOrder_4 : Nat → Nat → Int32 → Int32 → Sg → Option Sg
  | 0, _, _, _, _ => none
  | n + 1, v0, v1, v2, σ =>
  if v2 < 0 then (
    b_X10_goToNextOrder_31 n v0 v1 v2 σ)
  else (
    ck (okO σ v0 9) <|
    ck (¬ gR σ v0 3 = 0) <|
    nm (gR σ v0 3) fun r53 =>
    ck (okA σ r53 13 v2) <|
    nm (gR σ v0 3) fun r55 =>
    ck (okA σ r55 13 (v2 + (1 : Int32))) <|
    if (gI σ r53 v2.toNatClampNeg) ≤ (gI σ r55 (v2 + (1 : Int32)).toNatClampNeg) then (
      b_X10_goToNextOrder_31 n v0 v1 v2 σ)
    else (
      nm (v2 + ((-1) : Int32)) fun x58 =>
      b_X10_goToNextOrder_4 n v0 v1 x58 σ))
set_option maxRecDepth 20000 in
theorem tb_X10_goToNextOrder_4 {G : Gl} {σr : Sg} (v0 : Nat) (v1 : Int32) (σ : Sg) : ∀ (n : Nat) (v2 : Int32), b_X10_goToNextOrder_4 n v0 v1 v2 σ = some σr → RN G M_X10_goToNextOrder 4 [some (.ref v0), some (.int v1), some (.int v2)] [] σ (.inl none) σr := by
  intro n
  induction n with
  | zero =>
    intro v2 h
    exact none_el h
  | succ n ih =>
    intro v2 h
    rw [b_X10_goToNextOrder_4] at h
    refine RN_iload_n (pc := 4) (k := 2) (by decide +kernel) rfl rfl ?_
    refine RN_if_lt (pc := 5) (off := 26) (tgt := 31) (by decide +kernel) (by decide) (fun c28 => ?_) (fun c28 => ?_)
    · replace h := it_t c28 h
      exact RN_weak (l := [some (.ref v0), some (.int v1), some (.int v2)]) (And.intro rfl (And.intro rfl (And.intro rfl trivial))) (tb_X10_goToNextOrder_31 n v0 v1 v2 σ h)
    · replace h := it_f c28 h
      refine RN_aload_n (pc := 8) (k := 0) (by decide +kernel) rfl rfl ?_
      obtain ⟨c51, h⟩ := ck_el h
      obtain ⟨c52, h⟩ := ck_el h
      refine RN_getR (pc := 9) (idx := 28) (ci := 9) (k := 3) (by decide +kernel) lf_RX10_28 rfl c51 c52 ?_
      obtain ⟨r53, er53, h⟩ := nm_el h
      refine RN_nmR er53 ?_
      refine RN_iload_n (pc := 12) (k := 2) (by decide +kernel) rfl rfl ?_
      obtain ⟨c54, h⟩ := ck_el h
      refine RN_iald (pc := 13) (by decide +kernel) c54 ?_
      refine RN_aload_n (pc := 14) (k := 0) (by decide +kernel) rfl rfl ?_
      refine RN_getR (pc := 15) (idx := 28) (ci := 9) (k := 3) (by decide +kernel) lf_RX10_28 rfl c51 c52 ?_
      obtain ⟨r55, er55, h⟩ := nm_el h
      refine RN_nmR er55 ?_
      refine RN_iload_n (pc := 18) (k := 2) (by decide +kernel) rfl rfl ?_
      refine RN_iconst (pc := 19) (n := 1) (v := 1) (by decide +kernel) (by decide) ?_
      refine RN_iadd (pc := 20) (by decide +kernel) ?_
      obtain ⟨c56, h⟩ := ck_el h
      refine RN_iald (pc := 21) (by decide +kernel) c56 ?_
      refine RN_icmp_le (pc := 22) (off := 9) (tgt := 31) (by decide +kernel) (by decide) (fun c57 => ?_) (fun c57 => ?_)
      · replace h := it_t c57 h
        exact RN_weak (l := [some (.ref v0), some (.int v1), some (.int v2)]) (And.intro rfl (And.intro rfl (And.intro rfl trivial))) (tb_X10_goToNextOrder_31 n v0 v1 v2 σ h)
      · replace h := it_f c57 h
        obtain ⟨x58, ex58, h⟩ := nm_el h
        refine RN_iinc (pc := 25) (i := 2) (n := -1) (v := x58) (ls2 := [some (.ref v0), some (.int v1), some (.int x58)]) (by decide +kernel) rfl (by rw [ex58]; rfl) (by decide) rfl ?_
        refine RN_goto (pc := 28) (off := -24) (tgt := 4) (by decide +kernel) (by decide) ?_
        exact RN_weak (l := [some (.ref v0), some (.int v1), some (.int x58)]) (And.intro rfl (And.intro rfl (And.intro rfl trivial))) (ih x58 h)
def f_X10_goToNextOrder (n : Nat) (v0 : Nat) (v1 : Int32) (σ : Sg) : Option Sg :=
  nm (v1 - (2 : Int32)) fun x27 =>
  b_X10_goToNextOrder_4 n v0 v1 x27 σ
set_option maxRecDepth 20000 in
theorem t_X10_goToNextOrder {G : Gl} {σr : Sg} {n : Nat} {v0 : Nat} {v1 : Int32} {σ : Sg} (h : f_X10_goToNextOrder n v0 v1 σ = some σr) : MT G M_X10_goToNextOrder [.ref v0, .int v1] σ none σr := by
  refine MT_of rfl rfl (Nat.le_of_ble_eq_true rfl) ?_
  show RN G M_X10_goToNextOrder 0 [some (.ref v0), some (.int v1)] [] σ (.inl none) σr
  unfold f_X10_goToNextOrder at h
  refine RN_iload_n (pc := 0) (k := 1) (by decide +kernel) rfl rfl ?_
  refine RN_iconst (pc := 1) (n := 2) (v := 2) (by decide +kernel) (by decide) ?_
  refine RN_isub (pc := 2) (by decide +kernel) ?_
  obtain ⟨x27, ex27, h⟩ := nm_el h
  refine RN_nmI ex27 ?_
  refine RN_istore_n (pc := 3) (k := 2) (ls2 := [some (.ref v0), some (.int v1), some (.int x27)]) (by decide +kernel) rfl (by decide) rfl ?_
  exact RN_weak (l := [some (.ref v0), some (.int v1), some (.int x27)]) (And.intro rfl (And.intro rfl (And.intro rfl trivial))) (tb_X10_goToNextOrder_4 v0 v1 σ n x27 h)
def b_X10_hasOtherResults_2 : Nat → Nat → Int32 → Int32 → Sg → Option Int32
  | 0, _, _, _, _ => none
  | n + 1, v0, v1, v2, σ =>
  if v1 ≤ v2 then (
    some (0 : Int32))
  else (
    ck (okO σ v0 9) <|
    ck (¬ gR σ v0 1 = 0) <|
    nm (gR σ v0 1) fun r21 =>
    ck (okO σ r21 4) <|
    ck (¬ gR σ r21 6 = 0) <|
    nm (gR σ r21 6) fun r24 =>
    ck (okA σ r24 14 v2) <|
    ck (¬ gR σ v0 0 = 0) <|
    nm (gR σ v0 0) fun r27 =>
    ck (okO σ r27 4) <|
    ck (¬ gR σ r27 6 = 0) <|
    nm (gR σ r27 6) fun r30 =>
    ck (¬ gR σ v0 3 = 0) <|
    nm (gR σ v0 3) fun r32 =>
    ck (okA σ r32 13 v2) <|
    ck (okA σ r30 14 (gI σ r32 v2.toNatClampNeg)) <|
    if (gJ σ r24 v2.toNatClampNeg) = (gJ σ r30 (gI σ r32 v2.toNatClampNeg).toNatClampNeg) then (
      nm (v2 + (1 : Int32)) fun x36 =>
      b_X10_hasOtherResults_2 n v0 v1 x36 σ)
    else (
      some (1 : Int32)))
set_option maxRecDepth 20000 in
theorem tb_X10_hasOtherResults_2 {G : Gl} {xr : Int32} (v0 : Nat) (v1 : Int32) (σ : Sg) : ∀ (n : Nat) (v2 : Int32), b_X10_hasOtherResults_2 n v0 v1 v2 σ = some xr → RN G M_X10_hasOtherResults 2 [some (.ref v0), some (.int v1), some (.int v2)] [] σ (.inl (some (.int xr))) σ := by
  intro n
  induction n with
  | zero =>
    intro v2 h
    exact none_el h
  | succ n ih =>
    intro v2 h
    rw [b_X10_hasOtherResults_2] at h
    refine RN_iload_n (pc := 2) (k := 2) (by decide +kernel) rfl rfl ?_
    refine RN_iload_n (pc := 3) (k := 1) (by decide +kernel) rfl rfl ?_
    refine RN_icmp_ge (pc := 4) (off := 38) (tgt := 42) (by decide +kernel) (by decide) (fun c18 => ?_) (fun c18 => ?_)
    · replace h := it_t c18 h
      refine RN_iconst (pc := 42) (n := 0) (v := 0) (by decide +kernel) (by decide) ?_
      obtain rfl := some_el h
      exact RN_zreturn (by decide +kernel) rfl (Or.inl rfl)
    · replace h := it_f c18 h
      refine RN_aload_n (pc := 7) (k := 0) (by decide +kernel) rfl rfl ?_
      obtain ⟨c19, h⟩ := ck_el h
      obtain ⟨c20, h⟩ := ck_el h
      refine RN_getR (pc := 8) (idx := 18) (ci := 9) (k := 1) (by decide +kernel) lf_RX10_18 rfl c19 c20 ?_
      obtain ⟨r21, er21, h⟩ := nm_el h
      refine RN_nmR er21 ?_
      obtain ⟨c22, h⟩ := ck_el h
      obtain ⟨c23, h⟩ := ck_el h
      refine RN_getR (pc := 11) (idx := 111) (ci := 4) (k := 6) (by decide +kernel) lf_RX10_111 rfl c22 c23 ?_
      obtain ⟨r24, er24, h⟩ := nm_el h
      refine RN_nmR er24 ?_
      refine RN_iload_n (pc := 14) (k := 2) (by decide +kernel) rfl rfl ?_
      obtain ⟨c25, h⟩ := ck_el h
      refine RN_lald (pc := 15) (by decide +kernel) c25 ?_
      refine RN_aload_n (pc := 16) (k := 0) (by decide +kernel) rfl rfl ?_
      obtain ⟨c26, h⟩ := ck_el h
      refine RN_getR (pc := 17) (idx := 12) (ci := 9) (k := 0) (by decide +kernel) lf_RX10_12 rfl c19 c26 ?_
      obtain ⟨r27, er27, h⟩ := nm_el h
      refine RN_nmR er27 ?_
      obtain ⟨c28, h⟩ := ck_el h
      obtain ⟨c29, h⟩ := ck_el h
      refine RN_getR (pc := 20) (idx := 111) (ci := 4) (k := 6) (by decide +kernel) lf_RX10_111 rfl c28 c29 ?_
      obtain ⟨r30, er30, h⟩ := nm_el h
      refine RN_nmR er30 ?_
      refine RN_aload_n (pc := 23) (k := 0) (by decide +kernel) rfl rfl ?_
      obtain ⟨c31, h⟩ := ck_el h
      refine RN_getR (pc := 24) (idx := 28) (ci := 9) (k := 3) (by decide +kernel) lf_RX10_28 rfl c19 c31 ?_
      obtain ⟨r32, er32, h⟩ := nm_el h
      refine RN_nmR er32 ?_
      refine RN_iload_n (pc := 27) (k := 2) (by decide +kernel) rfl rfl ?_
      obtain ⟨c33, h⟩ := ck_el h
      refine RN_iald (pc := 28) (by decide +kernel) c33 ?_
      obtain ⟨c34, h⟩ := ck_el h
      refine RN_lald (pc := 29) (by decide +kernel) c34 ?_
      refine RN_lc_eq (pc := 30) (off := 5) (tgt := 36) (by decide +kernel) (by decide +kernel) (by decide) (fun c35 => ?_) (fun c35 => ?_)
      · replace h := it_t c35 h
        obtain ⟨x36, ex36, h⟩ := nm_el h
        refine RN_iinc (pc := 36) (i := 2) (n := 1) (v := x36) (ls2 := [some (.ref v0), some (.int v1), some (.int x36)]) (by decide +kernel) rfl (by rw [ex36]; rfl) (by decide) rfl ?_
        refine RN_goto (pc := 39) (off := -37) (tgt := 2) (by decide +kernel) (by decide) ?_
        exact RN_weak (l := [some (.ref v0), some (.int v1), some (.int x36)]) (And.intro rfl (And.intro rfl (And.intro rfl trivial))) (ih x36 h)
      · replace h := it_f c35 h
        refine RN_iconst (pc := 34) (n := 1) (v := 1) (by decide +kernel) (by decide) ?_
        obtain rfl := some_el h
        exact RN_zreturn (by decide +kernel) rfl (Or.inr rfl)
def f_X10_hasOtherResults (n : Nat) (v0 : Nat) (v1 : Int32) (σ : Sg) : Option Int32 :=
  b_X10_hasOtherResults_2 n v0 v1 (0 : Int32) σ
set_option maxRecDepth 20000 in
theorem t_X10_hasOtherResults {G : Gl} {xr : Int32} {n : Nat} {v0 : Nat} {v1 : Int32} {σ : Sg} (h : f_X10_hasOtherResults n v0 v1 σ = some xr) : MT G M_X10_hasOtherResults [.ref v0, .int v1] σ (some (.int xr)) σ := by
  refine MT_of rfl rfl (Nat.le_of_ble_eq_true rfl) ?_
  show RN G M_X10_hasOtherResults 0 [some (.ref v0), some (.int v1)] [] σ (.inl (some (.int xr))) σ
  unfold f_X10_hasOtherResults at h
  refine RN_iconst (pc := 0) (n := 0) (v := 0) (by decide +kernel) (by decide) ?_
  refine RN_istore_n (pc := 1) (k := 2) (ls2 := [some (.ref v0), some (.int v1), some (.int (0 : Int32))]) (by decide +kernel) rfl (by decide) rfl ?_
  exact RN_weak (l := [some (.ref v0), some (.int v1), some (.int (0 : Int32))]) (And.intro rfl (And.intro rfl (And.intro rfl trivial))) (tb_X10_hasOtherResults_2 v0 v1 σ n (0 : Int32) h)
def b_X10_firstOrderThatMatters_175 (k90 : Int32 → Sg → Option (Int32 × Sg)) (n : Nat) (v0 : Nat) (v1 : Nat) (v2 : Nat) (v3 : Nat) (v4 : Int32) (v5 : Int32) (v6 : Int32) (s0 : Int32) (s1 : Int32) (s2 : Nat) (σ : Sg) : Option (Int32 × Sg) :=
  ck (okO σ s2 9) <|
  bp (f_X10_differs n s2 s1 s0 (1 : Int32) σ) fun x142 =>
  if x142 = 0 then (
    ck (okO σ v3 0) <|
    ck (okO σ v0 9) <|
    bp (f_X10_hasOtherResults n v0 (gI σ v3 1) σ) fun x147 =>
    if x147 = 0 then (
      nm (v6 + (1 : Int32)) fun x149 =>
      k90 x149 σ)
    else (
      some (v6, σ)))
  else (
    some (v6, σ))
set_option maxRecDepth 20000 in
theorem tb_X10_firstOrderThatMatters_175 {G : Gl} {xr : Int32} {σr : Sg} (n : Nat) (v0 : Nat) (v1 : Nat) (v2 : Nat) (v3 : Nat) (v4 : Int32) (v5 : Int32) (v6 : Int32) (s0 : Int32) (s1 : Int32) (s2 : Nat) (σ : Sg) (k90 : Int32 → Sg → Option (Int32 × Sg)) (hk90 : ∀ (c6 : Int32) (τ : Sg), k90 c6 τ = some (xr, σr) → RN G M_X10_firstOrderThatMatters 90 [some (.ref v0), some (.ref v1), some (.ref v2), some (.ref v3), some (.int v4), some (.int v5), some (.int c6)] [] τ (.inl (some (.int xr))) σr) (h : b_X10_firstOrderThatMatters_175 k90 n v0 v1 v2 v3 v4 v5 v6 s0 s1 s2 σ = some (xr, σr)) : RN G M_X10_firstOrderThatMatters 175 [some (.ref v0), some (.ref v1), some (.ref v2), some (.ref v3), some (.int v4), some (.int v5), some (.int v6)] [.int s0, .int s1, .ref s2] σ (.inl (some (.int xr))) σr := by
  unfold b_X10_firstOrderThatMatters_175 at h
  refine RN_iconst (pc := 175) (n := 1) (v := 1) (by decide +kernel) (by decide) ?_
  obtain ⟨c140, h⟩ := ck_el h
  obtain ⟨x142, f141, h⟩ := bp_el h
  refine RN_callV (M := M_X10_firstOrderThatMatters) (pc := 176) (idx := 64) (as := [.int s1, .int s0, .int (1 : Int32)]) (st := []) (t_X10_differs f141) (by decide +kernel) lk_RX10_64 rfl ⟨by decide, fun q hq => by cases hq; rfl⟩ c140 (Nat.le_of_ble_eq_true rfl) ⟨Nat.le_of_ble_eq_true rfl, Nat.le_of_ble_eq_true rfl⟩ rfl ?_
  show RN G M_X10_firstOrderThatMatters 179 [some (.ref v0), some (.ref v1), some (.ref v2), some (.ref v3), some (.int v4), some (.int v5), some (.int v6)] [.int x142] σ _ _
  refine RN_if_ne (pc := 179) (off := 14) (tgt := 193) (by decide +kernel) (by decide) (fun c143 => ?_) (fun c143 => ?_)
  · replace h := it_f c143 h
    refine RN_iload (pc := 193) (i := 6) (by decide +kernel) rfl ?_
    obtain ⟨rfl, rfl⟩ := some_el2 h
    exact RN_ireturn (by decide +kernel) rfl
  · replace h := it_t c143 h
    refine RN_aload_n (pc := 182) (k := 0) (by decide +kernel) rfl rfl ?_
    refine RN_aload_n (pc := 183) (k := 3) (by decide +kernel) rfl rfl ?_
    obtain ⟨c144, h⟩ := ck_el h
    refine RN_getI (pc := 184) (idx := 94) (ci := 0) (k := 1) (by decide +kernel) lf_RX10_94 (Or.inl rfl) c144 ?_
    obtain ⟨c145, h⟩ := ck_el h
    obtain ⟨x147, f146, h⟩ := bp_el h
    refine RN_callV (M := M_X10_firstOrderThatMatters) (pc := 187) (idx := 107) (as := [.int (gI σ v3 1)]) (st := []) (t_X10_hasOtherResults f146) (by decide +kernel) lk_RX10_107 rfl ⟨by decide, fun q hq => by cases hq; rfl⟩ c145 (Nat.le_of_ble_eq_true rfl) ⟨Nat.le_of_ble_eq_true rfl, Nat.le_of_ble_eq_true rfl⟩ rfl ?_
    show RN G M_X10_firstOrderThatMatters 190 [some (.ref v0), some (.ref v1), some (.ref v2), some (.ref v3), some (.int v4), some (.int v5), some (.int v6)] [.int x147] σ _ _
    refine RN_if_eq (pc := 190) (off := 6) (tgt := 196) (by decide +kernel) (by decide) (fun c148 => ?_) (fun c148 => ?_)
    · replace h := it_t c148 h
      obtain ⟨x149, ex149, h⟩ := nm_el h
      refine RN_iinc (pc := 196) (i := 6) (n := 1) (v := x149) (ls2 := [some (.ref v0), some (.ref v1), some (.ref v2), some (.ref v3), some (.int v4), some (.int v5), some (.int x149)]) (by decide +kernel) rfl (by rw [ex149]; rfl) (by decide) rfl ?_
      refine RN_goto (pc := 199) (off := -109) (tgt := 90) (by decide +kernel) (by decide) ?_
      exact RN_weak (l := [some (.ref v0), some (.ref v1), some (.ref v2), some (.ref v3), some (.int v4), some (.int v5), some (.int x149)]) (And.intro rfl (And.intro rfl (And.intro rfl (And.intro rfl (And.intro rfl (And.intro rfl (And.intro rfl trivial))))))) (hk90 x149 σ h)
    · replace h := it_f c148 h
      refine RN_iload (pc := 193) (i := 6) (by decide +kernel) rfl ?_
      obtain ⟨rfl, rfl⟩ := some_el2 h
      exact RN_ireturn (by decide +kernel) rfl
def b_X10_firstOrderThatMatters_148 (k90 : Int32 → Sg → Option (Int32 × Sg)) (n : Nat) (v0 : Nat) (v1 : Nat) (v2 : Nat) (v3 : Nat) (v4 : Int32) (v5 : Int32) (v6 : Int32) (σ : Sg) : Option (Int32 × Sg) :=
  ck (okO σ v0 9) <|
  ck (¬ gR σ v0 1 = 0) <|
  nm (gR σ v0 1) fun r128 =>
  ck (okO σ r128 4) <|
  bp (f_X5_startAfresh n r128 σ) fun σ131 =>
  ck (okO σ131 v0 9) <|
  ck (¬ gR σ131 v0 1 = 0) <|
  nm (gR σ131 v0 1) fun r134 =>
  ck (okO σ131 r134 4) <|
  bd (f_X5_perform n r134 v2 v1 σ131) fun x138 σ137 =>
  if x138 = 0 then (
    b_X10_firstOrderThatMatters_175 k90 n v0 v1 v2 v3 v4 v5 v6 (1 : Int32) v5 v0 σ137)
  else (
    b_X10_firstOrderThatMatters_175 k90 n v0 v1 v2 v3 v4 v5 v6 (0 : Int32) v5 v0 σ137)
set_option maxRecDepth 20000 in
theorem tb_X10_firstOrderThatMatters_148 {G : Gl} {xr : Int32} {σr : Sg} (n : Nat) (v0 : Nat) (v1 : Nat) (v2 : Nat) (v3 : Nat) (v4 : Int32) (v5 : Int32) (v6 : Int32) (σ : Sg) (k90 : Int32 → Sg → Option (Int32 × Sg)) (hk90 : ∀ (c6 : Int32) (τ : Sg), k90 c6 τ = some (xr, σr) → RN G M_X10_firstOrderThatMatters 90 [some (.ref v0), some (.ref v1), some (.ref v2), some (.ref v3), some (.int v4), some (.int v5), some (.int c6)] [] τ (.inl (some (.int xr))) σr) (h : b_X10_firstOrderThatMatters_148 k90 n v0 v1 v2 v3 v4 v5 v6 σ = some (xr, σr)) : RN G M_X10_firstOrderThatMatters 148 [some (.ref v0), some (.ref v1), some (.ref v2), some (.ref v3), some (.int v4), some (.int v5), some (.int v6)] [] σ (.inl (some (.int xr))) σr := by
  unfold b_X10_firstOrderThatMatters_148 at h
  refine RN_aload_n (pc := 148) (k := 0) (by decide +kernel) rfl rfl ?_
  obtain ⟨c126, h⟩ := ck_el h
  obtain ⟨c127, h⟩ := ck_el h
  refine RN_getR (pc := 149) (idx := 18) (ci := 9) (k := 1) (by decide +kernel) lf_RX10_18 rfl c126 c127 ?_
  obtain ⟨r128, er128, h⟩ := nm_el h
  refine RN_nmR er128 ?_
  obtain ⟨c129, h⟩ := ck_el h
  obtain ⟨σ131, f130, h⟩ := bp_el h
  refine RN_callV (M := M_X10_firstOrderThatMatters) (pc := 152) (idx := 47) (as := []) (st := []) (t_X5_startAfresh f130) (by decide +kernel) lk_RX10_47 rfl ⟨by decide, fun q hq => by cases hq; rfl⟩ c129 (Nat.le_of_ble_eq_true rfl) ⟨Nat.le_of_ble_eq_true rfl, Nat.le_of_ble_eq_true rfl⟩ rfl ?_
  show RN G M_X10_firstOrderThatMatters 155 [some (.ref v0), some (.ref v1), some (.ref v2), some (.ref v3), some (.int v4), some (.int v5), some (.int v6)] [] σ131 _ _
  refine RN_aload_n (pc := 155) (k := 0) (by decide +kernel) rfl rfl ?_
  refine RN_iload (pc := 156) (i := 5) (by decide +kernel) rfl ?_
  refine RN_aload_n (pc := 158) (k := 0) (by decide +kernel) rfl rfl ?_
  obtain ⟨c132, h⟩ := ck_el h
  obtain ⟨c133, h⟩ := ck_el h
  refine RN_getR (pc := 159) (idx := 18) (ci := 9) (k := 1) (by decide +kernel) lf_RX10_18 rfl c132 c133 ?_
  obtain ⟨r134, er134, h⟩ := nm_el h
  refine RN_nmR er134 ?_
  refine RN_aload_n (pc := 162) (k := 2) (by decide +kernel) rfl rfl ?_
  refine RN_aload_n (pc := 163) (k := 1) (by decide +kernel) rfl rfl ?_
  obtain ⟨c135, h⟩ := ck_el h
  obtain ⟨x138, σ137, f136, h⟩ := bd_el h
  refine RN_callV (M := M_X10_firstOrderThatMatters) (pc := 164) (idx := 50) (as := [.ref v2, .ref v1]) (st := [.int v5, .ref v0]) (t_X5_perform f136) (by decide +kernel) lk_RX10_50 rfl ⟨by decide, fun q hq => by cases hq; rfl⟩ c135 (Nat.le_of_ble_eq_true rfl) ⟨Nat.le_of_ble_eq_true rfl, Nat.le_of_ble_eq_true rfl⟩ rfl ?_
  show RN G M_X10_firstOrderThatMatters 167 [some (.ref v0), some (.ref v1), some (.ref v2), some (.ref v3), some (.int v4), some (.int v5), some (.int v6)] [.int x138, .int v5, .ref v0] σ137 _ _
  refine RN_if_ne (pc := 167) (off := 7) (tgt := 174) (by decide +kernel) (by decide) (fun c139 => ?_) (fun c139 => ?_)
  · replace h := it_f c139 h
    refine RN_iconst (pc := 174) (n := 0) (v := 0) (by decide +kernel) (by decide) ?_
    exact RN_weak (l := [some (.ref v0), some (.ref v1), some (.ref v2), some (.ref v3), some (.int v4), some (.int v5), some (.int v6)]) (And.intro rfl (And.intro rfl (And.intro rfl (And.intro rfl (And.intro rfl (And.intro rfl (And.intro rfl trivial))))))) (tb_X10_firstOrderThatMatters_175 n v0 v1 v2 v3 v4 v5 v6 (0 : Int32) v5 v0 σ137 k90 hk90 h)
  · replace h := it_t c139 h
    refine RN_iconst (pc := 170) (n := 1) (v := 1) (by decide +kernel) (by decide) ?_
    refine RN_goto (pc := 171) (off := 4) (tgt := 175) (by decide +kernel) (by decide) ?_
    exact RN_weak (l := [some (.ref v0), some (.ref v1), some (.ref v2), some (.ref v3), some (.int v4), some (.int v5), some (.int v6)]) (And.intro rfl (And.intro rfl (And.intro rfl (And.intro rfl (And.intro rfl (And.intro rfl (And.intro rfl trivial))))))) (tb_X10_firstOrderThatMatters_175 n v0 v1 v2 v3 v4 v5 v6 (1 : Int32) v5 v0 σ137 k90 hk90 h)
def b_X10_firstOrderThatMatters_108 (k90 : Int32 → Sg → Option (Int32 × Sg)) : Nat → Nat → Nat → Nat → Nat → Int32 → Int32 → Int32 → Int32 → Sg → Option (Int32 × Sg)
  | 0, _, _, _, _, _, _, _, _, _ => none
  | n + 1, v0, v1, v2, v3, v4, v5, v6, v7, σ =>
  ck (okO σ v3 0) <|
  if (gI σ v3 1) ≤ v7 then (
    b_X10_firstOrderThatMatters_148 k90 n v0 v1 v2 v3 v4 v5 v6 σ)
  else (
    ck (okO σ v0 9) <|
    ck (¬ gR σ v0 1 = 0) <|
    nm (gR σ v0 1) fun r152 =>
    ck (okO σ r152 4) <|
    ck (¬ gR σ r152 0 = 0) <|
    nm (gR σ r152 0) fun r155 =>
    ck (okO σ r155 0) <|
    ck (¬ gR σ r155 0 = 0) <|
    nm (gR σ r155 0) fun r158 =>
    ck (¬ gR σ v3 0 = 0) <|
    nm (gR σ v3 0) fun r160 =>
    ck (¬ gR σ v0 3 = 0) <|
    nm (gR σ v0 3) fun r162 =>
    ck (okA σ r162 13 v7) <|
    ck (okA σ r160 13 (gI σ r162 v7.toNatClampNeg)) <|
    ck (okW σ r158 13 v7) <|
    nm (pI σ r158 v7.toNatClampNeg (gI σ r160 (gI σ r162 v7.toNatClampNeg).toNatClampNeg)) fun σ166 =>
    nm (v7 + (1 : Int32)) fun x167 =>
    b_X10_firstOrderThatMatters_108 k90 n v0 v1 v2 v3 v4 v5 v6 x167 σ166)
set_option maxRecDepth 20000 in
theorem tb_X10_firstOrderThatMatters_108 {G : Gl} {xr : Int32} {σr : Sg} (v0 : Nat) (v1 : Nat) (v2 : Nat) (v3 : Nat) (v4 : Int32) (v5 : Int32) (v6 : Int32) (k90 : Int32 → Sg → Option (Int32 × Sg)) (hk90 : ∀ (c6 : Int32) (τ : Sg), k90 c6 τ = some (xr, σr) → RN G M_X10_firstOrderThatMatters 90 [some (.ref v0), some (.ref v1), some (.ref v2), some (.ref v3), some (.int v4), some (.int v5), some (.int c6)] [] τ (.inl (some (.int xr))) σr) : ∀ (n : Nat) (v7 : Int32) (σ : Sg), b_X10_firstOrderThatMatters_108 k90 n v0 v1 v2 v3 v4 v5 v6 v7 σ = some (xr, σr) → RN G M_X10_firstOrderThatMatters 108 [some (.ref v0), some (.ref v1), some (.ref v2), some (.ref v3), some (.int v4), some (.int v5), some (.int v6), some (.int v7)] [] σ (.inl (some (.int xr))) σr := by
  intro n
  induction n with
  | zero =>
    intro v7 σ h
    exact none_el h
  | succ n ih =>
    intro v7 σ h
    rw [b_X10_firstOrderThatMatters_108] at h
    refine RN_iload (pc := 108) (i := 7) (by decide +kernel) rfl ?_
    refine RN_aload_n (pc := 110) (k := 3) (by decide +kernel) rfl rfl ?_
    obtain ⟨c124, h⟩ := ck_el h
    refine RN_getI (pc := 111) (idx := 94) (ci := 0) (k := 1) (by decide +kernel) lf_RX10_94 (Or.inl rfl) c124 ?_
    refine RN_icmp_ge (pc := 114) (off := 34) (tgt := 148) (by decide +kernel) (by decide) (fun c125 => ?_) (fun c125 => ?_)
    · replace h := it_t c125 h
      exact RN_weak (l := [some (.ref v0), some (.ref v1), some (.ref v2), some (.ref v3), some (.int v4), some (.int v5), some (.int v6)]) (And.intro rfl (And.intro rfl (And.intro rfl (And.intro rfl (And.intro rfl (And.intro rfl (And.intro rfl trivial))))))) (tb_X10_firstOrderThatMatters_148 n v0 v1 v2 v3 v4 v5 v6 σ k90 hk90 h)
    · replace h := it_f c125 h
      refine RN_aload_n (pc := 117) (k := 0) (by decide +kernel) rfl rfl ?_
      obtain ⟨c150, h⟩ := ck_el h
      obtain ⟨c151, h⟩ := ck_el h
      refine RN_getR (pc := 118) (idx := 18) (ci := 9) (k := 1) (by decide +kernel) lf_RX10_18 rfl c150 c151 ?_
      obtain ⟨r152, er152, h⟩ := nm_el h
      refine RN_nmR er152 ?_
      obtain ⟨c153, h⟩ := ck_el h
      obtain ⟨c154, h⟩ := ck_el h
      refine RN_getR (pc := 121) (idx := 37) (ci := 4) (k := 0) (by decide +kernel) lf_RX10_37 rfl c153 c154 ?_
      obtain ⟨r155, er155, h⟩ := nm_el h
      refine RN_nmR er155 ?_
      obtain ⟨c156, h⟩ := ck_el h
      obtain ⟨c157, h⟩ := ck_el h
      refine RN_getR (pc := 124) (idx := 104) (ci := 0) (k := 0) (by decide +kernel) lf_RX10_104 rfl c156 c157 ?_
      obtain ⟨r158, er158, h⟩ := nm_el h
      refine RN_nmR er158 ?_
      refine RN_iload (pc := 127) (i := 7) (by decide +kernel) rfl ?_
      refine RN_aload_n (pc := 129) (k := 3) (by decide +kernel) rfl rfl ?_
      obtain ⟨c159, h⟩ := ck_el h
      refine RN_getR (pc := 130) (idx := 104) (ci := 0) (k := 0) (by decide +kernel) lf_RX10_104 rfl c124 c159 ?_
      obtain ⟨r160, er160, h⟩ := nm_el h
      refine RN_nmR er160 ?_
      refine RN_aload_n (pc := 133) (k := 0) (by decide +kernel) rfl rfl ?_
      obtain ⟨c161, h⟩ := ck_el h
      refine RN_getR (pc := 134) (idx := 28) (ci := 9) (k := 3) (by decide +kernel) lf_RX10_28 rfl c150 c161 ?_
      obtain ⟨r162, er162, h⟩ := nm_el h
      refine RN_nmR er162 ?_
      refine RN_iload (pc := 137) (i := 7) (by decide +kernel) rfl ?_
      obtain ⟨c163, h⟩ := ck_el h
      refine RN_iald (pc := 139) (by decide +kernel) c163 ?_
      obtain ⟨c164, h⟩ := ck_el h
      refine RN_iald (pc := 140) (by decide +kernel) c164 ?_
      obtain ⟨c165, h⟩ := ck_el h
      refine RN_iast (pc := 141) (by decide +kernel) c165 ?_
      obtain ⟨σ166, eσ166, h⟩ := nm_el h
      refine RN_nmS eσ166 ?_
      obtain ⟨x167, ex167, h⟩ := nm_el h
      refine RN_iinc (pc := 142) (i := 7) (n := 1) (v := x167) (ls2 := [some (.ref v0), some (.ref v1), some (.ref v2), some (.ref v3), some (.int v4), some (.int v5), some (.int v6), some (.int x167)]) (by decide +kernel) rfl (by rw [ex167]; rfl) (by decide) rfl ?_
      refine RN_goto (pc := 145) (off := -37) (tgt := 108) (by decide +kernel) (by decide) ?_
      exact RN_weak (l := [some (.ref v0), some (.ref v1), some (.ref v2), some (.ref v3), some (.int v4), some (.int v5), some (.int v6), some (.int x167)]) (And.intro rfl (And.intro rfl (And.intro rfl (And.intro rfl (And.intro rfl (And.intro rfl (And.intro rfl (And.intro rfl trivial)))))))) (ih x167 σ166 h)
def b_X10_firstOrderThatMatters_90 : Nat → Nat → Nat → Nat → Nat → Int32 → Int32 → Int32 → Sg → Option (Int32 × Sg)
  | 0, _, _, _, _, _, _, _, _ => none
  | n + 1, v0, v1, v2, v3, v4, v5, v6, σ =>
  if v4 ≤ v6 then (
    some ((9999999 : Int32), σ))
  else (
    ck (okO σ v3 0) <|
    ck (okO σ v0 9) <|
    bp (f_X10_goToNextOrder n v0 (gI σ v3 1) σ) fun σ123 =>
    b_X10_firstOrderThatMatters_108 (fun c6 τ => b_X10_firstOrderThatMatters_90 n v0 v1 v2 v3 v4 v5 c6 τ) n v0 v1 v2 v3 v4 v5 v6 (0 : Int32) σ123)
set_option maxRecDepth 20000 in
theorem tb_X10_firstOrderThatMatters_90 {G : Gl} {xr : Int32} {σr : Sg} (v0 : Nat) (v1 : Nat) (v2 : Nat) (v3 : Nat) (v4 : Int32) (v5 : Int32) : ∀ (n : Nat) (v6 : Int32) (σ : Sg), b_X10_firstOrderThatMatters_90 n v0 v1 v2 v3 v4 v5 v6 σ = some (xr, σr) → RN G M_X10_firstOrderThatMatters 90 [some (.ref v0), some (.ref v1), some (.ref v2), some (.ref v3), some (.int v4), some (.int v5), some (.int v6)] [] σ (.inl (some (.int xr))) σr := by
  intro n
  induction n with
  | zero =>
    intro v6 σ h
    exact none_el h
  | succ n ih =>
    intro v6 σ h
    rw [b_X10_firstOrderThatMatters_90] at h
    refine RN_iload (pc := 90) (i := 6) (by decide +kernel) rfl ?_
    refine RN_iload (pc := 92) (i := 4) (by decide +kernel) rfl ?_
    refine RN_icmp_ge (pc := 94) (off := 108) (tgt := 202) (by decide +kernel) (by decide) (fun c119 => ?_) (fun c119 => ?_)
    · replace h := it_t c119 h
      refine RN_ldc (pc := 202) (idx := 36) (v := 9999999) (by decide +kernel) kc_RX10_36 ?_
      obtain ⟨rfl, rfl⟩ := some_el2 h
      exact RN_ireturn (by decide +kernel) rfl
    · replace h := it_f c119 h
      refine RN_aload_n (pc := 97) (k := 0) (by decide +kernel) rfl rfl ?_
      refine RN_aload_n (pc := 98) (k := 3) (by decide +kernel) rfl rfl ?_
      obtain ⟨c120, h⟩ := ck_el h
      refine RN_getI (pc := 99) (idx := 94) (ci := 0) (k := 1) (by decide +kernel) lf_RX10_94 (Or.inl rfl) c120 ?_
      obtain ⟨c121, h⟩ := ck_el h
      obtain ⟨σ123, f122, h⟩ := bp_el h
      refine RN_callV (M := M_X10_firstOrderThatMatters) (pc := 102) (idx := 101) (as := [.int (gI σ v3 1)]) (st := []) (t_X10_goToNextOrder f122) (by decide +kernel) lk_RX10_101 rfl ⟨by decide, fun q hq => by cases hq; rfl⟩ c121 (Nat.le_of_ble_eq_true rfl) ⟨Nat.le_of_ble_eq_true rfl, Nat.le_of_ble_eq_true rfl⟩ rfl ?_
      show RN G M_X10_firstOrderThatMatters 105 [some (.ref v0), some (.ref v1), some (.ref v2), some (.ref v3), some (.int v4), some (.int v5), some (.int v6)] [] σ123 _ _
      refine RN_iconst (pc := 105) (n := 0) (v := 0) (by decide +kernel) (by decide) ?_
      refine RN_istore (pc := 106) (i := 7) (ls2 := [some (.ref v0), some (.ref v1), some (.ref v2), some (.ref v3), some (.int v4), some (.int v5), some (.int v6), some (.int (0 : Int32))]) (by decide +kernel) (by decide) rfl ?_
      exact RN_weak (l := [some (.ref v0), some (.ref v1), some (.ref v2), some (.ref v3), some (.int v4), some (.int v5), some (.int v6), some (.int (0 : Int32))]) (And.intro rfl (And.intro rfl (And.intro rfl (And.intro rfl (And.intro rfl (And.intro rfl (And.intro rfl (And.intro rfl trivial)))))))) (tb_X10_firstOrderThatMatters_108 v0 v1 v2 v3 v4 v5 v6 _ (fun c6 τ h => ih c6 τ h) n (0 : Int32) σ123 h)
def b_X10_firstOrderThatMatters_74 (n : Nat) (v0 : Nat) (v1 : Nat) (v2 : Nat) (v3 : Nat) (v4 : Int32) (s0 : Int32) (σ : Sg) : Option (Int32 × Sg) :=
  ck (okO σ v0 9) <|
  ck (¬ gR σ v0 1 = 0) <|
  nm (gR σ v0 1) fun r112 =>
  ck (okO σ r112 4) <|
  ck (¬ gR σ r112 0 = 0) <|
  nm (gR σ r112 0) fun r115 =>
  ck (okO σ r115 0) <|
  bp (f_X0_become n r115 v3 σ) fun σ118 =>
  b_X10_firstOrderThatMatters_90 n v0 v1 v2 v3 v4 s0 (1 : Int32) σ118
set_option maxRecDepth 20000 in
theorem tb_X10_firstOrderThatMatters_74 {G : Gl} {xr : Int32} {σr : Sg} (n : Nat) (v0 : Nat) (v1 : Nat) (v2 : Nat) (v3 : Nat) (v4 : Int32) (s0 : Int32) (σ : Sg) (h : b_X10_firstOrderThatMatters_74 n v0 v1 v2 v3 v4 s0 σ = some (xr, σr)) : RN G M_X10_firstOrderThatMatters 74 [some (.ref v0), some (.ref v1), some (.ref v2), some (.ref v3), some (.int v4)] [.int s0] σ (.inl (some (.int xr))) σr := by
  unfold b_X10_firstOrderThatMatters_74 at h
  refine RN_istore (pc := 74) (i := 5) (ls2 := [some (.ref v0), some (.ref v1), some (.ref v2), some (.ref v3), some (.int v4), some (.int s0)]) (by decide +kernel) (by decide) rfl ?_
  refine RN_aload_n (pc := 76) (k := 0) (by decide +kernel) rfl rfl ?_
  obtain ⟨c110, h⟩ := ck_el h
  obtain ⟨c111, h⟩ := ck_el h
  refine RN_getR (pc := 77) (idx := 18) (ci := 9) (k := 1) (by decide +kernel) lf_RX10_18 rfl c110 c111 ?_
  obtain ⟨r112, er112, h⟩ := nm_el h
  refine RN_nmR er112 ?_
  obtain ⟨c113, h⟩ := ck_el h
  obtain ⟨c114, h⟩ := ck_el h
  refine RN_getR (pc := 80) (idx := 37) (ci := 4) (k := 0) (by decide +kernel) lf_RX10_37 rfl c113 c114 ?_
  obtain ⟨r115, er115, h⟩ := nm_el h
  refine RN_nmR er115 ?_
  refine RN_aload_n (pc := 83) (k := 3) (by decide +kernel) rfl rfl ?_
  obtain ⟨c116, h⟩ := ck_el h
  obtain ⟨σ118, f117, h⟩ := bp_el h
  refine RN_callV (M := M_X10_firstOrderThatMatters) (pc := 84) (idx := 97) (as := [.ref v3]) (st := []) (t_X0_become f117) (by decide +kernel) lk_RX10_97 rfl ⟨by decide, fun q hq => by cases hq; rfl⟩ c116 (Nat.le_of_ble_eq_true rfl) ⟨Nat.le_of_ble_eq_true rfl, Nat.le_of_ble_eq_true rfl⟩ rfl ?_
  show RN G M_X10_firstOrderThatMatters 87 [some (.ref v0), some (.ref v1), some (.ref v2), some (.ref v3), some (.int v4), some (.int s0)] [] σ118 _ _
  refine RN_iconst (pc := 87) (n := 1) (v := 1) (by decide +kernel) (by decide) ?_
  refine RN_istore (pc := 88) (i := 6) (ls2 := [some (.ref v0), some (.ref v1), some (.ref v2), some (.ref v3), some (.int v4), some (.int s0), some (.int (1 : Int32))]) (by decide +kernel) (by decide) rfl ?_
  exact RN_weak (l := [some (.ref v0), some (.ref v1), some (.ref v2), some (.ref v3), some (.int v4), some (.int s0), some (.int (1 : Int32))]) (And.intro rfl (And.intro rfl (And.intro rfl (And.intro rfl (And.intro rfl (And.intro rfl (And.intro rfl trivial))))))) (tb_X10_firstOrderThatMatters_90 v0 v1 v2 v3 v4 s0 n (1 : Int32) σ118 h)
def b_X10_firstOrderThatMatters_39 (n : Nat) (v0 : Nat) (v1 : Nat) (v2 : Nat) (v3 : Nat) (v4 : Int32) (σ : Sg) : Option (Int32 × Sg) :=
  ck (okO σ v0 9) <|
  ck (¬ gR σ v0 0 = 0) <|
  nm (gR σ v0 0) fun r89 =>
  ck (okO σ r89 4) <|
  ck (¬ gR σ r89 0 = 0) <|
  nm (gR σ r89 0) fun r92 =>
  ck (okO σ r92 0) <|
  bp (f_X0_become n r92 v3 σ) fun σ95 =>
  ck (okO σ95 v0 9) <|
  ck (¬ gR σ95 v0 0 = 0) <|
  nm (gR σ95 v0 0) fun r98 =>
  ck (okO σ95 r98 4) <|
  bp (f_X5_startAfresh n r98 σ95) fun σ101 =>
  ck (okO σ101 v0 9) <|
  ck (¬ gR σ101 v0 0 = 0) <|
  nm (gR σ101 v0 0) fun r104 =>
  ck (okO σ101 r104 4) <|
  bd (f_X5_perform n r104 v2 v1 σ101) fun x108 σ107 =>
  if x108 = 0 then (
    b_X10_firstOrderThatMatters_74 n v0 v1 v2 v3 v4 (1 : Int32) σ107)
  else (
    b_X10_firstOrderThatMatters_74 n v0 v1 v2 v3 v4 (0 : Int32) σ107)
set_option maxRecDepth 20000 in
theorem tb_X10_firstOrderThatMatters_39 {G : Gl} {xr : Int32} {σr : Sg} (n : Nat) (v0 : Nat) (v1 : Nat) (v2 : Nat) (v3 : Nat) (v4 : Int32) (σ : Sg) (h : b_X10_firstOrderThatMatters_39 n v0 v1 v2 v3 v4 σ = some (xr, σr)) : RN G M_X10_firstOrderThatMatters 39 [some (.ref v0), some (.ref v1), some (.ref v2), some (.ref v3), some (.int v4)] [] σ (.inl (some (.int xr))) σr := by
  unfold b_X10_firstOrderThatMatters_39 at h
  refine RN_aload_n (pc := 39) (k := 0) (by decide +kernel) rfl rfl ?_
  obtain ⟨c87, h⟩ := ck_el h
  obtain ⟨c88, h⟩ := ck_el h
  refine RN_getR (pc := 40) (idx := 12) (ci := 9) (k := 0) (by decide +kernel) lf_RX10_12 rfl c87 c88 ?_
  obtain ⟨r89, er89, h⟩ := nm_el h
  refine RN_nmR er89 ?_
  obtain ⟨c90, h⟩ := ck_el h
  obtain ⟨c91, h⟩ := ck_el h
  refine RN_getR (pc := 43) (idx := 37) (ci := 4) (k := 0) (by decide +kernel) lf_RX10_37 rfl c90 c91 ?_
  obtain ⟨r92, er92, h⟩ := nm_el h
  refine RN_nmR er92 ?_
  refine RN_aload_n (pc := 46) (k := 3) (by decide +kernel) rfl rfl ?_
  obtain ⟨c93, h⟩ := ck_el h
  obtain ⟨σ95, f94, h⟩ := bp_el h
  refine RN_callV (M := M_X10_firstOrderThatMatters) (pc := 47) (idx := 97) (as := [.ref v3]) (st := []) (t_X0_become f94) (by decide +kernel) lk_RX10_97 rfl ⟨by decide, fun q hq => by cases hq; rfl⟩ c93 (Nat.le_of_ble_eq_true rfl) ⟨Nat.le_of_ble_eq_true rfl, Nat.le_of_ble_eq_true rfl⟩ rfl ?_
  show RN G M_X10_firstOrderThatMatters 50 [some (.ref v0), some (.ref v1), some (.ref v2), some (.ref v3), some (.int v4)] [] σ95 _ _
  refine RN_aload_n (pc := 50) (k := 0) (by decide +kernel) rfl rfl ?_
  obtain ⟨c96, h⟩ := ck_el h
  obtain ⟨c97, h⟩ := ck_el h
  refine RN_getR (pc := 51) (idx := 12) (ci := 9) (k := 0) (by decide +kernel) lf_RX10_12 rfl c96 c97 ?_
  obtain ⟨r98, er98, h⟩ := nm_el h
  refine RN_nmR er98 ?_
  obtain ⟨c99, h⟩ := ck_el h
  obtain ⟨σ101, f100, h⟩ := bp_el h
  refine RN_callV (M := M_X10_firstOrderThatMatters) (pc := 54) (idx := 47) (as := []) (st := []) (t_X5_startAfresh f100) (by decide +kernel) lk_RX10_47 rfl ⟨by decide, fun q hq => by cases hq; rfl⟩ c99 (Nat.le_of_ble_eq_true rfl) ⟨Nat.le_of_ble_eq_true rfl, Nat.le_of_ble_eq_true rfl⟩ rfl ?_
  show RN G M_X10_firstOrderThatMatters 57 [some (.ref v0), some (.ref v1), some (.ref v2), some (.ref v3), some (.int v4)] [] σ101 _ _
  refine RN_aload_n (pc := 57) (k := 0) (by decide +kernel) rfl rfl ?_
  obtain ⟨c102, h⟩ := ck_el h
  obtain ⟨c103, h⟩ := ck_el h
  refine RN_getR (pc := 58) (idx := 12) (ci := 9) (k := 0) (by decide +kernel) lf_RX10_12 rfl c102 c103 ?_
  obtain ⟨r104, er104, h⟩ := nm_el h
  refine RN_nmR er104 ?_
  refine RN_aload_n (pc := 61) (k := 2) (by decide +kernel) rfl rfl ?_
  refine RN_aload_n (pc := 62) (k := 1) (by decide +kernel) rfl rfl ?_
  obtain ⟨c105, h⟩ := ck_el h
  obtain ⟨x108, σ107, f106, h⟩ := bd_el h
  refine RN_callV (M := M_X10_firstOrderThatMatters) (pc := 63) (idx := 50) (as := [.ref v2, .ref v1]) (st := []) (t_X5_perform f106) (by decide +kernel) lk_RX10_50 rfl ⟨by decide, fun q hq => by cases hq; rfl⟩ c105 (Nat.le_of_ble_eq_true rfl) ⟨Nat.le_of_ble_eq_true rfl, Nat.le_of_ble_eq_true rfl⟩ rfl ?_
  show RN G M_X10_firstOrderThatMatters 66 [some (.ref v0), some (.ref v1), some (.ref v2), some (.ref v3), some (.int v4)] [.int x108] σ107 _ _
  refine RN_if_ne (pc := 66) (off := 7) (tgt := 73) (by decide +kernel) (by decide) (fun c109 => ?_) (fun c109 => ?_)
  · replace h := it_f c109 h
    refine RN_iconst (pc := 73) (n := 0) (v := 0) (by decide +kernel) (by decide) ?_
    exact RN_weak (l := [some (.ref v0), some (.ref v1), some (.ref v2), some (.ref v3), some (.int v4)]) (And.intro rfl (And.intro rfl (And.intro rfl (And.intro rfl (And.intro rfl trivial))))) (tb_X10_firstOrderThatMatters_74 n v0 v1 v2 v3 v4 (0 : Int32) σ107 h)
  · replace h := it_t c109 h
    refine RN_iconst (pc := 69) (n := 1) (v := 1) (by decide +kernel) (by decide) ?_
    refine RN_goto (pc := 70) (off := 4) (tgt := 74) (by decide +kernel) (by decide) ?_
    exact RN_weak (l := [some (.ref v0), some (.ref v1), some (.ref v2), some (.ref v3), some (.int v4)]) (And.intro rfl (And.intro rfl (And.intro rfl (And.intro rfl (And.intro rfl trivial))))) (tb_X10_firstOrderThatMatters_74 n v0 v1 v2 v3 v4 (1 : Int32) σ107 h)
def b_X10_firstOrderThatMatters_6 : Nat → Nat → Nat → Nat → Nat → Int32 → Int32 → Sg → Option (Int32 × Sg)
  | 0, _, _, _, _, _, _, _ => none
  | n + 1, v0, v1, v2, v3, v4, v5, σ =>
  ck (okO σ v3 0) <|
  if (gI σ v3 1) ≤ v5 then (
    b_X10_firstOrderThatMatters_39 n v0 v1 v2 v3 v4 σ)
  else (
    ck (okO σ v0 9) <|
    ck (¬ gR σ v0 3 = 0) <|
    nm (gR σ v0 3) fun r170 =>
    ck (okW σ r170 13 v5) <|
    nm (pI σ r170 v5.toNatClampNeg v5) fun σ172 =>
    nm (v4 * (v5 + (1 : Int32))) fun x173 =>
    nm (v5 + (1 : Int32)) fun x174 =>
    b_X10_firstOrderThatMatters_6 n v0 v1 v2 v3 x173 x174 σ172)
set_option maxRecDepth 20000 in
theorem tb_X10_firstOrderThatMatters_6 {G : Gl} {xr : Int32} {σr : Sg} (v0 : Nat) (v1 : Nat) (v2 : Nat) (v3 : Nat) : ∀ (n : Nat) (v4 : Int32) (v5 : Int32) (σ : Sg), b_X10_firstOrderThatMatters_6 n v0 v1 v2 v3 v4 v5 σ = some (xr, σr) → RN G M_X10_firstOrderThatMatters 6 [some (.ref v0), some (.ref v1), some (.ref v2), some (.ref v3), some (.int v4), some (.int v5)] [] σ (.inl (some (.int xr))) σr := by
  intro n
  induction n with
  | zero =>
    intro v4 v5 σ h
    exact none_el h
  | succ n ih =>
    intro v4 v5 σ h
    rw [b_X10_firstOrderThatMatters_6] at h
    refine RN_iload (pc := 6) (i := 5) (by decide +kernel) rfl ?_
    refine RN_aload_n (pc := 8) (k := 3) (by decide +kernel) rfl rfl ?_
    obtain ⟨c85, h⟩ := ck_el h
    refine RN_getI (pc := 9) (idx := 94) (ci := 0) (k := 1) (by decide +kernel) lf_RX10_94 (Or.inl rfl) c85 ?_
    refine RN_icmp_ge (pc := 12) (off := 27) (tgt := 39) (by decide +kernel) (by decide) (fun c86 => ?_) (fun c86 => ?_)
    · replace h := it_t c86 h
      exact RN_weak (l := [some (.ref v0), some (.ref v1), some (.ref v2), some (.ref v3), some (.int v4)]) (And.intro rfl (And.intro rfl (And.intro rfl (And.intro rfl (And.intro rfl trivial))))) (tb_X10_firstOrderThatMatters_39 n v0 v1 v2 v3 v4 σ h)
    · replace h := it_f c86 h
      refine RN_aload_n (pc := 15) (k := 0) (by decide +kernel) rfl rfl ?_
      obtain ⟨c168, h⟩ := ck_el h
      obtain ⟨c169, h⟩ := ck_el h
      refine RN_getR (pc := 16) (idx := 28) (ci := 9) (k := 3) (by decide +kernel) lf_RX10_28 rfl c168 c169 ?_
      obtain ⟨r170, er170, h⟩ := nm_el h
      refine RN_nmR er170 ?_
      refine RN_iload (pc := 19) (i := 5) (by decide +kernel) rfl ?_
      refine RN_iload (pc := 21) (i := 5) (by decide +kernel) rfl ?_
      obtain ⟨c171, h⟩ := ck_el h
      refine RN_iast (pc := 23) (by decide +kernel) c171 ?_
      obtain ⟨σ172, eσ172, h⟩ := nm_el h
      refine RN_nmS eσ172 ?_
      refine RN_iload (pc := 24) (i := 4) (by decide +kernel) rfl ?_
      refine RN_iload (pc := 26) (i := 5) (by decide +kernel) rfl ?_
      refine RN_iconst (pc := 28) (n := 1) (v := 1) (by decide +kernel) (by decide) ?_
      refine RN_iadd (pc := 29) (by decide +kernel) ?_
      refine RN_imul (pc := 30) (by decide +kernel) ?_
      obtain ⟨x173, ex173, h⟩ := nm_el h
      refine RN_nmI ex173 ?_
      refine RN_istore (pc := 31) (i := 4) (ls2 := [some (.ref v0), some (.ref v1), some (.ref v2), some (.ref v3), some (.int x173), some (.int v5)]) (by decide +kernel) (by decide) rfl ?_
      obtain ⟨x174, ex174, h⟩ := nm_el h
      refine RN_iinc (pc := 33) (i := 5) (n := 1) (v := x174) (ls2 := [some (.ref v0), some (.ref v1), some (.ref v2), some (.ref v3), some (.int x173), some (.int x174)]) (by decide +kernel) rfl (by rw [ex174]; rfl) (by decide) rfl ?_
      refine RN_goto (pc := 36) (off := -30) (tgt := 6) (by decide +kernel) (by decide) ?_
      exact RN_weak (l := [some (.ref v0), some (.ref v1), some (.ref v2), some (.ref v3), some (.int x173), some (.int x174)]) (And.intro rfl (And.intro rfl (And.intro rfl (And.intro rfl (And.intro rfl (And.intro rfl trivial)))))) (ih x173 x174 σ172 h)
def f_X10_firstOrderThatMatters (n : Nat) (v0 : Nat) (v1 : Nat) (v2 : Nat) (v3 : Nat) (σ : Sg) : Option (Int32 × Sg) :=
  b_X10_firstOrderThatMatters_6 n v0 v1 v2 v3 (1 : Int32) (0 : Int32) σ
set_option maxRecDepth 20000 in
theorem t_X10_firstOrderThatMatters {G : Gl} {xr : Int32} {σr : Sg} {n : Nat} {v0 : Nat} {v1 : Nat} {v2 : Nat} {v3 : Nat} {σ : Sg} (h : f_X10_firstOrderThatMatters n v0 v1 v2 v3 σ = some (xr, σr)) : MT G M_X10_firstOrderThatMatters [.ref v0, .ref v1, .ref v2, .ref v3] σ (some (.int xr)) σr := by
  refine MT_of rfl rfl (Nat.le_of_ble_eq_true rfl) ?_
  show RN G M_X10_firstOrderThatMatters 0 [some (.ref v0), some (.ref v1), some (.ref v2), some (.ref v3)] [] σ (.inl (some (.int xr))) σr
  unfold f_X10_firstOrderThatMatters at h
  refine RN_iconst (pc := 0) (n := 1) (v := 1) (by decide +kernel) (by decide) ?_
  refine RN_istore (pc := 1) (i := 4) (ls2 := [some (.ref v0), some (.ref v1), some (.ref v2), some (.ref v3), some (.int (1 : Int32))]) (by decide +kernel) (by decide) rfl ?_
  refine RN_iconst (pc := 3) (n := 0) (v := 0) (by decide +kernel) (by decide) ?_
  refine RN_istore (pc := 4) (i := 5) (ls2 := [some (.ref v0), some (.ref v1), some (.ref v2), some (.ref v3), some (.int (1 : Int32)), some (.int (0 : Int32))]) (by decide +kernel) (by decide) rfl ?_
  exact RN_weak (l := [some (.ref v0), some (.ref v1), some (.ref v2), some (.ref v3), some (.int (1 : Int32)), some (.int (0 : Int32))]) (And.intro rfl (And.intro rfl (And.intro rfl (And.intro rfl (And.intro rfl (And.intro rfl trivial)))))) (tb_X10_firstOrderThatMatters_6 v0 v1 v2 v3 n (1 : Int32) (0 : Int32) σ h)
