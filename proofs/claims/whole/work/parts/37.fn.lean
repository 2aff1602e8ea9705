def b_X12_doesF_494 (n : Nat) (v0 : Nat) (v4 : Int32) (σ : Sg) : Option Sg :=
  ck (okO σ v0 11) <|
  bp (f_X12_keepsF v0 v4 σ) fun σ191 =>
  some σ191
set_option maxRecDepth 20000 in
theorem tb_X12_doesF_494 {G : Gl} {σr : Sg} (n : Nat) (v0 : Nat) (v4 : Int32) (σ : Sg) (h : b_X12_doesF_494 n v0 v4 σ = some σr) : RN G M_X12_doesF 494 [some (.ref v0), none, none, none, some (.int v4)] [] σ (.inl none) σr := by
  unfold b_X12_doesF_494 at h
  refine RN_aload_n (pc := 494) (k := 0) (by decide +kernel) rfl rfl ?_
  refine RN_iload (pc := 495) (i := 4) (by decide +kernel) rfl ?_
  obtain ⟨c189, h⟩ := ck_el h
  obtain ⟨σ191, f190, h⟩ := bp_el h
  refine RN_callV (M := M_X12_doesF) (pc := 497) (idx := 336) (as := [.int v4]) (st := []) (t_X12_keepsF f190) (by decide +kernel) lk_RX12_336 rfl ⟨by decide, fun q hq => by cases hq; rfl⟩ c189 (Nat.le_of_ble_eq_true rfl) ⟨Nat.le_of_ble_eq_true rfl, Nat.le_of_ble_eq_true rfl⟩ rfl ?_
  show RN G M_X12_doesF 500 [some (.ref v0), none, none, none, some (.int v4)] [] σ191 _ _
  obtain rfl := some_el h
  exact RN_return (by decide +kernel) rfl
def b_X12_doesF_226 (n : Nat) (v0 : Nat) (v4 : Int32) (s0 : UInt64) (s1 : Int32) (s2 : Nat) (σ : Sg) : Option Sg :=
  ck (okW σ s2 12 s1) <|
  nm (pD σ s2 s1.toNatClampNeg s0) fun σ248 =>
  b_X12_doesF_494 n v0 v4 σ248
set_option maxRecDepth 20000 in
theorem tb_X12_doesF_226 {G : Gl} {σr : Sg} (n : Nat) (v0 : Nat) (v4 : Int32) (s0 : UInt64) (s1 : Int32) (s2 : Nat) (σ : Sg) (h : b_X12_doesF_226 n v0 v4 s0 s1 s2 σ = some σr) : RN G M_X12_doesF 226 [some (.ref v0), none, none, none, some (.int v4)] [.double s0, .int s1, .ref s2] σ (.inl none) σr := by
  unfold b_X12_doesF_226 at h
  obtain ⟨c247, h⟩ := ck_el h
  refine RN_dast (pc := 226) (by decide +kernel) c247 ?_
  obtain ⟨σ248, eσ248, h⟩ := nm_el h
  refine RN_nmS eσ248 ?_
  refine RN_goto (pc := 227) (off := 267) (tgt := 494) (by decide +kernel) (by decide) ?_
  exact RN_weak (l := [some (.ref v0), none, none, none, some (.int v4)]) (And.intro rfl (And.intro rfl trivial)) (tb_X12_doesF_494 n v0 v4 σ248 h)
def b_X12_doesF_375 (n : Nat) (v0 : Nat) (v4 : Int32) (s0 : UInt64) (s1 : Int32) (s2 : Nat) (σ : Sg) : Option Sg :=
  ck (okW σ s2 12 s1) <|
  nm (pD σ s2 s1.toNatClampNeg s0) fun σ296 =>
  b_X12_doesF_494 n v0 v4 σ296
set_option maxRecDepth 20000 in
theorem tb_X12_doesF_375 {G : Gl} {σr : Sg} (n : Nat) (v0 : Nat) (v4 : Int32) (s0 : UInt64) (s1 : Int32) (s2 : Nat) (σ : Sg) (h : b_X12_doesF_375 n v0 v4 s0 s1 s2 σ = some σr) : RN G M_X12_doesF 375 [some (.ref v0), none, none, none, some (.int v4)] [.double s0, .int s1, .ref s2] σ (.inl none) σr := by
  unfold b_X12_doesF_375 at h
  obtain ⟨c295, h⟩ := ck_el h
  refine RN_dast (pc := 375) (by decide +kernel) c295 ?_
  obtain ⟨σ296, eσ296, h⟩ := nm_el h
  refine RN_nmS eσ296 ?_
  refine RN_goto (pc := 376) (off := 118) (tgt := 494) (by decide +kernel) (by decide) ?_
  exact RN_weak (l := [some (.ref v0), none, none, none, some (.int v4)]) (And.intro rfl (And.intro rfl trivial)) (tb_X12_doesF_494 n v0 v4 σ296 h)
def b_X12_doesF_349 (n : Nat) (v0 : Nat) (v4 : Int32) (v6 : Int32) (s0 : Int32) (σ : Sg) : Option Sg :=
  ck (okO σ v0 11) <|
  ck (¬ gR σ v0 43 = 0) <|
  nm (gR σ v0 43) fun r291 =>
  if s0 = 0 then (
    nm (gR σ v0 43) fun r293 =>
    ck (okA σ r293 12 v4) <|
    b_X12_doesF_375 n v0 v4 (gD σ r293 v4.toNatClampNeg) v4 r291 σ)
  else (
    b_X12_doesF_375 n v0 v4 (FP.i2d v6) v4 r291 σ)
set_option maxRecDepth 20000 in
theorem tb_X12_doesF_349 {G : Gl} {σr : Sg} (n : Nat) (v0 : Nat) (v4 : Int32) (v6 : Int32) (s0 : Int32) (σ : Sg) (h : b_X12_doesF_349 n v0 v4 v6 s0 σ = some σr) : RN G M_X12_doesF 349 [some (.ref v0), none, none, none, some (.int v4), none, some (.int v6)] [.int s0] σ (.inl none) σr := by
  unfold b_X12_doesF_349 at h
  refine RN_istore (pc := 349) (i := 9) (ls2 := [some (.ref v0), none, none, none, some (.int v4), none, some (.int v6), none, none, some (.int s0)]) (by decide +kernel) (by decide) rfl ?_
  refine RN_aload_n (pc := 351) (k := 0) (by decide +kernel) rfl rfl ?_
  obtain ⟨c289, h⟩ := ck_el h
  obtain ⟨c290, h⟩ := ck_el h
  refine RN_getR (pc := 352) (idx := 103) (ci := 11) (k := 43) (by decide +kernel) lf_RX12_103 rfl c289 c290 ?_
  obtain ⟨r291, er291, h⟩ := nm_el h
  refine RN_nmR er291 ?_
  refine RN_iload (pc := 355) (i := 4) (by decide +kernel) rfl ?_
  refine RN_iload (pc := 357) (i := 9) (by decide +kernel) rfl ?_
  refine RN_if_eq (pc := 359) (off := 9) (tgt := 368) (by decide +kernel) (by decide) (fun c292 => ?_) (fun c292 => ?_)
  · replace h := it_t c292 h
    refine RN_aload_n (pc := 368) (k := 0) (by decide +kernel) rfl rfl ?_
    refine RN_getR (pc := 369) (idx := 103) (ci := 11) (k := 43) (by decide +kernel) lf_RX12_103 rfl c289 c290 ?_
    obtain ⟨r293, er293, h⟩ := nm_el h
    refine RN_nmR er293 ?_
    refine RN_iload (pc := 372) (i := 4) (by decide +kernel) rfl ?_
    obtain ⟨c294, h⟩ := ck_el h
    refine RN_dald (pc := 374) (by decide +kernel) c294 ?_
    exact RN_weak (l := [some (.ref v0), none, none, none, some (.int v4)]) (And.intro rfl (And.intro rfl trivial)) (tb_X12_doesF_375 n v0 v4 (gD σ r293 v4.toNatClampNeg) v4 r291 σ h)
  · replace h := it_f c292 h
    refine RN_iload (pc := 362) (i := 6) (by decide +kernel) rfl ?_
    refine RN_i2d (pc := 364) (by decide +kernel) ?_
    refine RN_goto (pc := 365) (off := 10) (tgt := 375) (by decide +kernel) (by decide) ?_
    exact RN_weak (l := [some (.ref v0), none, none, none, some (.int v4)]) (And.intro rfl (And.intro rfl trivial)) (tb_X12_doesF_375 n v0 v4 (FP.i2d v6) v4 r291 σ h)
def b_X12_doesF_415 (n : Nat) (v0 : Nat) (v4 : Int32) (s0 : Int64) (s1 : Int64) (s2 : Int32) (s3 : Nat) (σ : Sg) : Option Sg :=
  ck (okW σ s3 14 s2) <|
  nm (pJ σ s3 s2.toNatClampNeg (s1 + s0)) fun σ310 =>
  b_X12_doesF_494 n v0 v4 σ310
set_option maxRecDepth 20000 in
theorem tb_X12_doesF_415 {G : Gl} {σr : Sg} (n : Nat) (v0 : Nat) (v4 : Int32) (s0 : Int64) (s1 : Int64) (s2 : Int32) (s3 : Nat) (σ : Sg) (h : b_X12_doesF_415 n v0 v4 s0 s1 s2 s3 σ = some σr) : RN G M_X12_doesF 415 [some (.ref v0), none, none, none, some (.int v4)] [.long s0, .long s1, .int s2, .ref s3] σ (.inl none) σr := by
  unfold b_X12_doesF_415 at h
  refine RN_ladd (pc := 415) (by decide +kernel) ?_
  obtain ⟨c309, h⟩ := ck_el h
  refine RN_last (pc := 416) (by decide +kernel) c309 ?_
  obtain ⟨σ310, eσ310, h⟩ := nm_el h
  refine RN_nmS eσ310 ?_
  refine RN_goto (pc := 417) (off := 77) (tgt := 494) (by decide +kernel) (by decide) ?_
  exact RN_weak (l := [some (.ref v0), none, none, none, some (.int v4)]) (And.intro rfl (And.intro rfl trivial)) (tb_X12_doesF_494 n v0 v4 σ310 h)
def b_X12_doesF_446 : Nat → Nat → Int32 → Int32 → Int32 → Int32 → Sg → Option Sg
  | 0, _, _, _, _, _, _ => none
  | n + 1, v0, v4, v5, v6, v10, σ =>
  if v6 ≤ v10 then (
    b_X12_doesF_494 n v0 v4 σ)
  else (
    ck (okO σ v0 11) <|
    ck (¬ gR σ v0 43 = 0) <|
    nm (gR σ v0 43) fun r327 =>
    ck (okA σ r327 12 v4) <|
    nm (gR σ v0 43) fun r329 =>
    ck (okA σ r329 12 v4) <|
    bp (f_X12_rateF v0 v5 σ) fun x332 =>
    ck (n64 (FP.dmul (gD σ r329 v4.toNatClampNeg) x332)) <|
    bd (f_X12_roundedF (FP.dmul (gD σ r329 v4.toNatClampNeg) x332) (FP.dconst1) (1 : Int32) σ) fun x336 σ335 =>
    ck (n64 (FP.dadd (gD σ r327 v4.toNatClampNeg) x336)) <|
    ck (okW σ335 r327 12 v4) <|
    nm (pD σ335 r327 v4.toNatClampNeg (FP.dadd (gD σ r327 v4.toNatClampNeg) x336)) fun σ339 =>
    ck (okO σ339 v0 11) <|
    bp (f_X12_keepsF v0 v4 σ339) fun σ342 =>
    nm (v10 + (1 : Int32)) fun x343 =>
    b_X12_doesF_446 n v0 v4 v5 v6 x343 σ342)
set_option maxRecDepth 20000 in
theorem tb_X12_doesF_446 {G : Gl} {σr : Sg} (v0 : Nat) (v4 : Int32) (v5 : Int32) (v6 : Int32) : ∀ (n : Nat) (v10 : Int32) (σ : Sg), b_X12_doesF_446 n v0 v4 v5 v6 v10 σ = some σr → RN G M_X12_doesF 446 [some (.ref v0), none, none, none, some (.int v4), some (.int v5), some (.int v6), none, none, none, some (.int v10)] [] σ (.inl none) σr := by
  intro n
  induction n with
  | zero =>
    intro v10 σ h
    exact none_el h
  | succ n ih =>
    intro v10 σ h
    rw [b_X12_doesF_446] at h
    refine RN_iload (pc := 446) (i := 10) (by decide +kernel) rfl ?_
    refine RN_iload (pc := 448) (i := 6) (by decide +kernel) rfl ?_
    refine RN_icmp_ge (pc := 450) (off := 44) (tgt := 494) (by decide +kernel) (by decide) (fun c324 => ?_) (fun c324 => ?_)
    · replace h := it_t c324 h
      exact RN_weak (l := [some (.ref v0), none, none, none, some (.int v4)]) (And.intro rfl (And.intro rfl trivial)) (tb_X12_doesF_494 n v0 v4 σ h)
    · replace h := it_f c324 h
      refine RN_aload_n (pc := 453) (k := 0) (by decide +kernel) rfl rfl ?_
      obtain ⟨c325, h⟩ := ck_el h
      obtain ⟨c326, h⟩ := ck_el h
      refine RN_getR (pc := 454) (idx := 103) (ci := 11) (k := 43) (by decide +kernel) lf_RX12_103 rfl c325 c326 ?_
      obtain ⟨r327, er327, h⟩ := nm_el h
      refine RN_nmR er327 ?_
      refine RN_iload (pc := 457) (i := 4) (by decide +kernel) rfl ?_
      refine RN_dup2_11 (pc := 459) (by decide +kernel) rfl rfl ?_
      obtain ⟨c328, h⟩ := ck_el h
      refine RN_dald (pc := 460) (by decide +kernel) c328 ?_
      refine RN_aload_n (pc := 461) (k := 0) (by decide +kernel) rfl rfl ?_
      refine RN_getR (pc := 462) (idx := 103) (ci := 11) (k := 43) (by decide +kernel) lf_RX12_103 rfl c325 c326 ?_
      obtain ⟨r329, er329, h⟩ := nm_el h
      refine RN_nmR er329 ?_
      refine RN_iload (pc := 465) (i := 4) (by decide +kernel) rfl ?_
      obtain ⟨c330, h⟩ := ck_el h
      refine RN_dald (pc := 467) (by decide +kernel) c330 ?_
      refine RN_aload_n (pc := 468) (k := 0) (by decide +kernel) rfl rfl ?_
      refine RN_iload (pc := 469) (i := 5) (by decide +kernel) rfl ?_
      obtain ⟨x332, f331, h⟩ := bp_el h
      refine RN_callV (M := M_X12_doesF) (pc := 471) (idx := 321) (as := [.int v5]) (st := [.double (gD σ r329 v4.toNatClampNeg), .double (gD σ r327 v4.toNatClampNeg), .int v4, .ref r327]) (t_X12_rateF f331) (by decide +kernel) lk_RX12_321 rfl ⟨by decide, fun q hq => by cases hq; rfl⟩ c325 (Nat.le_of_ble_eq_true rfl) ⟨Nat.le_of_ble_eq_true rfl, Nat.le_of_ble_eq_true rfl⟩ rfl ?_
      show RN G M_X12_doesF 474 [some (.ref v0), none, none, none, some (.int v4), some (.int v5), some (.int v6), none, none, none, some (.int v10)] [.double x332, .double (gD σ r329 v4.toNatClampNeg), .double (gD σ r327 v4.toNatClampNeg), .int v4, .ref r327] σ _ _
      obtain ⟨c333, h⟩ := ck_el h
      refine RN_dmul (pc := 474) (by decide +kernel) c333 ?_
      refine RN_dconst1 (pc := 475) (by decide +kernel) ?_
      refine RN_iconst (pc := 476) (n := 1) (v := 1) (by decide +kernel) (by decide) ?_
      obtain ⟨x336, σ335, f334, h⟩ := bd_el h
      refine RN_callS (M := M_X12_doesF) (pc := 477) (idx := 325) (as := [.double (FP.dmul (gD σ r329 v4.toNatClampNeg) x332), .double (FP.dconst1), .int (1 : Int32)]) (st := [.double (gD σ r327 v4.toNatClampNeg), .int v4, .ref r327]) (t_X12_roundedF f334) (by decide +kernel) lk_RX12_325 rfl (Nat.le_of_ble_eq_true rfl) ⟨Nat.le_of_ble_eq_true rfl, Nat.le_of_ble_eq_true rfl⟩ rfl ?_
      show RN G M_X12_doesF 480 [some (.ref v0), none, none, none, some (.int v4), some (.int v5), some (.int v6), none, none, none, some (.int v10)] [.double x336, .double (gD σ r327 v4.toNatClampNeg), .int v4, .ref r327] σ335 _ _
      obtain ⟨c337, h⟩ := ck_el h
      refine RN_dadd (pc := 480) (by decide +kernel) c337 ?_
      obtain ⟨c338, h⟩ := ck_el h
      refine RN_dast (pc := 481) (by decide +kernel) c338 ?_
      obtain ⟨σ339, eσ339, h⟩ := nm_el h
      refine RN_nmS eσ339 ?_
      refine RN_aload_n (pc := 482) (k := 0) (by decide +kernel) rfl rfl ?_
      refine RN_iload (pc := 483) (i := 4) (by decide +kernel) rfl ?_
      obtain ⟨c340, h⟩ := ck_el h
      obtain ⟨σ342, f341, h⟩ := bp_el h
      refine RN_callV (M := M_X12_doesF) (pc := 485) (idx := 336) (as := [.int v4]) (st := []) (t_X12_keepsF f341) (by decide +kernel) lk_RX12_336 rfl ⟨by decide, fun q hq => by cases hq; rfl⟩ c340 (Nat.le_of_ble_eq_true rfl) ⟨Nat.le_of_ble_eq_true rfl, Nat.le_of_ble_eq_true rfl⟩ rfl ?_
      show RN G M_X12_doesF 488 [some (.ref v0), none, none, none, some (.int v4), some (.int v5), some (.int v6), none, none, none, some (.int v10)] [] σ342 _ _
      obtain ⟨x343, ex343, h⟩ := nm_el h
      refine RN_iinc (pc := 488) (i := 10) (n := 1) (v := x343) (ls2 := [some (.ref v0), none, none, none, some (.int v4), some (.int v5), some (.int v6), none, none, none, some (.int x343)]) (by decide +kernel) rfl (by rw [ex343]; rfl) (by decide) rfl ?_
      refine RN_goto (pc := 491) (off := -45) (tgt := 446) (by decide +kernel) (by decide) ?_
      exact RN_weak (l := [some (.ref v0), none, none, none, some (.int v4), some (.int v5), some (.int v6), none, none, none, some (.int x343)]) (And.intro rfl (And.intro rfl (And.intro rfl (And.intro rfl (And.intro rfl trivial))))) (ih x343 σ342 h)
def f_X12_doesF (n : Nat) (v0 : Nat) (v1 : Int32) (v2 : UInt64) (σ : Sg) : Option Sg :=
  ck (okO σ v0 11) <|
  ck (¬ gR σ v0 10 = 0) <|
  nm (gR σ v0 10) fun r169 =>
  ck (okA σ r169 13 v1) <|
  nm (gI σ r169 v1.toNatClampNeg) fun x171 =>
  ck (¬ gR σ v0 11 = 0) <|
  nm (gR σ v0 11) fun r173 =>
  ck (okA σ r173 13 v1) <|
  nm (gI σ r173 v1.toNatClampNeg) fun x175 =>
  ck (¬ gR σ v0 12 = 0) <|
  nm (gR σ v0 12) fun r177 =>
  ck (okA σ r177 13 v1) <|
  nm (gI σ r177 v1.toNatClampNeg) fun x179 =>
  ck (¬ gR σ v0 9 = 0) <|
  nm (gR σ v0 9) fun r181 =>
  ck (okA σ r181 13 v1) <|
  if (gI σ r181 v1.toNatClampNeg) = 0 then (
    ck (¬ gR σ v0 43 = 0) <|
    nm (gR σ v0 43) fun r185 =>
    ck (n64 (FP.dadd (FP.dconst0) v2)) <|
    ck (okW σ r185 12 x171) <|
    nm (pD σ r185 x171.toNatClampNeg (FP.dadd (FP.dconst0) v2)) fun σ188 =>
    b_X12_doesF_494 n v0 x171 σ188)
  else (
  if (gI σ r181 v1.toNatClampNeg) = 1 then (
    ck (¬ gR σ v0 43 = 0) <|
    nm (gR σ v0 43) fun r194 =>
    ck (n64 (FP.dadd (FP.dconst0) v2)) <|
    bp (f_X12_rateF v0 x175 σ) fun x197 =>
    ck (n64 (FP.dmul (FP.dadd (FP.dconst0) v2) x197)) <|
    bd (f_X12_roundedF (FP.dmul (FP.dadd (FP.dconst0) v2) x197) (FP.dconst1) x179 σ) fun x201 σ200 =>
    ck (n64 (FP.dadd (FP.dconst0) x201)) <|
    ck (okW σ200 r194 12 x171) <|
    nm (pD σ200 r194 x171.toNatClampNeg (FP.dadd (FP.dconst0) x201)) fun σ204 =>
    b_X12_doesF_494 n v0 x171 σ204)
  else (
  if (gI σ r181 v1.toNatClampNeg) = 2 then (
    ck (¬ gR σ v0 43 = 0) <|
    nm (gR σ v0 43) fun r207 =>
    ck (n64 (FP.dadd (FP.dconst0) v2)) <|
    bp (f_X12_rateF v0 x175 σ) fun x210 =>
    ck (n64 (FP.dmul (FP.dadd (FP.dconst0) v2) x210)) <|
    bd (f_X12_roundedF (FP.dmul (FP.dadd (FP.dconst0) v2) x210) (FP.dconst1) x179 σ) fun x214 σ213 =>
    ck (n64 (FP.dadd (FP.dconst0) x214)) <|
    ck (okW σ213 r207 12 x171) <|
    nm (pD σ213 r207 x171.toNatClampNeg (FP.dadd (FP.dconst0) x214)) fun σ217 =>
    b_X12_doesF_494 n v0 x171 σ217)
  else (
  if (gI σ r181 v1.toNatClampNeg) = 3 then (
    ck (¬ gR σ v0 43 = 0) <|
    nm (gR σ v0 43) fun r220 =>
    nm (gR σ v0 43) fun r221 =>
    ck (okA σ r221 12 x175) <|
    bp (f_X12_rateF v0 x179 σ) fun x224 =>
    ck (n64 (FP.dmul (gD σ r221 x175.toNatClampNeg) x224)) <|
    ck (okW σ r220 12 x171) <|
    nm (pD σ r220 x171.toNatClampNeg (FP.dmul (gD σ r221 x175.toNatClampNeg) x224)) fun σ227 =>
    b_X12_doesF_494 n v0 x171 σ227)
  else (
  if (gI σ r181 v1.toNatClampNeg) = 4 then (
    ck (¬ gR σ v0 43 = 0) <|
    nm (gR σ v0 43) fun r230 =>
    nm (gR σ v0 43) fun r231 =>
    ck (okA σ r231 12 x171) <|
    bd (f_X12_roundedF (gD σ r231 x171.toNatClampNeg) (FP.i2d x179) x175 σ) fun x235 σ234 =>
    ck (okW σ234 r230 12 x171) <|
    nm (pD σ234 r230 x171.toNatClampNeg x235) fun σ237 =>
    b_X12_doesF_494 n v0 x171 σ237)
  else (
  if (gI σ r181 v1.toNatClampNeg) = 5 then (
    ck (¬ gR σ v0 43 = 0) <|
    nm (gR σ v0 43) fun r240 =>
    if x179 = 0 then (
      nm (gR σ v0 43) fun r249 =>
      ck (okA σ r249 12 x171) <|
      nm (gR σ v0 43) fun r251 =>
      ck (okA σ r251 12 x175) <|
      ck (n64 (FP.dadd (gD σ r249 x171.toNatClampNeg) (gD σ r251 x175.toNatClampNeg))) <|
      b_X12_doesF_226 n v0 x171 (FP.dadd (gD σ r249 x171.toNatClampNeg) (gD σ r251 x175.toNatClampNeg)) x171 r240 σ)
    else (
      nm (gR σ v0 43) fun r242 =>
      ck (okA σ r242 12 x171) <|
      nm (gR σ v0 43) fun r244 =>
      ck (okA σ r244 12 x175) <|
      ck (n64 (FP.dsub (gD σ r242 x171.toNatClampNeg) (gD σ r244 x175.toNatClampNeg))) <|
      b_X12_doesF_226 n v0 x171 (FP.dsub (gD σ r242 x171.toNatClampNeg) (gD σ r244 x175.toNatClampNeg)) x171 r240 σ))
  else (
  if (gI σ r181 v1.toNatClampNeg) = 6 then (
    bp (f_X12_splitsF n v0 x171 x175 x179 σ) fun σ256 =>
    b_X12_doesF_494 n v0 x171 σ256)
  else (
  if (gI σ r181 v1.toNatClampNeg) = 7 then (
    ck (¬ gR σ v0 43 = 0) <|
    nm (gR σ v0 43) fun r259 =>
    ck (¬ gR σ v0 44 = 0) <|
    nm (gR σ v0 44) fun r261 =>
    ck (okA σ r261 12 x175) <|
    ck (okW σ r259 12 x171) <|
    nm (pD σ r259 x171.toNatClampNeg (gD σ r261 x175.toNatClampNeg)) fun σ264 =>
    b_X12_doesF_494 n v0 x171 σ264)
  else (
  if (gI σ r181 v1.toNatClampNeg) = 8 then (
    ck (¬ gR σ v0 43 = 0) <|
    nm (gR σ v0 43) fun r267 =>
    ck (okA σ r267 12 x171) <|
    ck (n64 (FP.dadd (gD σ v0 45) (gD σ r267 x171.toNatClampNeg))) <|
    nm (FP.dadd (gD σ v0 45) (gD σ r267 x171.toNatClampNeg)) fun x270 =>
    nm (gR σ v0 43) fun r271 =>
    bd (f_J9_floor_294c1 x270 σ) fun x274 σ273 =>
    ck (okW σ273 r271 12 x171) <|
    nm (pD σ273 r271 x171.toNatClampNeg x274) fun σ276 =>
    ck (okO σ276 v0 11) <|
    ck (¬ gR σ276 v0 43 = 0) <|
    nm (gR σ276 v0 43) fun r279 =>
    ck (okA σ276 r279 12 x171) <|
    ck (n64 (FP.dsub x270 (gD σ276 r279 x171.toNatClampNeg))) <|
    nm (pD σ276 v0 45 (FP.dsub x270 (gD σ276 r279 x171.toNatClampNeg))) fun σ282 =>
    b_X12_doesF_494 n v0 x171 σ282)
  else (
  if (gI σ r181 v1.toNatClampNeg) = 9 then (
    if x175 = 0 then (
      ck (¬ gR σ v0 43 = 0) <|
      nm (gR σ v0 43) fun r298 =>
      ck (okA σ r298 12 x171) <|
      if (Op.cmpValue (FP.dcmp (gD σ r298 x171.toNatClampNeg) (FP.i2d x179)) .l) ≤ 0 then (
        b_X12_doesF_349 n v0 x171 x179 (0 : Int32) σ)
      else (
        b_X12_doesF_349 n v0 x171 x179 (1 : Int32) σ))
    else (
      ck (¬ gR σ v0 43 = 0) <|
      nm (gR σ v0 43) fun r286 =>
      ck (okA σ r286 12 x171) <|
      if 0 ≤ (Op.cmpValue (FP.dcmp (gD σ r286 x171.toNatClampNeg) (FP.i2d x179)) .g) then (
        b_X12_doesF_349 n v0 x171 x179 (0 : Int32) σ)
      else (
        b_X12_doesF_349 n v0 x171 x179 (1 : Int32) σ)))
  else (
  if (gI σ r181 v1.toNatClampNeg) = 10 then (
    ck (¬ gR σ v0 23 = 0) <|
    nm (gR σ v0 23) fun r303 =>
    ck (okA σ r303 14 ((8 : Int32) + x175)) <|
    if x179 = 0 then (
      ck (¬ gR σ v0 43 = 0) <|
      nm (gR σ v0 43) fun r312 =>
      ck (okA σ r312 12 x171) <|
      b_X12_doesF_415 n v0 x171 (FP.d2l (gD σ r312 x171.toNatClampNeg)) (gJ σ r303 ((8 : Int32) + x175).toNatClampNeg) ((8 : Int32) + x175) r303 σ)
    else (
      ck (¬ gR σ v0 43 = 0) <|
      nm (gR σ v0 43) fun r307 =>
      ck (okA σ r307 12 x171) <|
      b_X12_doesF_415 n v0 x171 (-(FP.d2l (gD σ r307 x171.toNatClampNeg))) (gJ σ r303 ((8 : Int32) + x175).toNatClampNeg) ((8 : Int32) + x175) r303 σ))
  else (
  if (gI σ r181 v1.toNatClampNeg) = 11 then (
    ck (¬ gR σ v0 43 = 0) <|
    nm (gR σ v0 43) fun r316 =>
    nm (gR σ v0 43) fun r317 =>
    ck (okA σ r317 12 x175) <|
    bd (f_X12_roundedF (gD σ r317 x175.toNatClampNeg) (FP.dconst1) x179 σ) fun x321 σ320 =>
    ck (okW σ320 r316 12 x171) <|
    nm (pD σ320 r316 x171.toNatClampNeg x321) fun σ323 =>
    b_X12_doesF_494 n v0 x171 σ323)
  else (
    b_X12_doesF_446 n v0 x171 x175 x179 (0 : Int32) σ))))))))))))
set_option maxRecDepth 20000 in
theorem t_X12_doesF {G : Gl} {σr : Sg} {n : Nat} {v0 : Nat} {v1 : Int32} {v2 : UInt64} {σ : Sg} (h : f_X12_doesF n v0 v1 v2 σ = some σr) : MT G M_X12_doesF [.ref v0, .int v1, .double v2] σ none σr := by
  refine MT_of rfl rfl (Nat.le_of_ble_eq_true rfl) ?_
  show RN G M_X12_doesF 0 [some (.ref v0), some (.int v1), some (.double v2), none] [] σ (.inl none) σr
  unfold f_X12_doesF at h
  refine RN_aload_n (pc := 0) (k := 0) (by decide +kernel) rfl rfl ?_
  obtain ⟨c167, h⟩ := ck_el h
  obtain ⟨c168, h⟩ := ck_el h
  refine RN_getR (pc := 1) (idx := 31) (ci := 11) (k := 10) (by decide +kernel) lf_RX12_31 rfl c167 c168 ?_
  obtain ⟨r169, er169, h⟩ := nm_el h
  refine RN_nmR er169 ?_
  refine RN_iload_n (pc := 4) (k := 1) (by decide +kernel) rfl rfl ?_
  obtain ⟨c170, h⟩ := ck_el h
  refine RN_iald (pc := 5) (by decide +kernel) c170 ?_
  obtain ⟨x171, ex171, h⟩ := nm_el h
  refine RN_nmI ex171 ?_
  refine RN_istore (pc := 6) (i := 4) (ls2 := [some (.ref v0), some (.int v1), some (.double v2), none, some (.int x171)]) (by decide +kernel) (by decide) rfl ?_
  refine RN_aload_n (pc := 8) (k := 0) (by decide +kernel) rfl rfl ?_
  obtain ⟨c172, h⟩ := ck_el h
  refine RN_getR (pc := 9) (idx := 34) (ci := 11) (k := 11) (by decide +kernel) lf_RX12_34 rfl c167 c172 ?_
  obtain ⟨r173, er173, h⟩ := nm_el h
  refine RN_nmR er173 ?_
  refine RN_iload_n (pc := 12) (k := 1) (by decide +kernel) rfl rfl ?_
  obtain ⟨c174, h⟩ := ck_el h
  refine RN_iald (pc := 13) (by decide +kernel) c174 ?_
  obtain ⟨x175, ex175, h⟩ := nm_el h
  refine RN_nmI ex175 ?_
  refine RN_istore (pc := 14) (i := 5) (ls2 := [some (.ref v0), some (.int v1), some (.double v2), none, some (.int x171), some (.int x175)]) (by decide +kernel) (by decide) rfl ?_
  refine RN_aload_n (pc := 16) (k := 0) (by decide +kernel) rfl rfl ?_
  obtain ⟨c176, h⟩ := ck_el h
  refine RN_getR (pc := 17) (idx := 37) (ci := 11) (k := 12) (by decide +kernel) lf_RX12_37 rfl c167 c176 ?_
  obtain ⟨r177, er177, h⟩ := nm_el h
  refine RN_nmR er177 ?_
  refine RN_iload_n (pc := 20) (k := 1) (by decide +kernel) rfl rfl ?_
  obtain ⟨c178, h⟩ := ck_el h
  refine RN_iald (pc := 21) (by decide +kernel) c178 ?_
  obtain ⟨x179, ex179, h⟩ := nm_el h
  refine RN_nmI ex179 ?_
  refine RN_istore (pc := 22) (i := 6) (ls2 := [some (.ref v0), some (.int v1), some (.double v2), none, some (.int x171), some (.int x175), some (.int x179)]) (by decide +kernel) (by decide) rfl ?_
  refine RN_aload_n (pc := 24) (k := 0) (by decide +kernel) rfl rfl ?_
  obtain ⟨c180, h⟩ := ck_el h
  refine RN_getR (pc := 25) (idx := 28) (ci := 11) (k := 9) (by decide +kernel) lf_RX12_28 rfl c167 c180 ?_
  obtain ⟨r181, er181, h⟩ := nm_el h
  refine RN_nmR er181 ?_
  refine RN_iload_n (pc := 28) (k := 1) (by decide +kernel) rfl rfl ?_
  obtain ⟨c182, h⟩ := ck_el h
  refine RN_iald (pc := 29) (by decide +kernel) c182 ?_
  by_cases c183 : (gI σ r181 v1.toNatClampNeg) = 0
  · replace h := it_t c183 h
    refine RN_tsw (pc := 30) (dflt := 413) (lo := 0) (hi := 11) (offs := #[62, 75, 75, 103, 127, 152, 200, 213, 230, 273, 349, 390]) (len := 62) (v := 0) (off := 62) (tgt := 92) c183 (by decide +kernel) (by decide) (by decide) (by decide +kernel) (by decide) ?_
    refine RN_aload_n (pc := 92) (k := 0) (by decide +kernel) rfl rfl ?_
    obtain ⟨c184, h⟩ := ck_el h
    refine RN_getR (pc := 93) (idx := 103) (ci := 11) (k := 43) (by decide +kernel) lf_RX12_103 rfl c167 c184 ?_
    obtain ⟨r185, er185, h⟩ := nm_el h
    refine RN_nmR er185 ?_
    refine RN_iload (pc := 96) (i := 4) (by decide +kernel) rfl ?_
    refine RN_dconst0 (pc := 98) (by decide +kernel) ?_
    refine RN_dload_n (pc := 99) (k := 2) (by decide +kernel) rfl rfl ?_
    obtain ⟨c186, h⟩ := ck_el h
    refine RN_dadd (pc := 100) (by decide +kernel) c186 ?_
    obtain ⟨c187, h⟩ := ck_el h
    refine RN_dast (pc := 101) (by decide +kernel) c187 ?_
    obtain ⟨σ188, eσ188, h⟩ := nm_el h
    refine RN_nmS eσ188 ?_
    refine RN_goto (pc := 102) (off := 392) (tgt := 494) (by decide +kernel) (by decide) ?_
    exact RN_weak (l := [some (.ref v0), none, none, none, some (.int x171)]) (And.intro rfl (And.intro rfl trivial)) (tb_X12_doesF_494 n v0 x171 σ188 h)
  · replace h := it_f c183 h
    by_cases c192 : (gI σ r181 v1.toNatClampNeg) = 1
    · replace h := it_t c192 h
      refine RN_tsw (pc := 30) (dflt := 413) (lo := 0) (hi := 11) (offs := #[62, 75, 75, 103, 127, 152, 200, 213, 230, 273, 349, 390]) (len := 62) (v := 1) (off := 75) (tgt := 105) c192 (by decide +kernel) (by decide) (by decide) (by decide +kernel) (by decide) ?_
      refine RN_aload_n (pc := 105) (k := 0) (by decide +kernel) rfl rfl ?_
      obtain ⟨c193, h⟩ := ck_el h
      refine RN_getR (pc := 106) (idx := 103) (ci := 11) (k := 43) (by decide +kernel) lf_RX12_103 rfl c167 c193 ?_
      obtain ⟨r194, er194, h⟩ := nm_el h
      refine RN_nmR er194 ?_
      refine RN_iload (pc := 109) (i := 4) (by decide +kernel) rfl ?_
      refine RN_dconst0 (pc := 111) (by decide +kernel) ?_
      refine RN_dconst0 (pc := 112) (by decide +kernel) ?_
      refine RN_dload_n (pc := 113) (k := 2) (by decide +kernel) rfl rfl ?_
      obtain ⟨c195, h⟩ := ck_el h
      refine RN_dadd (pc := 114) (by decide +kernel) c195 ?_
      refine RN_aload_n (pc := 115) (k := 0) (by decide +kernel) rfl rfl ?_
      refine RN_iload (pc := 116) (i := 5) (by decide +kernel) rfl ?_
      obtain ⟨x197, f196, h⟩ := bp_el h
      refine RN_callV (M := M_X12_doesF) (pc := 118) (idx := 321) (as := [.int x175]) (st := [.double (FP.dadd (FP.dconst0) v2), .double (FP.dconst0), .int x171, .ref r194]) (t_X12_rateF f196) (by decide +kernel) lk_RX12_321 rfl ⟨by decide, fun q hq => by cases hq; rfl⟩ c167 (Nat.le_of_ble_eq_true rfl) ⟨Nat.le_of_ble_eq_true rfl, Nat.le_of_ble_eq_true rfl⟩ rfl ?_
      show RN G M_X12_doesF 121 [some (.ref v0), some (.int v1), some (.double v2), none, some (.int x171), some (.int x175), some (.int x179)] [.double x197, .double (FP.dadd (FP.dconst0) v2), .double (FP.dconst0), .int x171, .ref r194] σ _ _
      obtain ⟨c198, h⟩ := ck_el h
      refine RN_dmul (pc := 121) (by decide +kernel) c198 ?_
      refine RN_dconst1 (pc := 122) (by decide +kernel) ?_
      refine RN_iload (pc := 123) (i := 6) (by decide +kernel) rfl ?_
      obtain ⟨x201, σ200, f199, h⟩ := bd_el h
      refine RN_callS (M := M_X12_doesF) (pc := 125) (idx := 325) (as := [.double (FP.dmul (FP.dadd (FP.dconst0) v2) x197), .double (FP.dconst1), .int x179]) (st := [.double (FP.dconst0), .int x171, .ref r194]) (t_X12_roundedF f199) (by decide +kernel) lk_RX12_325 rfl (Nat.le_of_ble_eq_true rfl) ⟨Nat.le_of_ble_eq_true rfl, Nat.le_of_ble_eq_true rfl⟩ rfl ?_
      show RN G M_X12_doesF 128 [some (.ref v0), some (.int v1), some (.double v2), none, some (.int x171), some (.int x175), some (.int x179)] [.double x201, .double (FP.dconst0), .int x171, .ref r194] σ200 _ _
      obtain ⟨c202, h⟩ := ck_el h
      refine RN_dadd (pc := 128) (by decide +kernel) c202 ?_
      obtain ⟨c203, h⟩ := ck_el h
      refine RN_dast (pc := 129) (by decide +kernel) c203 ?_
      obtain ⟨σ204, eσ204, h⟩ := nm_el h
      refine RN_nmS eσ204 ?_
      refine RN_goto (pc := 130) (off := 364) (tgt := 494) (by decide +kernel) (by decide) ?_
      exact RN_weak (l := [some (.ref v0), none, none, none, some (.int x171)]) (And.intro rfl (And.intro rfl trivial)) (tb_X12_doesF_494 n v0 x171 σ204 h)
    · replace h := it_f c192 h
      by_cases c205 : (gI σ r181 v1.toNatClampNeg) = 2
      · replace h := it_t c205 h
        refine RN_tsw (pc := 30) (dflt := 413) (lo := 0) (hi := 11) (offs := #[62, 75, 75, 103, 127, 152, 200, 213, 230, 273, 349, 390]) (len := 62) (v := 2) (off := 75) (tgt := 105) c205 (by decide +kernel) (by decide) (by decide) (by decide +kernel) (by decide) ?_
        refine RN_aload_n (pc := 105) (k := 0) (by decide +kernel) rfl rfl ?_
        obtain ⟨c206, h⟩ := ck_el h
        refine RN_getR (pc := 106) (idx := 103) (ci := 11) (k := 43) (by decide +kernel) lf_RX12_103 rfl c167 c206 ?_
        obtain ⟨r207, er207, h⟩ := nm_el h
        refine RN_nmR er207 ?_
        refine RN_iload (pc := 109) (i := 4) (by decide +kernel) rfl ?_
        refine RN_dconst0 (pc := 111) (by decide +kernel) ?_
        refine RN_dconst0 (pc := 112) (by decide +kernel) ?_
        refine RN_dload_n (pc := 113) (k := 2) (by decide +kernel) rfl rfl ?_
        obtain ⟨c208, h⟩ := ck_el h
        refine RN_dadd (pc := 114) (by decide +kernel) c208 ?_
        refine RN_aload_n (pc := 115) (k := 0) (by decide +kernel) rfl rfl ?_
        refine RN_iload (pc := 116) (i := 5) (by decide +kernel) rfl ?_
        obtain ⟨x210, f209, h⟩ := bp_el h
        refine RN_callV (M := M_X12_doesF) (pc := 118) (idx := 321) (as := [.int x175]) (st := [.double (FP.dadd (FP.dconst0) v2), .double (FP.dconst0), .int x171, .ref r207]) (t_X12_rateF f209) (by decide +kernel) lk_RX12_321 rfl ⟨by decide, fun q hq => by cases hq; rfl⟩ c167 (Nat.le_of_ble_eq_true rfl) ⟨Nat.le_of_ble_eq_true rfl, Nat.le_of_ble_eq_true rfl⟩ rfl ?_
        show RN G M_X12_doesF 121 [some (.ref v0), some (.int v1), some (.double v2), none, some (.int x171), some (.int x175), some (.int x179)] [.double x210, .double (FP.dadd (FP.dconst0) v2), .double (FP.dconst0), .int x171, .ref r207] σ _ _
        obtain ⟨c211, h⟩ := ck_el h
        refine RN_dmul (pc := 121) (by decide +kernel) c211 ?_
        refine RN_dconst1 (pc := 122) (by decide +kernel) ?_
        refine RN_iload (pc := 123) (i := 6) (by decide +kernel) rfl ?_
        obtain ⟨x214, σ213, f212, h⟩ := bd_el h
        refine RN_callS (M := M_X12_doesF) (pc := 125) (idx := 325) (as := [.double (FP.dmul (FP.dadd (FP.dconst0) v2) x210), .double (FP.dconst1), .int x179]) (st := [.double (FP.dconst0), .int x171, .ref r207]) (t_X12_roundedF f212) (by decide +kernel) lk_RX12_325 rfl (Nat.le_of_ble_eq_true rfl) ⟨Nat.le_of_ble_eq_true rfl, Nat.le_of_ble_eq_true rfl⟩ rfl ?_
        show RN G M_X12_doesF 128 [some (.ref v0), some (.int v1), some (.double v2), none, some (.int x171), some (.int x175), some (.int x179)] [.double x214, .double (FP.dconst0), .int x171, .ref r207] σ213 _ _
        obtain ⟨c215, h⟩ := ck_el h
        refine RN_dadd (pc := 128) (by decide +kernel) c215 ?_
        obtain ⟨c216, h⟩ := ck_el h
        refine RN_dast (pc := 129) (by decide +kernel) c216 ?_
        obtain ⟨σ217, eσ217, h⟩ := nm_el h
        refine RN_nmS eσ217 ?_
        refine RN_goto (pc := 130) (off := 364) (tgt := 494) (by decide +kernel) (by decide) ?_
        exact RN_weak (l := [some (.ref v0), none, none, none, some (.int x171)]) (And.intro rfl (And.intro rfl trivial)) (tb_X12_doesF_494 n v0 x171 σ217 h)
      · replace h := it_f c205 h
        by_cases c218 : (gI σ r181 v1.toNatClampNeg) = 3
        · replace h := it_t c218 h
          refine RN_tsw (pc := 30) (dflt := 413) (lo := 0) (hi := 11) (offs := #[62, 75, 75, 103, 127, 152, 200, 213, 230, 273, 349, 390]) (len := 62) (v := 3) (off := 103) (tgt := 133) c218 (by decide +kernel) (by decide) (by decide) (by decide +kernel) (by decide) ?_
          refine RN_aload_n (pc := 133) (k := 0) (by decide +kernel) rfl rfl ?_
          obtain ⟨c219, h⟩ := ck_el h
          refine RN_getR (pc := 134) (idx := 103) (ci := 11) (k := 43) (by decide +kernel) lf_RX12_103 rfl c167 c219 ?_
          obtain ⟨r220, er220, h⟩ := nm_el h
          refine RN_nmR er220 ?_
          refine RN_iload (pc := 137) (i := 4) (by decide +kernel) rfl ?_
          refine RN_aload_n (pc := 139) (k := 0) (by decide +kernel) rfl rfl ?_
          refine RN_getR (pc := 140) (idx := 103) (ci := 11) (k := 43) (by decide +kernel) lf_RX12_103 rfl c167 c219 ?_
          obtain ⟨r221, er221, h⟩ := nm_el h
          refine RN_nmR er221 ?_
          refine RN_iload (pc := 143) (i := 5) (by decide +kernel) rfl ?_
          obtain ⟨c222, h⟩ := ck_el h
          refine RN_dald (pc := 145) (by decide +kernel) c222 ?_
          refine RN_aload_n (pc := 146) (k := 0) (by decide +kernel) rfl rfl ?_
          refine RN_iload (pc := 147) (i := 6) (by decide +kernel) rfl ?_
          obtain ⟨x224, f223, h⟩ := bp_el h
          refine RN_callV (M := M_X12_doesF) (pc := 149) (idx := 321) (as := [.int x179]) (st := [.double (gD σ r221 x175.toNatClampNeg), .int x171, .ref r220]) (t_X12_rateF f223) (by decide +kernel) lk_RX12_321 rfl ⟨by decide, fun q hq => by cases hq; rfl⟩ c167 (Nat.le_of_ble_eq_true rfl) ⟨Nat.le_of_ble_eq_true rfl, Nat.le_of_ble_eq_true rfl⟩ rfl ?_
          show RN G M_X12_doesF 152 [some (.ref v0), some (.int v1), some (.double v2), none, some (.int x171), some (.int x175), some (.int x179)] [.double x224, .double (gD σ r221 x175.toNatClampNeg), .int x171, .ref r220] σ _ _
          obtain ⟨c225, h⟩ := ck_el h
          refine RN_dmul (pc := 152) (by decide +kernel) c225 ?_
          obtain ⟨c226, h⟩ := ck_el h
          refine RN_dast (pc := 153) (by decide +kernel) c226 ?_
          obtain ⟨σ227, eσ227, h⟩ := nm_el h
          refine RN_nmS eσ227 ?_
          refine RN_goto (pc := 154) (off := 340) (tgt := 494) (by decide +kernel) (by decide) ?_
          exact RN_weak (l := [some (.ref v0), none, none, none, some (.int x171)]) (And.intro rfl (And.intro rfl trivial)) (tb_X12_doesF_494 n v0 x171 σ227 h)
        · replace h := it_f c218 h
          by_cases c228 : (gI σ r181 v1.toNatClampNeg) = 4
          · replace h := it_t c228 h
            refine RN_tsw (pc := 30) (dflt := 413) (lo := 0) (hi := 11) (offs := #[62, 75, 75, 103, 127, 152, 200, 213, 230, 273, 349, 390]) (len := 62) (v := 4) (off := 127) (tgt := 157) c228 (by decide +kernel) (by decide) (by decide) (by decide +kernel) (by decide) ?_
            refine RN_aload_n (pc := 157) (k := 0) (by decide +kernel) rfl rfl ?_
            obtain ⟨c229, h⟩ := ck_el h
            refine RN_getR (pc := 158) (idx := 103) (ci := 11) (k := 43) (by decide +kernel) lf_RX12_103 rfl c167 c229 ?_
            obtain ⟨r230, er230, h⟩ := nm_el h
            refine RN_nmR er230 ?_
            refine RN_iload (pc := 161) (i := 4) (by decide +kernel) rfl ?_
            refine RN_aload_n (pc := 163) (k := 0) (by decide +kernel) rfl rfl ?_
            refine RN_getR (pc := 164) (idx := 103) (ci := 11) (k := 43) (by decide +kernel) lf_RX12_103 rfl c167 c229 ?_
            obtain ⟨r231, er231, h⟩ := nm_el h
            refine RN_nmR er231 ?_
            refine RN_iload (pc := 167) (i := 4) (by decide +kernel) rfl ?_
            obtain ⟨c232, h⟩ := ck_el h
            refine RN_dald (pc := 169) (by decide +kernel) c232 ?_
            refine RN_iload (pc := 170) (i := 6) (by decide +kernel) rfl ?_
            refine RN_i2d (pc := 172) (by decide +kernel) ?_
            refine RN_iload (pc := 173) (i := 5) (by decide +kernel) rfl ?_
            obtain ⟨x235, σ234, f233, h⟩ := bd_el h
            refine RN_callS (M := M_X12_doesF) (pc := 175) (idx := 325) (as := [.double (gD σ r231 x171.toNatClampNeg), .double (FP.i2d x179), .int x175]) (st := [.int x171, .ref r230]) (t_X12_roundedF f233) (by decide +kernel) lk_RX12_325 rfl (Nat.le_of_ble_eq_true rfl) ⟨Nat.le_of_ble_eq_true rfl, Nat.le_of_ble_eq_true rfl⟩ rfl ?_
            show RN G M_X12_doesF 178 [some (.ref v0), some (.int v1), some (.double v2), none, some (.int x171), some (.int x175), some (.int x179)] [.double x235, .int x171, .ref r230] σ234 _ _
            obtain ⟨c236, h⟩ := ck_el h
            refine RN_dast (pc := 178) (by decide +kernel) c236 ?_
            obtain ⟨σ237, eσ237, h⟩ := nm_el h
            refine RN_nmS eσ237 ?_
            refine RN_goto (pc := 179) (off := 315) (tgt := 494) (by decide +kernel) (by decide) ?_
            exact RN_weak (l := [some (.ref v0), none, none, none, some (.int x171)]) (And.intro rfl (And.intro rfl trivial)) (tb_X12_doesF_494 n v0 x171 σ237 h)
          · replace h := it_f c228 h
            by_cases c238 : (gI σ r181 v1.toNatClampNeg) = 5
            · replace h := it_t c238 h
              refine RN_tsw (pc := 30) (dflt := 413) (lo := 0) (hi := 11) (offs := #[62, 75, 75, 103, 127, 152, 200, 213, 230, 273, 349, 390]) (len := 62) (v := 5) (off := 152) (tgt := 182) c238 (by decide +kernel) (by decide) (by decide) (by decide +kernel) (by decide) ?_
              refine RN_aload_n (pc := 182) (k := 0) (by decide +kernel) rfl rfl ?_
              obtain ⟨c239, h⟩ := ck_el h
              refine RN_getR (pc := 183) (idx := 103) (ci := 11) (k := 43) (by decide +kernel) lf_RX12_103 rfl c167 c239 ?_
              obtain ⟨r240, er240, h⟩ := nm_el h
              refine RN_nmR er240 ?_
              refine RN_iload (pc := 186) (i := 4) (by decide +kernel) rfl ?_
              refine RN_iload (pc := 188) (i := 6) (by decide +kernel) rfl ?_
              refine RN_if_ne (pc := 190) (off := 21) (tgt := 211) (by decide +kernel) (by decide) (fun c241 => ?_) (fun c241 => ?_)
              · replace h := it_f c241 h
                refine RN_aload_n (pc := 211) (k := 0) (by decide +kernel) rfl rfl ?_
                refine RN_getR (pc := 212) (idx := 103) (ci := 11) (k := 43) (by decide +kernel) lf_RX12_103 rfl c167 c239 ?_
                obtain ⟨r242, er242, h⟩ := nm_el h
                refine RN_nmR er242 ?_
                refine RN_iload (pc := 215) (i := 4) (by decide +kernel) rfl ?_
                obtain ⟨c243, h⟩ := ck_el h
                refine RN_dald (pc := 217) (by decide +kernel) c243 ?_
                refine RN_aload_n (pc := 218) (k := 0) (by decide +kernel) rfl rfl ?_
                refine RN_getR (pc := 219) (idx := 103) (ci := 11) (k := 43) (by decide +kernel) lf_RX12_103 rfl c167 c239 ?_
                obtain ⟨r244, er244, h⟩ := nm_el h
                refine RN_nmR er244 ?_
                refine RN_iload (pc := 222) (i := 5) (by decide +kernel) rfl ?_
                obtain ⟨c245, h⟩ := ck_el h
                refine RN_dald (pc := 224) (by decide +kernel) c245 ?_
                obtain ⟨c246, h⟩ := ck_el h
                refine RN_dsub (pc := 225) (by decide +kernel) c246 ?_
                exact RN_weak (l := [some (.ref v0), none, none, none, some (.int x171)]) (And.intro rfl (And.intro rfl trivial)) (tb_X12_doesF_226 n v0 x171 (FP.dsub (gD σ r242 x171.toNatClampNeg) (gD σ r244 x175.toNatClampNeg)) x171 r240 σ h)
              · replace h := it_t c241 h
                refine RN_aload_n (pc := 193) (k := 0) (by decide +kernel) rfl rfl ?_
                refine RN_getR (pc := 194) (idx := 103) (ci := 11) (k := 43) (by decide +kernel) lf_RX12_103 rfl c167 c239 ?_
                obtain ⟨r249, er249, h⟩ := nm_el h
                refine RN_nmR er249 ?_
                refine RN_iload (pc := 197) (i := 4) (by decide +kernel) rfl ?_
                obtain ⟨c250, h⟩ := ck_el h
                refine RN_dald (pc := 199) (by decide +kernel) c250 ?_
                refine RN_aload_n (pc := 200) (k := 0) (by decide +kernel) rfl rfl ?_
                refine RN_getR (pc := 201) (idx := 103) (ci := 11) (k := 43) (by decide +kernel) lf_RX12_103 rfl c167 c239 ?_
                obtain ⟨r251, er251, h⟩ := nm_el h
                refine RN_nmR er251 ?_
                refine RN_iload (pc := 204) (i := 5) (by decide +kernel) rfl ?_
                obtain ⟨c252, h⟩ := ck_el h
                refine RN_dald (pc := 206) (by decide +kernel) c252 ?_
                obtain ⟨c253, h⟩ := ck_el h
                refine RN_dadd (pc := 207) (by decide +kernel) c253 ?_
                refine RN_goto (pc := 208) (off := 18) (tgt := 226) (by decide +kernel) (by decide) ?_
                exact RN_weak (l := [some (.ref v0), none, none, none, some (.int x171)]) (And.intro rfl (And.intro rfl trivial)) (tb_X12_doesF_226 n v0 x171 (FP.dadd (gD σ r249 x171.toNatClampNeg) (gD σ r251 x175.toNatClampNeg)) x171 r240 σ h)
            · replace h := it_f c238 h
              by_cases c254 : (gI σ r181 v1.toNatClampNeg) = 6
              · replace h := it_t c254 h
                refine RN_tsw (pc := 30) (dflt := 413) (lo := 0) (hi := 11) (offs := #[62, 75, 75, 103, 127, 152, 200, 213, 230, 273, 349, 390]) (len := 62) (v := 6) (off := 200) (tgt := 230) c254 (by decide +kernel) (by decide) (by decide) (by decide +kernel) (by decide) ?_
                refine RN_aload_n (pc := 230) (k := 0) (by decide +kernel) rfl rfl ?_
                refine RN_iload (pc := 231) (i := 4) (by decide +kernel) rfl ?_
                refine RN_iload (pc := 233) (i := 5) (by decide +kernel) rfl ?_
                refine RN_iload (pc := 235) (i := 6) (by decide +kernel) rfl ?_
                obtain ⟨σ256, f255, h⟩ := bp_el h
                refine RN_callV (M := M_X12_doesF) (pc := 237) (idx := 329) (as := [.int x171, .int x175, .int x179]) (st := []) (t_X12_splitsF f255) (by decide +kernel) lk_RX12_329 rfl ⟨by decide, fun q hq => by cases hq; rfl⟩ c167 (Nat.le_of_ble_eq_true rfl) ⟨Nat.le_of_ble_eq_true rfl, Nat.le_of_ble_eq_true rfl⟩ rfl ?_
                show RN G M_X12_doesF 240 [some (.ref v0), some (.int v1), some (.double v2), none, some (.int x171), some (.int x175), some (.int x179)] [] σ256 _ _
                refine RN_goto (pc := 240) (off := 254) (tgt := 494) (by decide +kernel) (by decide) ?_
                exact RN_weak (l := [some (.ref v0), none, none, none, some (.int x171)]) (And.intro rfl (And.intro rfl trivial)) (tb_X12_doesF_494 n v0 x171 σ256 h)
              · replace h := it_f c254 h
                by_cases c257 : (gI σ r181 v1.toNatClampNeg) = 7
                · replace h := it_t c257 h
                  refine RN_tsw (pc := 30) (dflt := 413) (lo := 0) (hi := 11) (offs := #[62, 75, 75, 103, 127, 152, 200, 213, 230, 273, 349, 390]) (len := 62) (v := 7) (off := 213) (tgt := 243) c257 (by decide +kernel) (by decide) (by decide) (by decide +kernel) (by decide) ?_
                  refine RN_aload_n (pc := 243) (k := 0) (by decide +kernel) rfl rfl ?_
                  obtain ⟨c258, h⟩ := ck_el h
                  refine RN_getR (pc := 244) (idx := 103) (ci := 11) (k := 43) (by decide +kernel) lf_RX12_103 rfl c167 c258 ?_
                  obtain ⟨r259, er259, h⟩ := nm_el h
                  refine RN_nmR er259 ?_
                  refine RN_iload (pc := 247) (i := 4) (by decide +kernel) rfl ?_
                  refine RN_aload_n (pc := 249) (k := 0) (by decide +kernel) rfl rfl ?_
                  obtain ⟨c260, h⟩ := ck_el h
                  refine RN_getR (pc := 250) (idx := 107) (ci := 11) (k := 44) (by decide +kernel) lf_RX12_107 rfl c167 c260 ?_
                  obtain ⟨r261, er261, h⟩ := nm_el h
                  refine RN_nmR er261 ?_
                  refine RN_iload (pc := 253) (i := 5) (by decide +kernel) rfl ?_
                  obtain ⟨c262, h⟩ := ck_el h
                  refine RN_dald (pc := 255) (by decide +kernel) c262 ?_
                  obtain ⟨c263, h⟩ := ck_el h
                  refine RN_dast (pc := 256) (by decide +kernel) c263 ?_
                  obtain ⟨σ264, eσ264, h⟩ := nm_el h
                  refine RN_nmS eσ264 ?_
                  refine RN_goto (pc := 257) (off := 237) (tgt := 494) (by decide +kernel) (by decide) ?_
                  exact RN_weak (l := [some (.ref v0), none, none, none, some (.int x171)]) (And.intro rfl (And.intro rfl trivial)) (tb_X12_doesF_494 n v0 x171 σ264 h)
                · replace h := it_f c257 h
                  by_cases c265 : (gI σ r181 v1.toNatClampNeg) = 8
                  · replace h := it_t c265 h
                    refine RN_tsw (pc := 30) (dflt := 413) (lo := 0) (hi := 11) (offs := #[62, 75, 75, 103, 127, 152, 200, 213, 230, 273, 349, 390]) (len := 62) (v := 8) (off := 230) (tgt := 260) c265 (by decide +kernel) (by decide) (by decide) (by decide +kernel) (by decide) ?_
                    refine RN_aload_n (pc := 260) (k := 0) (by decide +kernel) rfl rfl ?_
                    refine RN_getD (pc := 261) (idx := 332) (ci := 11) (k := 45) (by decide +kernel) lf_RX12_332 rfl c167 ?_
                    refine RN_aload_n (pc := 264) (k := 0) (by decide +kernel) rfl rfl ?_
                    obtain ⟨c266, h⟩ := ck_el h
                    refine RN_getR (pc := 265) (idx := 103) (ci := 11) (k := 43) (by decide +kernel) lf_RX12_103 rfl c167 c266 ?_
                    obtain ⟨r267, er267, h⟩ := nm_el h
                    refine RN_nmR er267 ?_
                    refine RN_iload (pc := 268) (i := 4) (by decide +kernel) rfl ?_
                    obtain ⟨c268, h⟩ := ck_el h
                    refine RN_dald (pc := 270) (by decide +kernel) c268 ?_
                    obtain ⟨c269, h⟩ := ck_el h
                    refine RN_dadd (pc := 271) (by decide +kernel) c269 ?_
                    obtain ⟨x270, ex270, h⟩ := nm_el h
                    refine RN_nmD ex270 ?_
                    refine RN_dstore (pc := 272) (i := 7) (ls2 := [some (.ref v0), some (.int v1), some (.double v2), none, some (.int x171), some (.int x175), some (.int x179), some (.double x270), none]) (by decide +kernel) (by decide) rfl ?_
                    refine RN_aload_n (pc := 274) (k := 0) (by decide +kernel) rfl rfl ?_
                    refine RN_getR (pc := 275) (idx := 103) (ci := 11) (k := 43) (by decide +kernel) lf_RX12_103 rfl c167 c266 ?_
                    obtain ⟨r271, er271, h⟩ := nm_el h
                    refine RN_nmR er271 ?_
                    refine RN_iload (pc := 278) (i := 4) (by decide +kernel) rfl ?_
                    refine RN_dload (pc := 280) (i := 7) (by decide +kernel) rfl ?_
                    obtain ⟨x274, σ273, f272, h⟩ := bd_el h
                    refine RN_callS (M := M_X12_doesF) (pc := 282) (idx := 310) (as := [.double x270]) (st := [.int x171, .ref r271]) (t_J9_floor_294c1 f272) (by decide +kernel) lk_RX12_310 rfl (Nat.le_of_ble_eq_true rfl) ⟨Nat.le_of_ble_eq_true rfl, Nat.le_of_ble_eq_true rfl⟩ rfl ?_
                    show RN G M_X12_doesF 285 [some (.ref v0), some (.int v1), some (.double v2), none, some (.int x171), some (.int x175), some (.int x179), some (.double x270), none] [.double x274, .int x171, .ref r271] σ273 _ _
                    obtain ⟨c275, h⟩ := ck_el h
                    refine RN_dast (pc := 285) (by decide +kernel) c275 ?_
                    obtain ⟨σ276, eσ276, h⟩ := nm_el h
                    refine RN_nmS eσ276 ?_
                    refine RN_aload_n (pc := 286) (k := 0) (by decide +kernel) rfl rfl ?_
                    refine RN_dload (pc := 287) (i := 7) (by decide +kernel) rfl ?_
                    refine RN_aload_n (pc := 289) (k := 0) (by decide +kernel) rfl rfl ?_
                    obtain ⟨c277, h⟩ := ck_el h
                    obtain ⟨c278, h⟩ := ck_el h
                    refine RN_getR (pc := 290) (idx := 103) (ci := 11) (k := 43) (by decide +kernel) lf_RX12_103 rfl c277 c278 ?_
                    obtain ⟨r279, er279, h⟩ := nm_el h
                    refine RN_nmR er279 ?_
                    refine RN_iload (pc := 293) (i := 4) (by decide +kernel) rfl ?_
                    obtain ⟨c280, h⟩ := ck_el h
                    refine RN_dald (pc := 295) (by decide +kernel) c280 ?_
                    obtain ⟨c281, h⟩ := ck_el h
                    refine RN_dsub (pc := 296) (by decide +kernel) c281 ?_
                    refine RN_putD (pc := 297) (idx := 332) (ci := 11) (k := 45) (by decide +kernel) lf_RX12_332 rfl (fun q hq => by cases hq; exact Or.inl rfl) c277 ?_
                    obtain ⟨σ282, eσ282, h⟩ := nm_el h
                    refine RN_nmS eσ282 ?_
                    refine RN_goto (pc := 300) (off := 194) (tgt := 494) (by decide +kernel) (by decide) ?_
                    exact RN_weak (l := [some (.ref v0), none, none, none, some (.int x171)]) (And.intro rfl (And.intro rfl trivial)) (tb_X12_doesF_494 n v0 x171 σ282 h)
                  · replace h := it_f c265 h
                    by_cases c283 : (gI σ r181 v1.toNatClampNeg) = 9
                    · replace h := it_t c283 h
                      refine RN_tsw (pc := 30) (dflt := 413) (lo := 0) (hi := 11) (offs := #[62, 75, 75, 103, 127, 152, 200, 213, 230, 273, 349, 390]) (len := 62) (v := 9) (off := 273) (tgt := 303) c283 (by decide +kernel) (by decide) (by decide) (by decide +kernel) (by decide) ?_
                      refine RN_iload (pc := 303) (i := 5) (by decide +kernel) rfl ?_
                      refine RN_if_ne (pc := 305) (off := 25) (tgt := 330) (by decide +kernel) (by decide) (fun c284 => ?_) (fun c284 => ?_)
                      · replace h := it_f c284 h
                        refine RN_aload_n (pc := 330) (k := 0) (by decide +kernel) rfl rfl ?_
                        obtain ⟨c285, h⟩ := ck_el h
                        refine RN_getR (pc := 331) (idx := 103) (ci := 11) (k := 43) (by decide +kernel) lf_RX12_103 rfl c167 c285 ?_
                        obtain ⟨r286, er286, h⟩ := nm_el h
                        refine RN_nmR er286 ?_
                        refine RN_iload (pc := 334) (i := 4) (by decide +kernel) rfl ?_
                        obtain ⟨c287, h⟩ := ck_el h
                        refine RN_dald (pc := 336) (by decide +kernel) c287 ?_
                        refine RN_iload (pc := 337) (i := 6) (by decide +kernel) rfl ?_
                        refine RN_i2d (pc := 339) (by decide +kernel) ?_
                        refine RN_dcmp (pc := 340) (op := .g) (by decide +kernel) ?_
                        refine RN_if_ge (pc := 341) (off := 7) (tgt := 348) (by decide +kernel) (by decide) (fun c288 => ?_) (fun c288 => ?_)
                        · replace h := it_t c288 h
                          refine RN_iconst (pc := 348) (n := 0) (v := 0) (by decide +kernel) (by decide) ?_
                          exact RN_weak (l := [some (.ref v0), none, none, none, some (.int x171), none, some (.int x179)]) (And.intro rfl (And.intro rfl (And.intro rfl trivial))) (tb_X12_doesF_349 n v0 x171 x179 (0 : Int32) σ h)
                        · replace h := it_f c288 h
                          refine RN_iconst (pc := 344) (n := 1) (v := 1) (by decide +kernel) (by decide) ?_
                          refine RN_goto (pc := 345) (off := 4) (tgt := 349) (by decide +kernel) (by decide) ?_
                          exact RN_weak (l := [some (.ref v0), none, none, none, some (.int x171), none, some (.int x179)]) (And.intro rfl (And.intro rfl (And.intro rfl trivial))) (tb_X12_doesF_349 n v0 x171 x179 (1 : Int32) σ h)
                      · replace h := it_t c284 h
                        refine RN_aload_n (pc := 308) (k := 0) (by decide +kernel) rfl rfl ?_
                        obtain ⟨c297, h⟩ := ck_el h
                        refine RN_getR (pc := 309) (idx := 103) (ci := 11) (k := 43) (by decide +kernel) lf_RX12_103 rfl c167 c297 ?_
                        obtain ⟨r298, er298, h⟩ := nm_el h
                        refine RN_nmR er298 ?_
                        refine RN_iload (pc := 312) (i := 4) (by decide +kernel) rfl ?_
                        obtain ⟨c299, h⟩ := ck_el h
                        refine RN_dald (pc := 314) (by decide +kernel) c299 ?_
                        refine RN_iload (pc := 315) (i := 6) (by decide +kernel) rfl ?_
                        refine RN_i2d (pc := 317) (by decide +kernel) ?_
                        refine RN_dcmp (pc := 318) (op := .l) (by decide +kernel) ?_
                        refine RN_if_le (pc := 319) (off := 7) (tgt := 326) (by decide +kernel) (by decide) (fun c300 => ?_) (fun c300 => ?_)
                        · replace h := it_t c300 h
                          refine RN_iconst (pc := 326) (n := 0) (v := 0) (by decide +kernel) (by decide) ?_
                          refine RN_goto (pc := 327) (off := 22) (tgt := 349) (by decide +kernel) (by decide) ?_
                          exact RN_weak (l := [some (.ref v0), none, none, none, some (.int x171), none, some (.int x179)]) (And.intro rfl (And.intro rfl (And.intro rfl trivial))) (tb_X12_doesF_349 n v0 x171 x179 (0 : Int32) σ h)
                        · replace h := it_f c300 h
                          refine RN_iconst (pc := 322) (n := 1) (v := 1) (by decide +kernel) (by decide) ?_
                          refine RN_goto (pc := 323) (off := 26) (tgt := 349) (by decide +kernel) (by decide) ?_
                          exact RN_weak (l := [some (.ref v0), none, none, none, some (.int x171), none, some (.int x179)]) (And.intro rfl (And.intro rfl (And.intro rfl trivial))) (tb_X12_doesF_349 n v0 x171 x179 (1 : Int32) σ h)
                    · replace h := it_f c283 h
                      by_cases c301 : (gI σ r181 v1.toNatClampNeg) = 10
                      · replace h := it_t c301 h
                        refine RN_tsw (pc := 30) (dflt := 413) (lo := 0) (hi := 11) (offs := #[62, 75, 75, 103, 127, 152, 200, 213, 230, 273, 349, 390]) (len := 62) (v := 10) (off := 349) (tgt := 379) c301 (by decide +kernel) (by decide) (by decide) (by decide +kernel) (by decide) ?_
                        refine RN_aload_n (pc := 379) (k := 0) (by decide +kernel) rfl rfl ?_
                        obtain ⟨c302, h⟩ := ck_el h
                        refine RN_getR (pc := 380) (idx := 60) (ci := 11) (k := 23) (by decide +kernel) lf_RX12_60 rfl c167 c302 ?_
                        obtain ⟨r303, er303, h⟩ := nm_el h
                        refine RN_nmR er303 ?_
                        refine RN_bipush (pc := 383) (n := 8) (v := 8) (by decide +kernel) (by decide) ?_
                        refine RN_iload (pc := 385) (i := 5) (by decide +kernel) rfl ?_
                        refine RN_iadd (pc := 387) (by decide +kernel) ?_
                        refine RN_dup2_11 (pc := 388) (by decide +kernel) rfl rfl ?_
                        obtain ⟨c304, h⟩ := ck_el h
                        refine RN_lald (pc := 389) (by decide +kernel) c304 ?_
                        refine RN_iload (pc := 390) (i := 6) (by decide +kernel) rfl ?_
                        refine RN_if_ne (pc := 392) (off := 14) (tgt := 406) (by decide +kernel) (by decide) (fun c305 => ?_) (fun c305 => ?_)
                        · replace h := it_f c305 h
                          refine RN_aload_n (pc := 406) (k := 0) (by decide +kernel) rfl rfl ?_
                          obtain ⟨c306, h⟩ := ck_el h
                          refine RN_getR (pc := 407) (idx := 103) (ci := 11) (k := 43) (by decide +kernel) lf_RX12_103 rfl c167 c306 ?_
                          obtain ⟨r307, er307, h⟩ := nm_el h
                          refine RN_nmR er307 ?_
                          refine RN_iload (pc := 410) (i := 4) (by decide +kernel) rfl ?_
                          obtain ⟨c308, h⟩ := ck_el h
                          refine RN_dald (pc := 412) (by decide +kernel) c308 ?_
                          refine RN_d2l (pc := 413) (by decide +kernel) ?_
                          refine RN_lneg (pc := 414) (by decide +kernel) ?_
                          exact RN_weak (l := [some (.ref v0), none, none, none, some (.int x171)]) (And.intro rfl (And.intro rfl trivial)) (tb_X12_doesF_415 n v0 x171 (-(FP.d2l (gD σ r307 x171.toNatClampNeg))) (gJ σ r303 ((8 : Int32) + x175).toNatClampNeg) ((8 : Int32) + x175) r303 σ h)
                        · replace h := it_t c305 h
                          refine RN_aload_n (pc := 395) (k := 0) (by decide +kernel) rfl rfl ?_
                          obtain ⟨c311, h⟩ := ck_el h
                          refine RN_getR (pc := 396) (idx := 103) (ci := 11) (k := 43) (by decide +kernel) lf_RX12_103 rfl c167 c311 ?_
                          obtain ⟨r312, er312, h⟩ := nm_el h
                          refine RN_nmR er312 ?_
                          refine RN_iload (pc := 399) (i := 4) (by decide +kernel) rfl ?_
                          obtain ⟨c313, h⟩ := ck_el h
                          refine RN_dald (pc := 401) (by decide +kernel) c313 ?_
                          refine RN_d2l (pc := 402) (by decide +kernel) ?_
                          refine RN_goto (pc := 403) (off := 12) (tgt := 415) (by decide +kernel) (by decide) ?_
                          exact RN_weak (l := [some (.ref v0), none, none, none, some (.int x171)]) (And.intro rfl (And.intro rfl trivial)) (tb_X12_doesF_415 n v0 x171 (FP.d2l (gD σ r312 x171.toNatClampNeg)) (gJ σ r303 ((8 : Int32) + x175).toNatClampNeg) ((8 : Int32) + x175) r303 σ h)
                      · replace h := it_f c301 h
                        by_cases c314 : (gI σ r181 v1.toNatClampNeg) = 11
                        · replace h := it_t c314 h
                          refine RN_tsw (pc := 30) (dflt := 413) (lo := 0) (hi := 11) (offs := #[62, 75, 75, 103, 127, 152, 200, 213, 230, 273, 349, 390]) (len := 62) (v := 11) (off := 390) (tgt := 420) c314 (by decide +kernel) (by decide) (by decide) (by decide +kernel) (by decide) ?_
                          refine RN_aload_n (pc := 420) (k := 0) (by decide +kernel) rfl rfl ?_
                          obtain ⟨c315, h⟩ := ck_el h
                          refine RN_getR (pc := 421) (idx := 103) (ci := 11) (k := 43) (by decide +kernel) lf_RX12_103 rfl c167 c315 ?_
                          obtain ⟨r316, er316, h⟩ := nm_el h
                          refine RN_nmR er316 ?_
                          refine RN_iload (pc := 424) (i := 4) (by decide +kernel) rfl ?_
                          refine RN_aload_n (pc := 426) (k := 0) (by decide +kernel) rfl rfl ?_
                          refine RN_getR (pc := 427) (idx := 103) (ci := 11) (k := 43) (by decide +kernel) lf_RX12_103 rfl c167 c315 ?_
                          obtain ⟨r317, er317, h⟩ := nm_el h
                          refine RN_nmR er317 ?_
                          refine RN_iload (pc := 430) (i := 5) (by decide +kernel) rfl ?_
                          obtain ⟨c318, h⟩ := ck_el h
                          refine RN_dald (pc := 432) (by decide +kernel) c318 ?_
                          refine RN_dconst1 (pc := 433) (by decide +kernel) ?_
                          refine RN_iload (pc := 434) (i := 6) (by decide +kernel) rfl ?_
                          obtain ⟨x321, σ320, f319, h⟩ := bd_el h
                          refine RN_callS (M := M_X12_doesF) (pc := 436) (idx := 325) (as := [.double (gD σ r317 x175.toNatClampNeg), .double (FP.dconst1), .int x179]) (st := [.int x171, .ref r316]) (t_X12_roundedF f319) (by decide +kernel) lk_RX12_325 rfl (Nat.le_of_ble_eq_true rfl) ⟨Nat.le_of_ble_eq_true rfl, Nat.le_of_ble_eq_true rfl⟩ rfl ?_
                          show RN G M_X12_doesF 439 [some (.ref v0), some (.int v1), some (.double v2), none, some (.int x171), some (.int x175), some (.int x179)] [.double x321, .int x171, .ref r316] σ320 _ _
                          obtain ⟨c322, h⟩ := ck_el h
                          refine RN_dast (pc := 439) (by decide +kernel) c322 ?_
                          obtain ⟨σ323, eσ323, h⟩ := nm_el h
                          refine RN_nmS eσ323 ?_
                          refine RN_goto (pc := 440) (off := 54) (tgt := 494) (by decide +kernel) (by decide) ?_
                          exact RN_weak (l := [some (.ref v0), none, none, none, some (.int x171)]) (And.intro rfl (And.intro rfl trivial)) (tb_X12_doesF_494 n v0 x171 σ323 h)
                        · replace h := it_f c314 h
                          refine RN_tableOut (pc := 30) (dflt := 413) (lo := 0) (hi := 11) (offs := #[62, 75, 75, 103, 127, 152, 200, 213, 230, 273, 349, 390]) (len := 62) (tgt := 443) (by decide +kernel) (tsw_s (hi := 10) (hi' := 11) (tsw_s (hi := 9) (hi' := 10) (tsw_s (hi := 8) (hi' := 9) (tsw_s (hi := 7) (hi' := 8) (tsw_s (hi := 6) (hi' := 7) (tsw_s (hi := 5) (hi' := 6) (tsw_s (hi := 4) (hi' := 5) (tsw_s (hi := 3) (hi' := 4) (tsw_s (hi := 2) (hi' := 3) (tsw_s (hi := 1) (hi' := 2) (tsw_s (hi := 0) (hi' := 1) (tsw_s (hi := -1) (hi' := 0) (tsw_0 (0)) (by decide) (by decide) c183) (by decide) (by decide) c192) (by decide) (by decide) c205) (by decide) (by decide) c218) (by decide) (by decide) c228) (by decide) (by decide) c238) (by decide) (by decide) c254) (by decide) (by decide) c257) (by decide) (by decide) c265) (by decide) (by decide) c283) (by decide) (by decide) c301) (by decide) (by decide) c314) (by decide) ?_
                          refine RN_iconst (pc := 443) (n := 0) (v := 0) (by decide +kernel) (by decide) ?_
                          refine RN_istore (pc := 444) (i := 10) (ls2 := [some (.ref v0), some (.int v1), some (.double v2), none, some (.int x171), some (.int x175), some (.int x179), none, none, none, some (.int (0 : Int32))]) (by decide +kernel) (by decide) rfl ?_
                          exact RN_weak (l := [some (.ref v0), none, none, none, some (.int x171), some (.int x175), some (.int x179), none, none, none, some (.int (0 : Int32))]) (And.intro rfl (And.intro rfl (And.intro rfl (And.intro rfl (And.intro rfl trivial))))) (tb_X12_doesF_446 v0 x171 x175 x179 n (0 : Int32) σ h)
def b_X12_floats_45 : Nat → Nat → Int32 → Int32 → Int32 → Sg → Option Sg
  | 0, _, _, _, _, _ => none
  | n + 1, v0, v1, v2, v3, σ =>
  ck (okO σ v0 11) <|
  ck (¬ gR σ v0 8 = 0) <|
  nm (gR σ v0 8) fun r32 =>
  ck (okA σ r32 13 v1) <|
  if (gI σ r32 v1.toNatClampNeg) ≤ v3 then (
    some σ)
  else (
    bp (f_X12_doesF n v0 (((20 : Int32) * v1) + v3) (FP.i2d v2) σ) fun σ36 =>
    nm (v3 + (1 : Int32)) fun x37 =>
    b_X12_floats_45 n v0 v1 v2 x37 σ36)
set_option maxRecDepth 20000 in
theorem tb_X12_floats_45 {G : Gl} {σr : Sg} (v0 : Nat) (v1 : Int32) (v2 : Int32) : ∀ (n : Nat) (v3 : Int32) (σ : Sg), b_X12_floats_45 n v0 v1 v2 v3 σ = some σr → RN G M_X12_floats 45 [some (.ref v0), some (.int v1), some (.int v2), some (.int v3)] [] σ (.inl none) σr := by
  intro n
  induction n with
  | zero =>
    intro v3 σ h
    exact none_el h
  | succ n ih =>
    intro v3 σ h
    rw [b_X12_floats_45] at h
    refine RN_iload_n (pc := 45) (k := 3) (by decide +kernel) rfl rfl ?_
    refine RN_aload_n (pc := 46) (k := 0) (by decide +kernel) rfl rfl ?_
    obtain ⟨c30, h⟩ := ck_el h
    obtain ⟨c31, h⟩ := ck_el h
    refine RN_getR (pc := 47) (idx := 25) (ci := 11) (k := 8) (by decide +kernel) lf_RX12_25 rfl c30 c31 ?_
    obtain ⟨r32, er32, h⟩ := nm_el h
    refine RN_nmR er32 ?_
    refine RN_iload_n (pc := 50) (k := 1) (by decide +kernel) rfl rfl ?_
    obtain ⟨c33, h⟩ := ck_el h
    refine RN_iald (pc := 51) (by decide +kernel) c33 ?_
    refine RN_icmp_ge (pc := 52) (off := 21) (tgt := 73) (by decide +kernel) (by decide) (fun c34 => ?_) (fun c34 => ?_)
    · replace h := it_t c34 h
      obtain rfl := some_el h
      exact RN_return (by decide +kernel) rfl
    · replace h := it_f c34 h
      refine RN_aload_n (pc := 55) (k := 0) (by decide +kernel) rfl rfl ?_
      refine RN_bipush (pc := 56) (n := 20) (v := 20) (by decide +kernel) (by decide) ?_
      refine RN_iload_n (pc := 58) (k := 1) (by decide +kernel) rfl rfl ?_
      refine RN_imul (pc := 59) (by decide +kernel) ?_
      refine RN_iload_n (pc := 60) (k := 3) (by decide +kernel) rfl rfl ?_
      refine RN_iadd (pc := 61) (by decide +kernel) ?_
      refine RN_iload_n (pc := 62) (k := 2) (by decide +kernel) rfl rfl ?_
      refine RN_i2d (pc := 63) (by decide +kernel) ?_
      obtain ⟨σ36, f35, h⟩ := bp_el h
      refine RN_callV (M := M_X12_floats) (pc := 64) (idx := 344) (as := [.int (((20 : Int32) * v1) + v3), .double (FP.i2d v2)]) (st := []) (t_X12_doesF f35) (by decide +kernel) lk_RX12_344 rfl ⟨by decide, fun q hq => by cases hq; rfl⟩ c30 (Nat.le_of_ble_eq_true rfl) ⟨Nat.le_of_ble_eq_true rfl, Nat.le_of_ble_eq_true rfl⟩ rfl ?_
      show RN G M_X12_floats 67 [some (.ref v0), some (.int v1), some (.int v2), some (.int v3)] [] σ36 _ _
      obtain ⟨x37, ex37, h⟩ := nm_el h
      refine RN_iinc (pc := 67) (i := 3) (n := 1) (v := x37) (ls2 := [some (.ref v0), some (.int v1), some (.int v2), some (.int x37)]) (by decide +kernel) rfl (by rw [ex37]; rfl) (by decide) rfl ?_
      refine RN_goto (pc := 70) (off := -25) (tgt := 45) (by decide +kernel) (by decide) ?_
      exact RN_weak (l := [some (.ref v0), some (.int v1), some (.int v2), some (.int x37)]) (And.intro rfl (And.intro rfl (And.intro rfl (And.intro rfl trivial)))) (ih x37 σ36 h)
def b_X12_floats_43 (n : Nat) (v0 : Nat) (v1 : Int32) (v2 : Int32) (σ : Sg) : Option Sg :=
  b_X12_floats_45 n v0 v1 v2 (0 : Int32) σ
set_option maxRecDepth 20000 in
theorem tb_X12_floats_43 {G : Gl} {σr : Sg} (n : Nat) (v0 : Nat) (v1 : Int32) (v2 : Int32) (σ : Sg) (h : b_X12_floats_43 n v0 v1 v2 σ = some σr) : RN G M_X12_floats 43 [some (.ref v0), some (.int v1), some (.int v2)] [] σ (.inl none) σr := by
  unfold b_X12_floats_43 at h
  refine RN_iconst (pc := 43) (n := 0) (v := 0) (by decide +kernel) (by decide) ?_
  refine RN_istore_n (pc := 44) (k := 3) (ls2 := [some (.ref v0), some (.int v1), some (.int v2), some (.int (0 : Int32))]) (by decide +kernel) rfl (by decide) rfl ?_
  exact RN_weak (l := [some (.ref v0), some (.int v1), some (.int v2), some (.int (0 : Int32))]) (And.intro rfl (And.intro rfl (And.intro rfl (And.intro rfl trivial)))) (tb_X12_floats_45 v0 v1 v2 n (0 : Int32) σ h)
def b_X12_floats_7 : Nat → Nat → Int32 → Int32 → Int32 → Sg → Option Sg
  | 0, _, _, _, _, _ => none
  | n + 1, v0, v1, v2, v3, σ =>
  if (8 : Int32) ≤ v3 then (
    b_X12_floats_43 n v0 v1 v2 σ)
  else (
    ck (okO σ v0 11) <|
    ck (¬ gR σ v0 43 = 0) <|
    nm (gR σ v0 43) fun r40 =>
    ck (okW σ r40 12 v3) <|
    nm (pD σ r40 v3.toNatClampNeg (FP.dconst0)) fun σ42 =>
    ck (okO σ42 v0 11) <|
    ck (¬ gR σ42 v0 44 = 0) <|
    nm (gR σ42 v0 44) fun r45 =>
    ck (okW σ42 r45 12 v3) <|
    nm (pD σ42 r45 v3.toNatClampNeg (FP.dconst0)) fun σ47 =>
    ck (okO σ47 v0 11) <|
    ck (¬ gR σ47 v0 23 = 0) <|
    nm (gR σ47 v0 23) fun r50 =>
    ck (okW σ47 r50 14 ((8 : Int32) + v3)) <|
    nm (pJ σ47 r50 ((8 : Int32) + v3).toNatClampNeg (0 : Int64)) fun σ52 =>
    nm (v3 + (1 : Int32)) fun x53 =>
    b_X12_floats_7 n v0 v1 v2 x53 σ52)
set_option maxRecDepth 20000 in
theorem tb_X12_floats_7 {G : Gl} {σr : Sg} (v0 : Nat) (v1 : Int32) (v2 : Int32) : ∀ (n : Nat) (v3 : Int32) (σ : Sg), b_X12_floats_7 n v0 v1 v2 v3 σ = some σr → RN G M_X12_floats 7 [some (.ref v0), some (.int v1), some (.int v2), some (.int v3)] [] σ (.inl none) σr := by
  intro n
  induction n with
  | zero =>
    intro v3 σ h
    exact none_el h
  | succ n ih =>
    intro v3 σ h
    rw [b_X12_floats_7] at h
    refine RN_iload_n (pc := 7) (k := 3) (by decide +kernel) rfl rfl ?_
    refine RN_bipush (pc := 8) (n := 8) (v := 8) (by decide +kernel) (by decide) ?_
    refine RN_icmp_ge (pc := 10) (off := 33) (tgt := 43) (by decide +kernel) (by decide) (fun c29 => ?_) (fun c29 => ?_)
    · replace h := it_t c29 h
      exact RN_weak (l := [some (.ref v0), some (.int v1), some (.int v2)]) (And.intro rfl (And.intro rfl (And.intro rfl trivial))) (tb_X12_floats_43 n v0 v1 v2 σ h)
    · replace h := it_f c29 h
      refine RN_aload_n (pc := 13) (k := 0) (by decide +kernel) rfl rfl ?_
      obtain ⟨c38, h⟩ := ck_el h
      obtain ⟨c39, h⟩ := ck_el h
      refine RN_getR (pc := 14) (idx := 103) (ci := 11) (k := 43) (by decide +kernel) lf_RX12_103 rfl c38 c39 ?_
      obtain ⟨r40, er40, h⟩ := nm_el h
      refine RN_nmR er40 ?_
      refine RN_iload_n (pc := 17) (k := 3) (by decide +kernel) rfl rfl ?_
      refine RN_dconst0 (pc := 18) (by decide +kernel) ?_
      obtain ⟨c41, h⟩ := ck_el h
      refine RN_dast (pc := 19) (by decide +kernel) c41 ?_
      obtain ⟨σ42, eσ42, h⟩ := nm_el h
      refine RN_nmS eσ42 ?_
      refine RN_aload_n (pc := 20) (k := 0) (by decide +kernel) rfl rfl ?_
      obtain ⟨c43, h⟩ := ck_el h
      obtain ⟨c44, h⟩ := ck_el h
      refine RN_getR (pc := 21) (idx := 107) (ci := 11) (k := 44) (by decide +kernel) lf_RX12_107 rfl c43 c44 ?_
      obtain ⟨r45, er45, h⟩ := nm_el h
      refine RN_nmR er45 ?_
      refine RN_iload_n (pc := 24) (k := 3) (by decide +kernel) rfl rfl ?_
      refine RN_dconst0 (pc := 25) (by decide +kernel) ?_
      obtain ⟨c46, h⟩ := ck_el h
      refine RN_dast (pc := 26) (by decide +kernel) c46 ?_
      obtain ⟨σ47, eσ47, h⟩ := nm_el h
      refine RN_nmS eσ47 ?_
      refine RN_aload_n (pc := 27) (k := 0) (by decide +kernel) rfl rfl ?_
      obtain ⟨c48, h⟩ := ck_el h
      obtain ⟨c49, h⟩ := ck_el h
      refine RN_getR (pc := 28) (idx := 60) (ci := 11) (k := 23) (by decide +kernel) lf_RX12_60 rfl c48 c49 ?_
      obtain ⟨r50, er50, h⟩ := nm_el h
      refine RN_nmR er50 ?_
      refine RN_bipush (pc := 31) (n := 8) (v := 8) (by decide +kernel) (by decide) ?_
      refine RN_iload_n (pc := 33) (k := 3) (by decide +kernel) rfl rfl ?_
      refine RN_iadd (pc := 34) (by decide +kernel) ?_
      refine RN_lconst (pc := 35) (n := 0) (v := 0) (by decide +kernel) (by decide) ?_
      obtain ⟨c51, h⟩ := ck_el h
      refine RN_last (pc := 36) (by decide +kernel) c51 ?_
      obtain ⟨σ52, eσ52, h⟩ := nm_el h
      refine RN_nmS eσ52 ?_
      obtain ⟨x53, ex53, h⟩ := nm_el h
      refine RN_iinc (pc := 37) (i := 3) (n := 1) (v := x53) (ls2 := [some (.ref v0), some (.int v1), some (.int v2), some (.int x53)]) (by decide +kernel) rfl (by rw [ex53]; rfl) (by decide) rfl ?_
      refine RN_goto (pc := 40) (off := -33) (tgt := 7) (by decide +kernel) (by decide) ?_
      exact RN_weak (l := [some (.ref v0), some (.int v1), some (.int v2), some (.int x53)]) (And.intro rfl (And.intro rfl (And.intro rfl (And.intro rfl trivial)))) (ih x53 σ52 h)
def f_X12_floats (n : Nat) (v0 : Nat) (v1 : Int32) (v2 : Int32) (σ : Sg) : Option Sg :=
  ck (okO σ v0 11) <|
  nm (pD σ v0 45 (FP.dconst0)) fun σ28 =>
  b_X12_floats_7 n v0 v1 v2 (0 : Int32) σ28
set_option maxRecDepth 20000 in
theorem t_X12_floats {G : Gl} {σr : Sg} {n : Nat} {v0 : Nat} {v1 : Int32} {v2 : Int32} {σ : Sg} (h : f_X12_floats n v0 v1 v2 σ = some σr) : MT G M_X12_floats [.ref v0, .int v1, .int v2] σ none σr := by
  refine MT_of rfl rfl (Nat.le_of_ble_eq_true rfl) ?_
  show RN G M_X12_floats 0 [some (.ref v0), some (.int v1), some (.int v2)] [] σ (.inl none) σr
  unfold f_X12_floats at h
  refine RN_aload_n (pc := 0) (k := 0) (by decide +kernel) rfl rfl ?_
  refine RN_dconst0 (pc := 1) (by decide +kernel) ?_
  obtain ⟨c27, h⟩ := ck_el h
  refine RN_putD (pc := 2) (idx := 332) (ci := 11) (k := 45) (by decide +kernel) lf_RX12_332 rfl (fun q hq => by cases hq; exact Or.inl rfl) c27 ?_
  obtain ⟨σ28, eσ28, h⟩ := nm_el h
  refine RN_nmS eσ28 ?_
  refine RN_iconst (pc := 5) (n := 0) (v := 0) (by decide +kernel) (by decide) ?_
  refine RN_istore_n (pc := 6) (k := 3) (ls2 := [some (.ref v0), some (.int v1), some (.int v2), some (.int (0 : Int32))]) (by decide +kernel) rfl (by decide) rfl ?_
  exact RN_weak (l := [some (.ref v0), some (.int v1), some (.int v2), some (.int (0 : Int32))]) (And.intro rfl (And.intro rfl (And.intro rfl (And.intro rfl trivial)))) (tb_X12_floats_7 v0 v1 v2 n (0 : Int32) σ28 h)
def b_X12_breaks_98 (n : Nat) (σ : Sg) : Option (Int32 × Sg) :=
  some ((0 : Int32), σ)
set_option maxRecDepth 20000 in
theorem tb_X12_breaks_98 {G : Gl} {xr : Int32} {σr : Sg} (n : Nat) (σ : Sg) (h : b_X12_breaks_98 n σ = some (xr, σr)) : RN G M_X12_breaks 98 [] [] σ (.inl (some (.int xr))) σr := by
  unfold b_X12_breaks_98 at h
  refine RN_iconst (pc := 98) (n := 0) (v := 0) (by decide +kernel) (by decide) ?_
  obtain ⟨rfl, rfl⟩ := some_el2 h
  exact RN_zreturn (by decide +kernel) rfl (Or.inl rfl)
def b_X12_breaks_82 (n : Nat) (v5 : Int32) (v6 : Int64) (σ : Sg) : Option (Int32 × Sg) :=
  if v5 = 0 then (
    if v6 = (0 : Int64) then (
      b_X12_breaks_98 n σ)
    else (
      some ((1 : Int32), σ)))
  else (
    b_X12_breaks_98 n σ)
set_option maxRecDepth 20000 in
theorem tb_X12_breaks_82 {G : Gl} {xr : Int32} {σr : Sg} (n : Nat) (v5 : Int32) (v6 : Int64) (σ : Sg) (h : b_X12_breaks_82 n v5 v6 σ = some (xr, σr)) : RN G M_X12_breaks 82 [none, none, none, none, none, some (.int v5), some (.long v6)] [] σ (.inl (some (.int xr))) σr := by
  unfold b_X12_breaks_82 at h
  refine RN_iload (pc := 82) (i := 5) (by decide +kernel) rfl ?_
  refine RN_if_ne (pc := 84) (off := 14) (tgt := 98) (by decide +kernel) (by decide) (fun c50 => ?_) (fun c50 => ?_)
  · replace h := it_f c50 h
    exact RN_weak (l := []) trivial (tb_X12_breaks_98 n  σ h)
  · replace h := it_t c50 h
    refine RN_lload (pc := 87) (i := 6) (by decide +kernel) rfl ?_
    refine RN_lconst (pc := 89) (n := 0) (v := 0) (by decide +kernel) (by decide) ?_
    refine RN_lc_eq (pc := 90) (off := 7) (tgt := 98) (by decide +kernel) (by decide +kernel) (by decide) (fun c51 => ?_) (fun c51 => ?_)
    · replace h := it_t c51 h
      exact RN_weak (l := []) trivial (tb_X12_breaks_98 n  σ h)
    · replace h := it_f c51 h
      refine RN_iconst (pc := 94) (n := 1) (v := 1) (by decide +kernel) (by decide) ?_
      refine RN_goto (pc := 95) (off := 4) (tgt := 99) (by decide +kernel) (by decide) ?_
      obtain ⟨rfl, rfl⟩ := some_el2 h
      exact RN_zreturn (by decide +kernel) rfl (Or.inr rfl)
def b_X12_breaks_54 : Nat → Nat → Int32 → Int64 → Int32 → Sg → Option (Int32 × Sg)
  | 0, _, _, _, _, _ => none
  | n + 1, v0, v5, v6, v8, σ =>
  if (8 : Int32) ≤ v8 then (
    b_X12_breaks_82 n v5 v6 σ)
  else (
    ck (okO σ v0 11) <|
    ck (¬ gR σ v0 23 = 0) <|
    nm (gR σ v0 23) fun r54 =>
    ck (okA σ r54 14 ((8 : Int32) + v8)) <|
    nm (v6 + (gJ σ r54 ((8 : Int32) + v8).toNatClampNeg)) fun x56 =>
    nm (v8 + (1 : Int32)) fun x57 =>
    b_X12_breaks_54 n v0 v5 x56 x57 σ)
set_option maxRecDepth 20000 in
theorem tb_X12_breaks_54 {G : Gl} {xr : Int32} {σr : Sg} (v0 : Nat) (v5 : Int32) (σ : Sg) : ∀ (n : Nat) (v6 : Int64) (v8 : Int32), b_X12_breaks_54 n v0 v5 v6 v8 σ = some (xr, σr) → RN G M_X12_breaks 54 [some (.ref v0), none, none, none, none, some (.int v5), some (.long v6), none, some (.int v8)] [] σ (.inl (some (.int xr))) σr := by
  intro n
  induction n with
  | zero =>
    intro v6 v8 h
    exact none_el h
  | succ n ih =>
    intro v6 v8 h
    rw [b_X12_breaks_54] at h
    refine RN_iload (pc := 54) (i := 8) (by decide +kernel) rfl ?_
    refine RN_bipush (pc := 56) (n := 8) (v := 8) (by decide +kernel) (by decide) ?_
    refine RN_icmp_ge (pc := 58) (off := 24) (tgt := 82) (by decide +kernel) (by decide) (fun c49 => ?_) (fun c49 => ?_)
    · replace h := it_t c49 h
      exact RN_weak (l := [none, none, none, none, none, some (.int v5), some (.long v6)]) (And.intro rfl (And.intro rfl trivial)) (tb_X12_breaks_82 n v5 v6 σ h)
    · replace h := it_f c49 h
      refine RN_lload (pc := 61) (i := 6) (by decide +kernel) rfl ?_
      refine RN_aload_n (pc := 63) (k := 0) (by decide +kernel) rfl rfl ?_
      obtain ⟨c52, h⟩ := ck_el h
      obtain ⟨c53, h⟩ := ck_el h
      refine RN_getR (pc := 64) (idx := 60) (ci := 11) (k := 23) (by decide +kernel) lf_RX12_60 rfl c52 c53 ?_
      obtain ⟨r54, er54, h⟩ := nm_el h
      refine RN_nmR er54 ?_
      refine RN_bipush (pc := 67) (n := 8) (v := 8) (by decide +kernel) (by decide) ?_
      refine RN_iload (pc := 69) (i := 8) (by decide +kernel) rfl ?_
      refine RN_iadd (pc := 71) (by decide +kernel) ?_
      obtain ⟨c55, h⟩ := ck_el h
      refine RN_lald (pc := 72) (by decide +kernel) c55 ?_
      refine RN_ladd (pc := 73) (by decide +kernel) ?_
      obtain ⟨x56, ex56, h⟩ := nm_el h
      refine RN_nmJ ex56 ?_
      refine RN_lstore (pc := 74) (i := 6) (ls2 := [some (.ref v0), none, none, none, none, some (.int v5), some (.long x56), none, some (.int v8)]) (by decide +kernel) (by decide) rfl ?_
      obtain ⟨x57, ex57, h⟩ := nm_el h
      refine RN_iinc (pc := 76) (i := 8) (n := 1) (v := x57) (ls2 := [some (.ref v0), none, none, none, none, some (.int v5), some (.long x56), none, some (.int x57)]) (by decide +kernel) rfl (by rw [ex57]; rfl) (by decide) rfl ?_
      refine RN_goto (pc := 79) (off := -25) (tgt := 54) (by decide +kernel) (by decide) ?_
      exact RN_weak (l := [some (.ref v0), none, none, none, none, some (.int v5), some (.long x56), none, some (.int x57)]) (And.intro rfl (And.intro rfl (And.intro rfl (And.intro rfl trivial)))) (ih x56 x57 h)
def b_X12_breaks_136 (n : Nat) (σ : Sg) : Option (Int32 × Sg) :=
  some ((0 : Int32), σ)
set_option maxRecDepth 20000 in
theorem tb_X12_breaks_136 {G : Gl} {xr : Int32} {σr : Sg} (n : Nat) (σ : Sg) (h : b_X12_breaks_136 n σ = some (xr, σr)) : RN G M_X12_breaks 136 [] [] σ (.inl (some (.int xr))) σr := by
  unfold b_X12_breaks_136 at h
  refine RN_iconst (pc := 136) (n := 0) (v := 0) (by decide +kernel) (by decide) ?_
  obtain ⟨rfl, rfl⟩ := some_el2 h
  exact RN_zreturn (by decide +kernel) rfl (Or.inl rfl)
def b_X12_breaks_171 (n : Nat) (σ : Sg) : Option (Int32 × Sg) :=
  some ((0 : Int32), σ)
set_option maxRecDepth 20000 in
theorem tb_X12_breaks_171 {G : Gl} {xr : Int32} {σr : Sg} (n : Nat) (σ : Sg) (h : b_X12_breaks_171 n σ = some (xr, σr)) : RN G M_X12_breaks 171 [] [] σ (.inl (some (.int xr))) σr := by
  unfold b_X12_breaks_171 at h
  refine RN_iconst (pc := 171) (n := 0) (v := 0) (by decide +kernel) (by decide) ?_
  obtain ⟨rfl, rfl⟩ := some_el2 h
  exact RN_zreturn (by decide +kernel) rfl (Or.inl rfl)
def b_X12_breaks_189 (n : Nat) (σ : Sg) : Option (Int32 × Sg) :=
  some ((0 : Int32), σ)
set_option maxRecDepth 20000 in
theorem tb_X12_breaks_189 {G : Gl} {xr : Int32} {σr : Sg} (n : Nat) (σ : Sg) (h : b_X12_breaks_189 n σ = some (xr, σr)) : RN G M_X12_breaks 189 [] [] σ (.inl (some (.int xr))) σr := by
  unfold b_X12_breaks_189 at h
  refine RN_iconst (pc := 189) (n := 0) (v := 0) (by decide +kernel) (by decide) ?_
  obtain ⟨rfl, rfl⟩ := some_el2 h
  exact RN_zreturn (by decide +kernel) rfl (Or.inl rfl)
def b_X12_breaks_210 (n : Nat) (σ : Sg) : Option (Int32 × Sg) :=
  some ((0 : Int32), σ)
set_option maxRecDepth 20000 in
theorem tb_X12_breaks_210 {G : Gl} {xr : Int32} {σr : Sg} (n : Nat) (σ : Sg) (h : b_X12_breaks_210 n σ = some (xr, σr)) : RN G M_X12_breaks 210 [] [] σ (.inl (some (.int xr))) σr := by
  unfold b_X12_breaks_210 at h
  refine RN_iconst (pc := 210) (n := 0) (v := 0) (by decide +kernel) (by decide) ?_
  obtain ⟨rfl, rfl⟩ := some_el2 h
  exact RN_zreturn (by decide +kernel) rfl (Or.inl rfl)
def f_X12_breaks (n : Nat) (v0 : Nat) (v1 : Int32) (v2 : Int32) (v3 : Int32) (v4 : Int32) (σ : Sg) : Option (Int32 × Sg) :=
  ck (okO σ v0 11) <|
  bd (f_X12_triesAmount n v0 v1 v4 σ) fun x47 σ46 =>
  if v2 = 0 then (
    b_X12_breaks_54 n v0 x47 (0 : Int64) (0 : Int32) σ46)
  else (
  if v2 = 1 then (
    ck (okO σ46 v0 11) <|
    bp (f_X12_notes n v0 σ46) fun σ61 =>
    ck (okO σ61 v0 11) <|
    bd (f_X12_triesAmount n v0 v1 (-v4) σ61) fun x65 σ64 =>
    if x65 = x47 then (
      if x47 = 0 then (
        ck (okO σ64 v0 11) <|
        bp (f_X12_differs n v0 (-1 : Int64) σ64) fun x70 =>
        if x70 = 0 then (
          b_X12_breaks_136 n σ64)
        else (
          some ((1 : Int32), σ64)))
      else (
        b_X12_breaks_136 n σ64))
    else (
      some ((1 : Int32), σ64)))
  else (
  if v2 = 2 then (
    ck (okO σ46 v0 11) <|
    bp (f_X12_notes n v0 σ46) fun σ75 =>
    ck (okO σ75 v0 11) <|
    bd (f_X12_triesAmount n v0 v3 v4 σ75) fun x79 σ78 =>
    if x79 = x47 then (
      if x47 = 0 then (
        ck (okO σ78 v0 11) <|
        bp (f_X12_differs n v0 (1 : Int64) σ78) fun x84 =>
        if x84 = 0 then (
          b_X12_breaks_171 n σ78)
        else (
          some ((1 : Int32), σ78)))
      else (
        b_X12_breaks_171 n σ78))
    else (
      some ((1 : Int32), σ78)))
  else (
  if v2 = 3 then (
    if x47 = 0 then (
      ck (okO σ46 v0 11) <|
      bp (f_X12_isUnfair n v0 σ46) fun x90 =>
      if x90 = 0 then (
        b_X12_breaks_189 n σ46)
      else (
        some ((1 : Int32), σ46)))
    else (
      b_X12_breaks_189 n σ46))
  else (
  if v2 = 4 then (
    ck (x47 = 0 ∨ x47 = 1) <|
    some (x47, σ46))
  else (
  if v2 = 5 then (
    if x47 = 0 then (
      ck (okO σ46 v0 11) <|
      if (gI σ46 v0 31) ≤ 0 then (
        b_X12_breaks_210 n σ46)
      else (
        some ((1 : Int32), σ46)))
    else (
      b_X12_breaks_210 n σ46))
  else (
    if x47 = 0 then (
      ck (okO σ46 v0 11) <|
      bp (f_X12_notes n v0 σ46) fun σ101 =>
      ck (okO σ101 v0 11) <|
      bp (f_X12_floats n v0 v1 v4 σ101) fun σ104 =>
      ck (okO σ104 v0 11) <|
      bp (f_X12_differs n v0 (1 : Int64) σ104) fun x107 =>
      ck (x107 = 0 ∨ x107 = 1) <|
      some (x107, σ104))
    else (
      some ((0 : Int32), σ46))))))))
set_option maxRecDepth 20000 in
theorem t_X12_breaks {G : Gl} {xr : Int32} {σr : Sg} {n : Nat} {v0 : Nat} {v1 : Int32} {v2 : Int32} {v3 : Int32} {v4 : Int32} {σ : Sg} (h : f_X12_breaks n v0 v1 v2 v3 v4 σ = some (xr, σr)) : MT G M_X12_breaks [.ref v0, .int v1, .int v2, .int v3, .int v4] σ (some (.int xr)) σr := by
  refine MT_of rfl rfl (Nat.le_of_ble_eq_true rfl) ?_
  show RN G M_X12_breaks 0 [some (.ref v0), some (.int v1), some (.int v2), some (.int v3), some (.int v4)] [] σ (.inl (some (.int xr))) σr
  unfold f_X12_breaks at h
  refine RN_aload_n (pc := 0) (k := 0) (by decide +kernel) rfl rfl ?_
  refine RN_iload_n (pc := 1) (k := 1) (by decide +kernel) rfl rfl ?_
  refine RN_iload (pc := 2) (i := 4) (by decide +kernel) rfl ?_
  obtain ⟨c44, h⟩ := ck_el h
  obtain ⟨x47, σ46, f45, h⟩ := bd_el h
  refine RN_callV (M := M_X12_breaks) (pc := 4) (idx := 290) (as := [.int v1, .int v4]) (st := []) (t_X12_triesAmount f45) (by decide +kernel) lk_RX12_290 rfl ⟨by decide, fun q hq => by cases hq; rfl⟩ c44 (Nat.le_of_ble_eq_true rfl) ⟨Nat.le_of_ble_eq_true rfl, Nat.le_of_ble_eq_true rfl⟩ rfl ?_
  show RN G M_X12_breaks 7 [some (.ref v0), some (.int v1), some (.int v2), some (.int v3), some (.int v4)] [.int x47] σ46 _ _
  refine RN_istore (pc := 7) (i := 5) (ls2 := [some (.ref v0), some (.int v1), some (.int v2), some (.int v3), some (.int v4), some (.int x47)]) (by decide +kernel) (by decide) rfl ?_
  refine RN_iload_n (pc := 9) (k := 2) (by decide +kernel) rfl rfl ?_
  by_cases c48 : v2 = 0
  · replace h := it_t c48 h
    refine RN_tsw (pc := 10) (dflt := 202) (lo := 0) (hi := 5) (offs := #[38, 90, 128, 163, 181, 184]) (len := 38) (v := 0) (off := 38) (tgt := 48) c48 (by decide +kernel) (by decide) (by decide) (by decide +kernel) (by decide) ?_
    refine RN_lconst (pc := 48) (n := 0) (v := 0) (by decide +kernel) (by decide) ?_
    refine RN_lstore (pc := 49) (i := 6) (ls2 := [some (.ref v0), some (.int v1), some (.int v2), some (.int v3), some (.int v4), some (.int x47), some (.long (0 : Int64)), none]) (by decide +kernel) (by decide) rfl ?_
    refine RN_iconst (pc := 51) (n := 0) (v := 0) (by decide +kernel) (by decide) ?_
    refine RN_istore (pc := 52) (i := 8) (ls2 := [some (.ref v0), some (.int v1), some (.int v2), some (.int v3), some (.int v4), some (.int x47), some (.long (0 : Int64)), none, some (.int (0 : Int32))]) (by decide +kernel) (by decide) rfl ?_
    exact RN_weak (l := [some (.ref v0), none, none, none, none, some (.int x47), some (.long (0 : Int64)), none, some (.int (0 : Int32))]) (And.intro rfl (And.intro rfl (And.intro rfl (And.intro rfl trivial)))) (tb_X12_breaks_54 v0 x47 σ46 n (0 : Int64) (0 : Int32) h)
  · replace h := it_f c48 h
    by_cases c58 : v2 = 1
    · replace h := it_t c58 h
      refine RN_tsw (pc := 10) (dflt := 202) (lo := 0) (hi := 5) (offs := #[38, 90, 128, 163, 181, 184]) (len := 38) (v := 1) (off := 90) (tgt := 100) c58 (by decide +kernel) (by decide) (by decide) (by decide +kernel) (by decide) ?_
      refine RN_aload_n (pc := 100) (k := 0) (by decide +kernel) rfl rfl ?_
      obtain ⟨c59, h⟩ := ck_el h
      obtain ⟨σ61, f60, h⟩ := bp_el h
      refine RN_callV (M := M_X12_breaks) (pc := 101) (idx := 293) (as := []) (st := []) (t_X12_notes f60) (by decide +kernel) lk_RX12_293 rfl ⟨by decide, fun q hq => by cases hq; rfl⟩ c59 (Nat.le_of_ble_eq_true rfl) ⟨Nat.le_of_ble_eq_true rfl, Nat.le_of_ble_eq_true rfl⟩ rfl ?_
      show RN G M_X12_breaks 104 [some (.ref v0), some (.int v1), some (.int v2), some (.int v3), some (.int v4), some (.int x47)] [] σ61 _ _
      refine RN_aload_n (pc := 104) (k := 0) (by decide +kernel) rfl rfl ?_
      refine RN_iload_n (pc := 105) (k := 1) (by decide +kernel) rfl rfl ?_
      refine RN_iload (pc := 106) (i := 4) (by decide +kernel) rfl ?_
      refine RN_ineg (pc := 108) (by decide +kernel) ?_
      obtain ⟨c62, h⟩ := ck_el h
      obtain ⟨x65, σ64, f63, h⟩ := bd_el h
      refine RN_callV (M := M_X12_breaks) (pc := 109) (idx := 290) (as := [.int v1, .int (-v4)]) (st := []) (t_X12_triesAmount f63) (by decide +kernel) lk_RX12_290 rfl ⟨by decide, fun q hq => by cases hq; rfl⟩ c62 (Nat.le_of_ble_eq_true rfl) ⟨Nat.le_of_ble_eq_true rfl, Nat.le_of_ble_eq_true rfl⟩ rfl ?_
      show RN G M_X12_breaks 112 [some (.ref v0), some (.int v1), some (.int v2), some (.int v3), some (.int v4), some (.int x47)] [.int x65] σ64 _ _
      refine RN_iload (pc := 112) (i := 5) (by decide +kernel) rfl ?_
      refine RN_icmp_ne (pc := 114) (off := 18) (tgt := 132) (by decide +kernel) (by decide) (fun c66 => ?_) (fun c66 => ?_)
      · replace h := it_f c66 h
        refine RN_iconst (pc := 132) (n := 1) (v := 1) (by decide +kernel) (by decide) ?_
        refine RN_goto (pc := 133) (off := 4) (tgt := 137) (by decide +kernel) (by decide) ?_
        obtain ⟨rfl, rfl⟩ := some_el2 h
        exact RN_zreturn (by decide +kernel) rfl (Or.inr rfl)
      · replace h := it_t c66 h
        refine RN_iload (pc := 117) (i := 5) (by decide +kernel) rfl ?_
        refine RN_if_ne (pc := 119) (off := 17) (tgt := 136) (by decide +kernel) (by decide) (fun c67 => ?_) (fun c67 => ?_)
        · replace h := it_f c67 h
          exact RN_weak (l := []) trivial (tb_X12_breaks_136 n  σ64 h)
        · replace h := it_t c67 h
          refine RN_aload_n (pc := 122) (k := 0) (by decide +kernel) rfl rfl ?_
          refine RN_ldc2 (pc := 123) (idx := 296) (v := -1) (by decide +kernel) kc_RX12_296 ?_
          obtain ⟨c68, h⟩ := ck_el h
          obtain ⟨x70, f69, h⟩ := bp_el h
          refine RN_callV (M := M_X12_breaks) (pc := 126) (idx := 298) (as := [.long (-1 : Int64)]) (st := []) (t_X12_differs f69) (by decide +kernel) lk_RX12_298 rfl ⟨by decide, fun q hq => by cases hq; rfl⟩ c68 (Nat.le_of_ble_eq_true rfl) ⟨Nat.le_of_ble_eq_true rfl, Nat.le_of_ble_eq_true rfl⟩ rfl ?_
          show RN G M_X12_breaks 129 [some (.ref v0), some (.int v1), some (.int v2), some (.int v3), some (.int v4), some (.int x47)] [.int x70] σ64 _ _
          refine RN_if_eq (pc := 129) (off := 7) (tgt := 136) (by decide +kernel) (by decide) (fun c71 => ?_) (fun c71 => ?_)
          · replace h := it_t c71 h
            exact RN_weak (l := []) trivial (tb_X12_breaks_136 n  σ64 h)
          · replace h := it_f c71 h
            refine RN_iconst (pc := 132) (n := 1) (v := 1) (by decide +kernel) (by decide) ?_
            refine RN_goto (pc := 133) (off := 4) (tgt := 137) (by decide +kernel) (by decide) ?_
            obtain ⟨rfl, rfl⟩ := some_el2 h
            exact RN_zreturn (by decide +kernel) rfl (Or.inr rfl)
    · replace h := it_f c58 h
      by_cases c72 : v2 = 2
      · replace h := it_t c72 h
        refine RN_tsw (pc := 10) (dflt := 202) (lo := 0) (hi := 5) (offs := #[38, 90, 128, 163, 181, 184]) (len := 38) (v := 2) (off := 128) (tgt := 138) c72 (by decide +kernel) (by decide) (by decide) (by decide +kernel) (by decide) ?_
        refine RN_aload_n (pc := 138) (k := 0) (by decide +kernel) rfl rfl ?_
        obtain ⟨c73, h⟩ := ck_el h
        obtain ⟨σ75, f74, h⟩ := bp_el h
        refine RN_callV (M := M_X12_breaks) (pc := 139) (idx := 293) (as := []) (st := []) (t_X12_notes f74) (by decide +kernel) lk_RX12_293 rfl ⟨by decide, fun q hq => by cases hq; rfl⟩ c73 (Nat.le_of_ble_eq_true rfl) ⟨Nat.le_of_ble_eq_true rfl, Nat.le_of_ble_eq_true rfl⟩ rfl ?_
        show RN G M_X12_breaks 142 [some (.ref v0), some (.int v1), some (.int v2), some (.int v3), some (.int v4), some (.int x47)] [] σ75 _ _
        refine RN_aload_n (pc := 142) (k := 0) (by decide +kernel) rfl rfl ?_
        refine RN_iload_n (pc := 143) (k := 3) (by decide +kernel) rfl rfl ?_
        refine RN_iload (pc := 144) (i := 4) (by decide +kernel) rfl ?_
        obtain ⟨c76, h⟩ := ck_el h
        obtain ⟨x79, σ78, f77, h⟩ := bd_el h
        refine RN_callV (M := M_X12_breaks) (pc := 146) (idx := 290) (as := [.int v3, .int v4]) (st := []) (t_X12_triesAmount f77) (by decide +kernel) lk_RX12_290 rfl ⟨by decide, fun q hq => by cases hq; rfl⟩ c76 (Nat.le_of_ble_eq_true rfl) ⟨Nat.le_of_ble_eq_true rfl, Nat.le_of_ble_eq_true rfl⟩ rfl ?_
        show RN G M_X12_breaks 149 [some (.ref v0), some (.int v1), some (.int v2), some (.int v3), some (.int v4), some (.int x47)] [.int x79] σ78 _ _
        refine RN_iload (pc := 149) (i := 5) (by decide +kernel) rfl ?_
        refine RN_icmp_ne (pc := 151) (off := 16) (tgt := 167) (by decide +kernel) (by decide) (fun c80 => ?_) (fun c80 => ?_)
        · replace h := it_f c80 h
          refine RN_iconst (pc := 167) (n := 1) (v := 1) (by decide +kernel) (by decide) ?_
          refine RN_goto (pc := 168) (off := 4) (tgt := 172) (by decide +kernel) (by decide) ?_
          obtain ⟨rfl, rfl⟩ := some_el2 h
          exact RN_zreturn (by decide +kernel) rfl (Or.inr rfl)
        · replace h := it_t c80 h
          refine RN_iload (pc := 154) (i := 5) (by decide +kernel) rfl ?_
          refine RN_if_ne (pc := 156) (off := 15) (tgt := 171) (by decide +kernel) (by decide) (fun c81 => ?_) (fun c81 => ?_)
          · replace h := it_f c81 h
            exact RN_weak (l := []) trivial (tb_X12_breaks_171 n  σ78 h)
          · replace h := it_t c81 h
            refine RN_aload_n (pc := 159) (k := 0) (by decide +kernel) rfl rfl ?_
            refine RN_lconst (pc := 160) (n := 1) (v := 1) (by decide +kernel) (by decide) ?_
            obtain ⟨c82, h⟩ := ck_el h
            obtain ⟨x84, f83, h⟩ := bp_el h
            refine RN_callV (M := M_X12_breaks) (pc := 161) (idx := 298) (as := [.long (1 : Int64)]) (st := []) (t_X12_differs f83) (by decide +kernel) lk_RX12_298 rfl ⟨by decide, fun q hq => by cases hq; rfl⟩ c82 (Nat.le_of_ble_eq_true rfl) ⟨Nat.le_of_ble_eq_true rfl, Nat.le_of_ble_eq_true rfl⟩ rfl ?_
            show RN G M_X12_breaks 164 [some (.ref v0), some (.int v1), some (.int v2), some (.int v3), some (.int v4), some (.int x47)] [.int x84] σ78 _ _
            refine RN_if_eq (pc := 164) (off := 7) (tgt := 171) (by decide +kernel) (by decide) (fun c85 => ?_) (fun c85 => ?_)
            · replace h := it_t c85 h
              exact RN_weak (l := []) trivial (tb_X12_breaks_171 n  σ78 h)
            · replace h := it_f c85 h
              refine RN_iconst (pc := 167) (n := 1) (v := 1) (by decide +kernel) (by decide) ?_
              refine RN_goto (pc := 168) (off := 4) (tgt := 172) (by decide +kernel) (by decide) ?_
              obtain ⟨rfl, rfl⟩ := some_el2 h
              exact RN_zreturn (by decide +kernel) rfl (Or.inr rfl)
      · replace h := it_f c72 h
        by_cases c86 : v2 = 3
        · replace h := it_t c86 h
          refine RN_tsw (pc := 10) (dflt := 202) (lo := 0) (hi := 5) (offs := #[38, 90, 128, 163, 181, 184]) (len := 38) (v := 3) (off := 163) (tgt := 173) c86 (by decide +kernel) (by decide) (by decide) (by decide +kernel) (by decide) ?_
          refine RN_iload (pc := 173) (i := 5) (by decide +kernel) rfl ?_
          refine RN_if_ne (pc := 175) (off := 14) (tgt := 189) (by decide +kernel) (by decide) (fun c87 => ?_) (fun c87 => ?_)
          · replace h := it_f c87 h
            exact RN_weak (l := []) trivial (tb_X12_breaks_189 n  σ46 h)
          · replace h := it_t c87 h
            refine RN_aload_n (pc := 178) (k := 0) (by decide +kernel) rfl rfl ?_
            obtain ⟨c88, h⟩ := ck_el h
            obtain ⟨x90, f89, h⟩ := bp_el h
            refine RN_callV (M := M_X12_breaks) (pc := 179) (idx := 301) (as := []) (st := []) (t_X12_isUnfair f89) (by decide +kernel) lk_RX12_301 rfl ⟨by decide, fun q hq => by cases hq; rfl⟩ c88 (Nat.le_of_ble_eq_true rfl) ⟨Nat.le_of_ble_eq_true rfl, Nat.le_of_ble_eq_true rfl⟩ rfl ?_
            show RN G M_X12_breaks 182 [some (.ref v0), some (.int v1), some (.int v2), some (.int v3), some (.int v4), some (.int x47)] [.int x90] σ46 _ _
            refine RN_if_eq (pc := 182) (off := 7) (tgt := 189) (by decide +kernel) (by decide) (fun c91 => ?_) (fun c91 => ?_)
            · replace h := it_t c91 h
              exact RN_weak (l := []) trivial (tb_X12_breaks_189 n  σ46 h)
            · replace h := it_f c91 h
              refine RN_iconst (pc := 185) (n := 1) (v := 1) (by decide +kernel) (by decide) ?_
              refine RN_goto (pc := 186) (off := 4) (tgt := 190) (by decide +kernel) (by decide) ?_
              obtain ⟨rfl, rfl⟩ := some_el2 h
              exact RN_zreturn (by decide +kernel) rfl (Or.inr rfl)
        · replace h := it_f c86 h
          by_cases c92 : v2 = 4
          · replace h := it_t c92 h
            refine RN_tsw (pc := 10) (dflt := 202) (lo := 0) (hi := 5) (offs := #[38, 90, 128, 163, 181, 184]) (len := 38) (v := 4) (off := 181) (tgt := 191) c92 (by decide +kernel) (by decide) (by decide) (by decide +kernel) (by decide) ?_
            refine RN_iload (pc := 191) (i := 5) (by decide +kernel) rfl ?_
            obtain ⟨c93, h⟩ := ck_el h
            obtain ⟨rfl, rfl⟩ := some_el2 h
            exact RN_zreturn (by decide +kernel) rfl c93
          · replace h := it_f c92 h
            by_cases c94 : v2 = 5
            · replace h := it_t c94 h
              refine RN_tsw (pc := 10) (dflt := 202) (lo := 0) (hi := 5) (offs := #[38, 90, 128, 163, 181, 184]) (len := 38) (v := 5) (off := 184) (tgt := 194) c94 (by decide +kernel) (by decide) (by decide) (by decide +kernel) (by decide) ?_
              refine RN_iload (pc := 194) (i := 5) (by decide +kernel) rfl ?_
              refine RN_if_ne (pc := 196) (off := 14) (tgt := 210) (by decide +kernel) (by decide) (fun c95 => ?_) (fun c95 => ?_)
              · replace h := it_f c95 h
                exact RN_weak (l := []) trivial (tb_X12_breaks_210 n  σ46 h)
              · replace h := it_t c95 h
                refine RN_aload_n (pc := 199) (k := 0) (by decide +kernel) rfl rfl ?_
                obtain ⟨c96, h⟩ := ck_el h
                refine RN_getI (pc := 200) (idx := 235) (ci := 11) (k := 31) (by decide +kernel) lf_RX12_235 (Or.inl rfl) c96 ?_
                refine RN_if_le (pc := 203) (off := 7) (tgt := 210) (by decide +kernel) (by decide) (fun c97 => ?_) (fun c97 => ?_)
                · replace h := it_t c97 h
                  exact RN_weak (l := []) trivial (tb_X12_breaks_210 n  σ46 h)
                · replace h := it_f c97 h
                  refine RN_iconst (pc := 206) (n := 1) (v := 1) (by decide +kernel) (by decide) ?_
                  refine RN_goto (pc := 207) (off := 4) (tgt := 211) (by decide +kernel) (by decide) ?_
                  obtain ⟨rfl, rfl⟩ := some_el2 h
                  exact RN_zreturn (by decide +kernel) rfl (Or.inr rfl)
            · replace h := it_f c94 h
              refine RN_tableOut (pc := 10) (dflt := 202) (lo := 0) (hi := 5) (offs := #[38, 90, 128, 163, 181, 184]) (len := 38) (tgt := 212) (by decide +kernel) (tsw_s (hi := 4) (hi' := 5) (tsw_s (hi := 3) (hi' := 4) (tsw_s (hi := 2) (hi' := 3) (tsw_s (hi := 1) (hi' := 2) (tsw_s (hi := 0) (hi' := 1) (tsw_s (hi := -1) (hi' := 0) (tsw_0 (0)) (by decide) (by decide) c48) (by decide) (by decide) c58) (by decide) (by decide) c72) (by decide) (by decide) c86) (by decide) (by decide) c92) (by decide) (by decide) c94) (by decide) ?_
              refine RN_iload (pc := 212) (i := 5) (by decide +kernel) rfl ?_
              refine RN_if_eq (pc := 214) (off := 5) (tgt := 219) (by decide +kernel) (by decide) (fun c98 => ?_) (fun c98 => ?_)
              · replace h := it_t c98 h
                refine RN_aload_n (pc := 219) (k := 0) (by decide +kernel) rfl rfl ?_
                obtain ⟨c99, h⟩ := ck_el h
                obtain ⟨σ101, f100, h⟩ := bp_el h
                refine RN_callV (M := M_X12_breaks) (pc := 220) (idx := 293) (as := []) (st := []) (t_X12_notes f100) (by decide +kernel) lk_RX12_293 rfl ⟨by decide, fun q hq => by cases hq; rfl⟩ c99 (Nat.le_of_ble_eq_true rfl) ⟨Nat.le_of_ble_eq_true rfl, Nat.le_of_ble_eq_true rfl⟩ rfl ?_
                show RN G M_X12_breaks 223 [some (.ref v0), some (.int v1), some (.int v2), some (.int v3), some (.int v4), some (.int x47)] [] σ101 _ _
                refine RN_aload_n (pc := 223) (k := 0) (by decide +kernel) rfl rfl ?_
                refine RN_iload_n (pc := 224) (k := 1) (by decide +kernel) rfl rfl ?_
                refine RN_iload (pc := 225) (i := 4) (by decide +kernel) rfl ?_
                obtain ⟨c102, h⟩ := ck_el h
                obtain ⟨σ104, f103, h⟩ := bp_el h
                refine RN_callV (M := M_X12_breaks) (pc := 227) (idx := 305) (as := [.int v1, .int v4]) (st := []) (t_X12_floats f103) (by decide +kernel) lk_RX12_305 rfl ⟨by decide, fun q hq => by cases hq; rfl⟩ c102 (Nat.le_of_ble_eq_true rfl) ⟨Nat.le_of_ble_eq_true rfl, Nat.le_of_ble_eq_true rfl⟩ rfl ?_
                show RN G M_X12_breaks 230 [some (.ref v0), some (.int v1), some (.int v2), some (.int v3), some (.int v4), some (.int x47)] [] σ104 _ _
                refine RN_aload_n (pc := 230) (k := 0) (by decide +kernel) rfl rfl ?_
                refine RN_lconst (pc := 231) (n := 1) (v := 1) (by decide +kernel) (by decide) ?_
                obtain ⟨c105, h⟩ := ck_el h
                obtain ⟨x107, f106, h⟩ := bp_el h
                refine RN_callV (M := M_X12_breaks) (pc := 232) (idx := 298) (as := [.long (1 : Int64)]) (st := []) (t_X12_differs f106) (by decide +kernel) lk_RX12_298 rfl ⟨by decide, fun q hq => by cases hq; rfl⟩ c105 (Nat.le_of_ble_eq_true rfl) ⟨Nat.le_of_ble_eq_true rfl, Nat.le_of_ble_eq_true rfl⟩ rfl ?_
                show RN G M_X12_breaks 235 [some (.ref v0), some (.int v1), some (.int v2), some (.int v3), some (.int v4), some (.int x47)] [.int x107] σ104 _ _
                obtain ⟨c108, h⟩ := ck_el h
                obtain ⟨rfl, rfl⟩ := some_el2 h
                exact RN_zreturn (by decide +kernel) rfl c108
              · replace h := it_f c98 h
                refine RN_iconst (pc := 217) (n := 0) (v := 0) (by decide +kernel) (by decide) ?_
                obtain ⟨rfl, rfl⟩ := some_el2 h
                exact RN_zreturn (by decide +kernel) rfl (Or.inl rfl)
def b_X12_isSpan_40 : Option Int32 :=
  some (0 : Int32)
set_option maxRecDepth 20000 in
theorem tb_X12_isSpan_40 {G : Gl} {xr : Int32} {σ : Sg} (h : b_X12_isSpan_40 = some xr) : RN G M_X12_isSpan 40 [] [] σ (.inl (some (.int xr))) σ := by
  unfold b_X12_isSpan_40 at h
  refine RN_iconst (pc := 40) (n := 0) (v := 0) (by decide +kernel) (by decide) ?_
  obtain rfl := some_el h
  exact RN_zreturn (by decide +kernel) rfl (Or.inl rfl)
def f_X12_isSpan (v0 : Int32) (v1 : Int32) (v2 : Int32) : Option Int32 :=
  bp (f_X12_in v0 (-1000000 : Int32) (1000000 : Int32)) fun x6 =>
  if x6 = 0 then (
    b_X12_isSpan_40)
  else (
    bp (f_X12_in v1 (-1000000 : Int32) (1000000 : Int32)) fun x9 =>
    if x9 = 0 then (
      b_X12_isSpan_40)
    else (
      if v1 < v0 then (
        b_X12_isSpan_40)
      else (
        if v2 < (v1 - v0) then (
          b_X12_isSpan_40)
        else (
          some (1 : Int32)))))
set_option maxRecDepth 20000 in
theorem t_X12_isSpan {G : Gl} {xr : Int32} {v0 : Int32} {v1 : Int32} {v2 : Int32} {σ : Sg} (h : f_X12_isSpan v0 v1 v2 = some xr) : MT G M_X12_isSpan [.int v0, .int v1, .int v2] σ (some (.int xr)) σ := by
  refine MT_of rfl rfl (Nat.le_of_ble_eq_true rfl) ?_
  show RN G M_X12_isSpan 0 [some (.int v0), some (.int v1), some (.int v2)] [] σ (.inl (some (.int xr))) σ
  unfold f_X12_isSpan at h
  refine RN_iload_n (pc := 0) (k := 0) (by decide +kernel) rfl rfl ?_
  refine RN_ldcw (pc := 1) (idx := 348) (v := -1000000) (by decide +kernel) kc_RX12_348 ?_
  refine RN_ldc (pc := 4) (idx := 171) (v := 1000000) (by decide +kernel) kc_RX12_171 ?_
  obtain ⟨x6, f5, h⟩ := bp_el h
  refine RN_callS (M := M_X12_isSpan) (pc := 6) (idx := 159) (as := [.int v0, .int (-1000000 : Int32), .int (1000000 : Int32)]) (st := []) (t_X12_in f5) (by decide +kernel) lk_RX12_159 rfl (Nat.le_of_ble_eq_true rfl) ⟨Nat.le_of_ble_eq_true rfl, Nat.le_of_ble_eq_true rfl⟩ rfl ?_
  show RN G M_X12_isSpan 9 [some (.int v0), some (.int v1), some (.int v2)] [.int x6] σ _ _
  refine RN_if_eq (pc := 9) (off := 31) (tgt := 40) (by decide +kernel) (by decide) (fun c7 => ?_) (fun c7 => ?_)
  · replace h := it_t c7 h
    exact RN_weak (l := []) trivial (tb_X12_isSpan_40  h)
  · replace h := it_f c7 h
    refine RN_iload_n (pc := 12) (k := 1) (by decide +kernel) rfl rfl ?_
    refine RN_ldcw (pc := 13) (idx := 348) (v := -1000000) (by decide +kernel) kc_RX12_348 ?_
    refine RN_ldc (pc := 16) (idx := 171) (v := 1000000) (by decide +kernel) kc_RX12_171 ?_
    obtain ⟨x9, f8, h⟩ := bp_el h
    refine RN_callS (M := M_X12_isSpan) (pc := 18) (idx := 159) (as := [.int v1, .int (-1000000 : Int32), .int (1000000 : Int32)]) (st := []) (t_X12_in f8) (by decide +kernel) lk_RX12_159 rfl (Nat.le_of_ble_eq_true rfl) ⟨Nat.le_of_ble_eq_true rfl, Nat.le_of_ble_eq_true rfl⟩ rfl ?_
    show RN G M_X12_isSpan 21 [some (.int v0), some (.int v1), some (.int v2)] [.int x9] σ _ _
    refine RN_if_eq (pc := 21) (off := 19) (tgt := 40) (by decide +kernel) (by decide) (fun c10 => ?_) (fun c10 => ?_)
    · replace h := it_t c10 h
      exact RN_weak (l := []) trivial (tb_X12_isSpan_40  h)
    · replace h := it_f c10 h
      refine RN_iload_n (pc := 24) (k := 1) (by decide +kernel) rfl rfl ?_
      refine RN_iload_n (pc := 25) (k := 0) (by decide +kernel) rfl rfl ?_
      refine RN_icmp_lt (pc := 26) (off := 14) (tgt := 40) (by decide +kernel) (by decide) (fun c11 => ?_) (fun c11 => ?_)
      · replace h := it_t c11 h
        exact RN_weak (l := []) trivial (tb_X12_isSpan_40  h)
      · replace h := it_f c11 h
        refine RN_iload_n (pc := 29) (k := 1) (by decide +kernel) rfl rfl ?_
        refine RN_iload_n (pc := 30) (k := 0) (by decide +kernel) rfl rfl ?_
        refine RN_isub (pc := 31) (by decide +kernel) ?_
        refine RN_iload_n (pc := 32) (k := 2) (by decide +kernel) rfl rfl ?_
        refine RN_icmp_gt (pc := 33) (off := 7) (tgt := 40) (by decide +kernel) (by decide) (fun c12 => ?_) (fun c12 => ?_)
        · replace h := it_t c12 h
          exact RN_weak (l := []) trivial (tb_X12_isSpan_40  h)
        · replace h := it_f c12 h
          refine RN_iconst (pc := 36) (n := 1) (v := 1) (by decide +kernel) (by decide) ?_
          refine RN_goto (pc := 37) (off := 4) (tgt := 41) (by decide +kernel) (by decide) ?_
          obtain rfl := some_el h
          exact RN_zreturn (by decide +kernel) rfl (Or.inr rfl)
def b_X12_leastOf_4 : Nat → Nat → Int32 → Int32 → Int32 → Int32 → Int32 → Sg → Option (Int32 × Sg)
  | 0, _, _, _, _, _, _, _ => none
  | n + 1, v0, v1, v2, v3, v5, v6, σ =>
  if v5 < v6 then (
    some ((9999999 : Int32), σ))
  else (
    ck (okO σ v0 11) <|
    bd (f_X12_breaks n v0 v1 v2 v3 v6 σ) fun x10 σ9 =>
    if x10 = 0 then (
      nm (v6 + (1 : Int32)) fun x12 =>
      b_X12_leastOf_4 n v0 v1 v2 v3 v5 x12 σ9)
    else (
      some (v6, σ9)))
set_option maxRecDepth 20000 in
theorem tb_X12_leastOf_4 {G : Gl} {xr : Int32} {σr : Sg} (v0 : Nat) (v1 : Int32) (v2 : Int32) (v3 : Int32) (v5 : Int32) : ∀ (n : Nat) (v6 : Int32) (σ : Sg), b_X12_leastOf_4 n v0 v1 v2 v3 v5 v6 σ = some (xr, σr) → RN G M_X12_leastOf 4 [some (.ref v0), some (.int v1), some (.int v2), some (.int v3), none, some (.int v5), some (.int v6)] [] σ (.inl (some (.int xr))) σr := by
  intro n
  induction n with
  | zero =>
    intro v6 σ h
    exact none_el h
  | succ n ih =>
    intro v6 σ h
    rw [b_X12_leastOf_4] at h
    refine RN_iload (pc := 4) (i := 6) (by decide +kernel) rfl ?_
    refine RN_iload (pc := 6) (i := 5) (by decide +kernel) rfl ?_
    refine RN_icmp_gt (pc := 8) (off := 24) (tgt := 32) (by decide +kernel) (by decide) (fun c6 => ?_) (fun c6 => ?_)
    · replace h := it_t c6 h
      refine RN_ldcw (pc := 32) (idx := 353) (v := 9999999) (by decide +kernel) kc_RX12_353 ?_
      obtain ⟨rfl, rfl⟩ := some_el2 h
      exact RN_ireturn (by decide +kernel) rfl
    · replace h := it_f c6 h
      refine RN_aload_n (pc := 11) (k := 0) (by decide +kernel) rfl rfl ?_
      refine RN_iload_n (pc := 12) (k := 1) (by decide +kernel) rfl rfl ?_
      refine RN_iload_n (pc := 13) (k := 2) (by decide +kernel) rfl rfl ?_
      refine RN_iload_n (pc := 14) (k := 3) (by decide +kernel) rfl rfl ?_
      refine RN_iload (pc := 15) (i := 6) (by decide +kernel) rfl ?_
      obtain ⟨c7, h⟩ := ck_el h
      obtain ⟨x10, σ9, f8, h⟩ := bd_el h
      refine RN_callV (M := M_X12_leastOf) (pc := 17) (idx := 349) (as := [.int v1, .int v2, .int v3, .int v6]) (st := []) (t_X12_breaks f8) (by decide +kernel) lk_RX12_349 rfl ⟨by decide, fun q hq => by cases hq; rfl⟩ c7 (Nat.le_of_ble_eq_true rfl) ⟨Nat.le_of_ble_eq_true rfl, Nat.le_of_ble_eq_true rfl⟩ rfl ?_
      show RN G M_X12_leastOf 20 [some (.ref v0), some (.int v1), some (.int v2), some (.int v3), none, some (.int v5), some (.int v6)] [.int x10] σ9 _ _
      refine RN_if_eq (pc := 20) (off := 6) (tgt := 26) (by decide +kernel) (by decide) (fun c11 => ?_) (fun c11 => ?_)
      · replace h := it_t c11 h
        obtain ⟨x12, ex12, h⟩ := nm_el h
        refine RN_iinc (pc := 26) (i := 6) (n := 1) (v := x12) (ls2 := [some (.ref v0), some (.int v1), some (.int v2), some (.int v3), none, some (.int v5), some (.int x12)]) (by decide +kernel) rfl (by rw [ex12]; rfl) (by decide) rfl ?_
        refine RN_goto (pc := 29) (off := -25) (tgt := 4) (by decide +kernel) (by decide) ?_
        exact RN_weak (l := [some (.ref v0), some (.int v1), some (.int v2), some (.int v3), none, some (.int v5), some (.int x12)]) (And.intro rfl (And.intro rfl (And.intro rfl (And.intro rfl (And.intro rfl (And.intro rfl trivial)))))) (ih x12 σ9 h)
      · replace h := it_f c11 h
        refine RN_iload (pc := 23) (i := 6) (by decide +kernel) rfl ?_
        obtain ⟨rfl, rfl⟩ := some_el2 h
        exact RN_ireturn (by decide +kernel) rfl
def f_X12_leastOf (n : Nat) (v0 : Nat) (v1 : Int32) (v2 : Int32) (v3 : Int32) (v4 : Int32) (v5 : Int32) (σ : Sg) : Option (Int32 × Sg) :=
  b_X12_leastOf_4 n v0 v1 v2 v3 v5 v4 σ
set_option maxRecDepth 20000 in
theorem t_X12_leastOf {G : Gl} {xr : Int32} {σr : Sg} {n : Nat} {v0 : Nat} {v1 : Int32} {v2 : Int32} {v3 : Int32} {v4 : Int32} {v5 : Int32} {σ : Sg} (h : f_X12_leastOf n v0 v1 v2 v3 v4 v5 σ = some (xr, σr)) : MT G M_X12_leastOf [.ref v0, .int v1, .int v2, .int v3, .int v4, .int v5] σ (some (.int xr)) σr := by
  refine MT_of rfl rfl (Nat.le_of_ble_eq_true rfl) ?_
  show RN G M_X12_leastOf 0 [some (.ref v0), some (.int v1), some (.int v2), some (.int v3), some (.int v4), some (.int v5)] [] σ (.inl (some (.int xr))) σr
  unfold f_X12_leastOf at h
  refine RN_iload (pc := 0) (i := 4) (by decide +kernel) rfl ?_
  refine RN_istore (pc := 2) (i := 6) (ls2 := [some (.ref v0), some (.int v1), some (.int v2), some (.int v3), some (.int v4), some (.int v5), some (.int v4)]) (by decide +kernel) (by decide) rfl ?_
  exact RN_weak (l := [some (.ref v0), some (.int v1), some (.int v2), some (.int v3), none, some (.int v5), some (.int v4)]) (And.intro rfl (And.intro rfl (And.intro rfl (And.intro rfl (And.intro rfl (And.intro rfl trivial)))))) (tb_X12_leastOf_4 v0 v1 v2 v3 v5 n v4 σ h)
