def b_L_law_1762 (k23 : Int32 → Sg → Option (Int32 × Sg)) (n : Nat) (v0 : Nat) (v1 : Nat) (v2 : Nat) (v3 : Nat) (v4 : Int32) (σ : Sg) : Option (Int32 × Sg) :=
  nm (v4 + (6 : Int32)) fun x455 =>
  k23 x455 σ
set_option maxRecDepth 20000 in
theorem tb_L_law_1762 {G : Gl} {xr : Int32} {σr : Sg} (n : Nat) (v0 : Nat) (v1 : Nat) (v2 : Nat) (v3 : Nat) (v4 : Int32) (σ : Sg) (k23 : Int32 → Sg → Option (Int32 × Sg)) (hk23 : ∀ (c4 : Int32) (τ : Sg), k23 c4 τ = some (xr, σr) → RN G M_L_law 23 [some (.ref v0), some (.ref v1), some (.ref v2), some (.ref v3), some (.int c4)] [] τ (.inl (some (.int xr))) σr) (h : b_L_law_1762 k23 n v0 v1 v2 v3 v4 σ = some (xr, σr)) : RN G M_L_law 1762 [some (.ref v0), some (.ref v1), some (.ref v2), some (.ref v3), some (.int v4)] [] σ (.inl (some (.int xr))) σr := by
  unfold b_L_law_1762 at h
  obtain ⟨x455, ex455, h⟩ := nm_el h
  refine RN_iinc (pc := 1762) (i := 4) (n := 6) (v := x455) (ls2 := [some (.ref v0), some (.ref v1), some (.ref v2), some (.ref v3), some (.int x455)]) (by decide +kernel) rfl (by rw [ex455]; rfl) (by decide) rfl ?_
  refine RN_goto (pc := 1765) (off := -1742) (tgt := 23) (by decide +kernel) (by decide) ?_
  exact RN_weak (l := [some (.ref v0), some (.ref v1), some (.ref v2), some (.ref v3), some (.int x455)]) (And.intro rfl (And.intro rfl (And.intro rfl (And.intro rfl (And.intro rfl trivial))))) (hk23 x455 σ h)
def b_L_law_188 (k23 : Int32 → Sg → Option (Int32 × Sg)) (n : Nat) (v0 : Nat) (v1 : Nat) (v2 : Nat) (v3 : Nat) (v4 : Int32) (σ : Sg) : Option (Int32 × Sg) :=
  ck (okO σ v1 10) <|
  bd (f_X11_begin n v1 σ) fun x449 σ448 =>
  ck (okO σ448 v2 11) <|
  bd (f_X12_begin n v2 σ448) fun x453 σ452 =>
  if x449 = x453 then (
    b_L_law_1762 k23 n v0 v1 v2 v3 v4 σ452)
  else (
    some ((0 : Int32), σ452))
set_option maxRecDepth 20000 in
theorem tb_L_law_188 {G : Gl} {xr : Int32} {σr : Sg} (n : Nat) (v0 : Nat) (v1 : Nat) (v2 : Nat) (v3 : Nat) (v4 : Int32) (σ : Sg) (k23 : Int32 → Sg → Option (Int32 × Sg)) (hk23 : ∀ (c4 : Int32) (τ : Sg), k23 c4 τ = some (xr, σr) → RN G M_L_law 23 [some (.ref v0), some (.ref v1), some (.ref v2), some (.ref v3), some (.int c4)] [] τ (.inl (some (.int xr))) σr) (h : b_L_law_188 k23 n v0 v1 v2 v3 v4 σ = some (xr, σr)) : RN G M_L_law 188 [some (.ref v0), some (.ref v1), some (.ref v2), some (.ref v3), some (.int v4)] [] σ (.inl (some (.int xr))) σr := by
  unfold b_L_law_188 at h
  refine RN_aload_n (pc := 188) (k := 1) (by decide +kernel) rfl rfl ?_
  obtain ⟨c446, h⟩ := ck_el h
  obtain ⟨x449, σ448, f447, h⟩ := bd_el h
  refine RN_callV (M := M_L_law) (pc := 189) (idx := 45) (as := []) (st := []) (t_X11_begin f447) (by decide +kernel) lk_RL_45 rfl ⟨by decide, fun q hq => by cases hq; rfl⟩ c446 (Nat.le_of_ble_eq_true rfl) ⟨Nat.le_of_ble_eq_true rfl, Nat.le_of_ble_eq_true rfl⟩ rfl ?_
  show RN G M_L_law 192 [some (.ref v0), some (.ref v1), some (.ref v2), some (.ref v3), some (.int v4)] [.int x449] σ448 _ _
  refine RN_aload_n (pc := 192) (k := 2) (by decide +kernel) rfl rfl ?_
  obtain ⟨c450, h⟩ := ck_el h
  obtain ⟨x453, σ452, f451, h⟩ := bd_el h
  refine RN_callV (M := M_L_law) (pc := 193) (idx := 49) (as := []) (st := [.int x449]) (t_X12_begin f451) (by decide +kernel) lk_RL_49 rfl ⟨by decide, fun q hq => by cases hq; rfl⟩ c450 (Nat.le_of_ble_eq_true rfl) ⟨Nat.le_of_ble_eq_true rfl, Nat.le_of_ble_eq_true rfl⟩ rfl ?_
  show RN G M_L_law 196 [some (.ref v0), some (.ref v1), some (.ref v2), some (.ref v3), some (.int v4)] [.int x453, .int x449] σ452 _ _
  refine RN_icmp_eq (pc := 196) (off := 1566) (tgt := 1762) (by decide +kernel) (by decide) (fun c454 => ?_) (fun c454 => ?_)
  · replace h := it_t c454 h
    exact RN_weak (l := [some (.ref v0), some (.ref v1), some (.ref v2), some (.ref v3), some (.int v4)]) (And.intro rfl (And.intro rfl (And.intro rfl (And.intro rfl (And.intro rfl trivial))))) (tb_L_law_1762 n v0 v1 v2 v3 v4 σ452 k23 hk23 h)
  · replace h := it_f c454 h
    refine RN_iconst (pc := 199) (n := 0) (v := 0) (by decide +kernel) (by decide) ?_
    obtain ⟨rfl, rfl⟩ := some_el2 h
    exact RN_zreturn (by decide +kernel) rfl (Or.inl rfl)
def b_L_law_201 (k23 : Int32 → Sg → Option (Int32 × Sg)) (n : Nat) (v0 : Nat) (v1 : Nat) (v2 : Nat) (v3 : Nat) (v4 : Int32) (σ : Sg) : Option (Int32 × Sg) :=
  ck (okA σ v0 13 (v4 + (1 : Int32))) <|
  ck (okA σ v0 13 (v4 + (2 : Int32))) <|
  ck (okA σ v0 13 (v4 + (3 : Int32))) <|
  ck (okO σ v1 10) <|
  bd (f_X11_rate v1 (gI σ v0 (v4 + (1 : Int32)).toNatClampNeg) (gI σ v0 (v4 + (2 : Int32)).toNatClampNeg) (gI σ v0 (v4 + (3 : Int32)).toNatClampNeg) σ) fun x463 σ462 =>
  ck (okA σ462 v0 13 (v4 + (1 : Int32))) <|
  ck (okA σ462 v0 13 (v4 + (2 : Int32))) <|
  ck (okA σ462 v0 13 (v4 + (3 : Int32))) <|
  ck (okO σ462 v2 11) <|
  bd (f_X12_rate v2 (gI σ462 v0 (v4 + (1 : Int32)).toNatClampNeg) (gI σ462 v0 (v4 + (2 : Int32)).toNatClampNeg) (gI σ462 v0 (v4 + (3 : Int32)).toNatClampNeg) σ462) fun x470 σ469 =>
  if x463 = x470 then (
    b_L_law_1762 k23 n v0 v1 v2 v3 v4 σ469)
  else (
    some ((0 : Int32), σ469))
set_option maxRecDepth 20000 in
theorem tb_L_law_201 {G : Gl} {xr : Int32} {σr : Sg} (n : Nat) (v0 : Nat) (v1 : Nat) (v2 : Nat) (v3 : Nat) (v4 : Int32) (σ : Sg) (k23 : Int32 → Sg → Option (Int32 × Sg)) (hk23 : ∀ (c4 : Int32) (τ : Sg), k23 c4 τ = some (xr, σr) → RN G M_L_law 23 [some (.ref v0), some (.ref v1), some (.ref v2), some (.ref v3), some (.int c4)] [] τ (.inl (some (.int xr))) σr) (h : b_L_law_201 k23 n v0 v1 v2 v3 v4 σ = some (xr, σr)) : RN G M_L_law 201 [some (.ref v0), some (.ref v1), some (.ref v2), some (.ref v3), some (.int v4)] [] σ (.inl (some (.int xr))) σr := by
  unfold b_L_law_201 at h
  refine RN_aload_n (pc := 201) (k := 1) (by decide +kernel) rfl rfl ?_
  refine RN_aload_n (pc := 202) (k := 0) (by decide +kernel) rfl rfl ?_
  refine RN_iload (pc := 203) (i := 4) (by decide +kernel) rfl ?_
  refine RN_iconst (pc := 205) (n := 1) (v := 1) (by decide +kernel) (by decide) ?_
  refine RN_iadd (pc := 206) (by decide +kernel) ?_
  obtain ⟨c457, h⟩ := ck_el h
  refine RN_iald (pc := 207) (by decide +kernel) c457 ?_
  refine RN_aload_n (pc := 208) (k := 0) (by decide +kernel) rfl rfl ?_
  refine RN_iload (pc := 209) (i := 4) (by decide +kernel) rfl ?_
  refine RN_iconst (pc := 211) (n := 2) (v := 2) (by decide +kernel) (by decide) ?_
  refine RN_iadd (pc := 212) (by decide +kernel) ?_
  obtain ⟨c458, h⟩ := ck_el h
  refine RN_iald (pc := 213) (by decide +kernel) c458 ?_
  refine RN_aload_n (pc := 214) (k := 0) (by decide +kernel) rfl rfl ?_
  refine RN_iload (pc := 215) (i := 4) (by decide +kernel) rfl ?_
  refine RN_iconst (pc := 217) (n := 3) (v := 3) (by decide +kernel) (by decide) ?_
  refine RN_iadd (pc := 218) (by decide +kernel) ?_
  obtain ⟨c459, h⟩ := ck_el h
  refine RN_iald (pc := 219) (by decide +kernel) c459 ?_
  obtain ⟨c460, h⟩ := ck_el h
  obtain ⟨x463, σ462, f461, h⟩ := bd_el h
  refine RN_callV (M := M_L_law) (pc := 220) (idx := 50) (as := [.int (gI σ v0 (v4 + (1 : Int32)).toNatClampNeg), .int (gI σ v0 (v4 + (2 : Int32)).toNatClampNeg), .int (gI σ v0 (v4 + (3 : Int32)).toNatClampNeg)]) (st := []) (t_X11_rate f461) (by decide +kernel) lk_RL_50 rfl ⟨by decide, fun q hq => by cases hq; rfl⟩ c460 (Nat.le_of_ble_eq_true rfl) ⟨Nat.le_of_ble_eq_true rfl, Nat.le_of_ble_eq_true rfl⟩ rfl ?_
  show RN G M_L_law 223 [some (.ref v0), some (.ref v1), some (.ref v2), some (.ref v3), some (.int v4)] [.int x463] σ462 _ _
  refine RN_aload_n (pc := 223) (k := 2) (by decide +kernel) rfl rfl ?_
  refine RN_aload_n (pc := 224) (k := 0) (by decide +kernel) rfl rfl ?_
  refine RN_iload (pc := 225) (i := 4) (by decide +kernel) rfl ?_
  refine RN_iconst (pc := 227) (n := 1) (v := 1) (by decide +kernel) (by decide) ?_
  refine RN_iadd (pc := 228) (by decide +kernel) ?_
  obtain ⟨c464, h⟩ := ck_el h
  refine RN_iald (pc := 229) (by decide +kernel) c464 ?_
  refine RN_aload_n (pc := 230) (k := 0) (by decide +kernel) rfl rfl ?_
  refine RN_iload (pc := 231) (i := 4) (by decide +kernel) rfl ?_
  refine RN_iconst (pc := 233) (n := 2) (v := 2) (by decide +kernel) (by decide) ?_
  refine RN_iadd (pc := 234) (by decide +kernel) ?_
  obtain ⟨c465, h⟩ := ck_el h
  refine RN_iald (pc := 235) (by decide +kernel) c465 ?_
  refine RN_aload_n (pc := 236) (k := 0) (by decide +kernel) rfl rfl ?_
  refine RN_iload (pc := 237) (i := 4) (by decide +kernel) rfl ?_
  refine RN_iconst (pc := 239) (n := 3) (v := 3) (by decide +kernel) (by decide) ?_
  refine RN_iadd (pc := 240) (by decide +kernel) ?_
  obtain ⟨c466, h⟩ := ck_el h
  refine RN_iald (pc := 241) (by decide +kernel) c466 ?_
  obtain ⟨c467, h⟩ := ck_el h
  obtain ⟨x470, σ469, f468, h⟩ := bd_el h
  refine RN_callV (M := M_L_law) (pc := 242) (idx := 54) (as := [.int (gI σ462 v0 (v4 + (1 : Int32)).toNatClampNeg), .int (gI σ462 v0 (v4 + (2 : Int32)).toNatClampNeg), .int (gI σ462 v0 (v4 + (3 : Int32)).toNatClampNeg)]) (st := [.int x463]) (t_X12_rate f468) (by decide +kernel) lk_RL_54 rfl ⟨by decide, fun q hq => by cases hq; rfl⟩ c467 (Nat.le_of_ble_eq_true rfl) ⟨Nat.le_of_ble_eq_true rfl, Nat.le_of_ble_eq_true rfl⟩ rfl ?_
  show RN G M_L_law 245 [some (.ref v0), some (.ref v1), some (.ref v2), some (.ref v3), some (.int v4)] [.int x470, .int x463] σ469 _ _
  refine RN_icmp_eq (pc := 245) (off := 1517) (tgt := 1762) (by decide +kernel) (by decide) (fun c471 => ?_) (fun c471 => ?_)
  · replace h := it_t c471 h
    exact RN_weak (l := [some (.ref v0), some (.ref v1), some (.ref v2), some (.ref v3), some (.int v4)]) (And.intro rfl (And.intro rfl (And.intro rfl (And.intro rfl (And.intro rfl trivial))))) (tb_L_law_1762 n v0 v1 v2 v3 v4 σ469 k23 hk23 h)
  · replace h := it_f c471 h
    refine RN_iconst (pc := 248) (n := 0) (v := 0) (by decide +kernel) (by decide) ?_
    obtain ⟨rfl, rfl⟩ := some_el2 h
    exact RN_zreturn (by decide +kernel) rfl (Or.inl rfl)
def b_L_law_250 (k23 : Int32 → Sg → Option (Int32 × Sg)) (n : Nat) (v0 : Nat) (v1 : Nat) (v2 : Nat) (v3 : Nat) (v4 : Int32) (σ : Sg) : Option (Int32 × Sg) :=
  ck (okA σ v0 13 (v4 + (1 : Int32))) <|
  ck (okO σ v1 10) <|
  bd (f_X11_line v1 (gI σ v0 (v4 + (1 : Int32)).toNatClampNeg) σ) fun x477 σ476 =>
  ck (okA σ476 v0 13 (v4 + (1 : Int32))) <|
  ck (okO σ476 v2 11) <|
  bd (f_X12_line v2 (gI σ476 v0 (v4 + (1 : Int32)).toNatClampNeg) σ476) fun x482 σ481 =>
  if x477 = x482 then (
    b_L_law_1762 k23 n v0 v1 v2 v3 v4 σ481)
  else (
    some ((0 : Int32), σ481))
set_option maxRecDepth 20000 in
theorem tb_L_law_250 {G : Gl} {xr : Int32} {σr : Sg} (n : Nat) (v0 : Nat) (v1 : Nat) (v2 : Nat) (v3 : Nat) (v4 : Int32) (σ : Sg) (k23 : Int32 → Sg → Option (Int32 × Sg)) (hk23 : ∀ (c4 : Int32) (τ : Sg), k23 c4 τ = some (xr, σr) → RN G M_L_law 23 [some (.ref v0), some (.ref v1), some (.ref v2), some (.ref v3), some (.int c4)] [] τ (.inl (some (.int xr))) σr) (h : b_L_law_250 k23 n v0 v1 v2 v3 v4 σ = some (xr, σr)) : RN G M_L_law 250 [some (.ref v0), some (.ref v1), some (.ref v2), some (.ref v3), some (.int v4)] [] σ (.inl (some (.int xr))) σr := by
  unfold b_L_law_250 at h
  refine RN_aload_n (pc := 250) (k := 1) (by decide +kernel) rfl rfl ?_
  refine RN_aload_n (pc := 251) (k := 0) (by decide +kernel) rfl rfl ?_
  refine RN_iload (pc := 252) (i := 4) (by decide +kernel) rfl ?_
  refine RN_iconst (pc := 254) (n := 1) (v := 1) (by decide +kernel) (by decide) ?_
  refine RN_iadd (pc := 255) (by decide +kernel) ?_
  obtain ⟨c473, h⟩ := ck_el h
  refine RN_iald (pc := 256) (by decide +kernel) c473 ?_
  obtain ⟨c474, h⟩ := ck_el h
  obtain ⟨x477, σ476, f475, h⟩ := bd_el h
  refine RN_callV (M := M_L_law) (pc := 257) (idx := 55) (as := [.int (gI σ v0 (v4 + (1 : Int32)).toNatClampNeg)]) (st := []) (t_X11_line f475) (by decide +kernel) lk_RL_55 rfl ⟨by decide, fun q hq => by cases hq; rfl⟩ c474 (Nat.le_of_ble_eq_true rfl) ⟨Nat.le_of_ble_eq_true rfl, Nat.le_of_ble_eq_true rfl⟩ rfl ?_
  show RN G M_L_law 260 [some (.ref v0), some (.ref v1), some (.ref v2), some (.ref v3), some (.int v4)] [.int x477] σ476 _ _
  refine RN_aload_n (pc := 260) (k := 2) (by decide +kernel) rfl rfl ?_
  refine RN_aload_n (pc := 261) (k := 0) (by decide +kernel) rfl rfl ?_
  refine RN_iload (pc := 262) (i := 4) (by decide +kernel) rfl ?_
  refine RN_iconst (pc := 264) (n := 1) (v := 1) (by decide +kernel) (by decide) ?_
  refine RN_iadd (pc := 265) (by decide +kernel) ?_
  obtain ⟨c478, h⟩ := ck_el h
  refine RN_iald (pc := 266) (by decide +kernel) c478 ?_
  obtain ⟨c479, h⟩ := ck_el h
  obtain ⟨x482, σ481, f480, h⟩ := bd_el h
  refine RN_callV (M := M_L_law) (pc := 267) (idx := 59) (as := [.int (gI σ476 v0 (v4 + (1 : Int32)).toNatClampNeg)]) (st := [.int x477]) (t_X12_line f480) (by decide +kernel) lk_RL_59 rfl ⟨by decide, fun q hq => by cases hq; rfl⟩ c479 (Nat.le_of_ble_eq_true rfl) ⟨Nat.le_of_ble_eq_true rfl, Nat.le_of_ble_eq_true rfl⟩ rfl ?_
  show RN G M_L_law 270 [some (.ref v0), some (.ref v1), some (.ref v2), some (.ref v3), some (.int v4)] [.int x482, .int x477] σ481 _ _
  refine RN_icmp_eq (pc := 270) (off := 1492) (tgt := 1762) (by decide +kernel) (by decide) (fun c483 => ?_) (fun c483 => ?_)
  · replace h := it_t c483 h
    exact RN_weak (l := [some (.ref v0), some (.ref v1), some (.ref v2), some (.ref v3), some (.int v4)]) (And.intro rfl (And.intro rfl (And.intro rfl (And.intro rfl (And.intro rfl trivial))))) (tb_L_law_1762 n v0 v1 v2 v3 v4 σ481 k23 hk23 h)
  · replace h := it_f c483 h
    refine RN_iconst (pc := 273) (n := 0) (v := 0) (by decide +kernel) (by decide) ?_
    obtain ⟨rfl, rfl⟩ := some_el2 h
    exact RN_zreturn (by decide +kernel) rfl (Or.inl rfl)
def b_L_law_275 (k23 : Int32 → Sg → Option (Int32 × Sg)) (n : Nat) (v0 : Nat) (v1 : Nat) (v2 : Nat) (v3 : Nat) (v4 : Int32) (σ : Sg) : Option (Int32 × Sg) :=
  ck (okO σ v1 10) <|
  bd (f_X11_bare v1 σ) fun x488 σ487 =>
  ck (okO σ487 v2 11) <|
  bd (f_X12_bare v2 σ487) fun x492 σ491 =>
  if x488 = x492 then (
    b_L_law_1762 k23 n v0 v1 v2 v3 v4 σ491)
  else (
    some ((0 : Int32), σ491))
set_option maxRecDepth 20000 in
theorem tb_L_law_275 {G : Gl} {xr : Int32} {σr : Sg} (n : Nat) (v0 : Nat) (v1 : Nat) (v2 : Nat) (v3 : Nat) (v4 : Int32) (σ : Sg) (k23 : Int32 → Sg → Option (Int32 × Sg)) (hk23 : ∀ (c4 : Int32) (τ : Sg), k23 c4 τ = some (xr, σr) → RN G M_L_law 23 [some (.ref v0), some (.ref v1), some (.ref v2), some (.ref v3), some (.int c4)] [] τ (.inl (some (.int xr))) σr) (h : b_L_law_275 k23 n v0 v1 v2 v3 v4 σ = some (xr, σr)) : RN G M_L_law 275 [some (.ref v0), some (.ref v1), some (.ref v2), some (.ref v3), some (.int v4)] [] σ (.inl (some (.int xr))) σr := by
  unfold b_L_law_275 at h
  refine RN_aload_n (pc := 275) (k := 1) (by decide +kernel) rfl rfl ?_
  obtain ⟨c485, h⟩ := ck_el h
  obtain ⟨x488, σ487, f486, h⟩ := bd_el h
  refine RN_callV (M := M_L_law) (pc := 276) (idx := 60) (as := []) (st := []) (t_X11_bare f486) (by decide +kernel) lk_RL_60 rfl ⟨by decide, fun q hq => by cases hq; rfl⟩ c485 (Nat.le_of_ble_eq_true rfl) ⟨Nat.le_of_ble_eq_true rfl, Nat.le_of_ble_eq_true rfl⟩ rfl ?_
  show RN G M_L_law 279 [some (.ref v0), some (.ref v1), some (.ref v2), some (.ref v3), some (.int v4)] [.int x488] σ487 _ _
  refine RN_aload_n (pc := 279) (k := 2) (by decide +kernel) rfl rfl ?_
  obtain ⟨c489, h⟩ := ck_el h
  obtain ⟨x492, σ491, f490, h⟩ := bd_el h
  refine RN_callV (M := M_L_law) (pc := 280) (idx := 63) (as := []) (st := [.int x488]) (t_X12_bare f490) (by decide +kernel) lk_RL_63 rfl ⟨by decide, fun q hq => by cases hq; rfl⟩ c489 (Nat.le_of_ble_eq_true rfl) ⟨Nat.le_of_ble_eq_true rfl, Nat.le_of_ble_eq_true rfl⟩ rfl ?_
  show RN G M_L_law 283 [some (.ref v0), some (.ref v1), some (.ref v2), some (.ref v3), some (.int v4)] [.int x492, .int x488] σ491 _ _
  refine RN_icmp_eq (pc := 283) (off := 1479) (tgt := 1762) (by decide +kernel) (by decide) (fun c493 => ?_) (fun c493 => ?_)
  · replace h := it_t c493 h
    exact RN_weak (l := [some (.ref v0), some (.ref v1), some (.ref v2), some (.ref v3), some (.int v4)]) (And.intro rfl (And.intro rfl (And.intro rfl (And.intro rfl (And.intro rfl trivial))))) (tb_L_law_1762 n v0 v1 v2 v3 v4 σ491 k23 hk23 h)
  · replace h := it_f c493 h
    refine RN_iconst (pc := 286) (n := 0) (v := 0) (by decide +kernel) (by decide) ?_
    obtain ⟨rfl, rfl⟩ := some_el2 h
    exact RN_zreturn (by decide +kernel) rfl (Or.inl rfl)
def b_L_law_288 (k23 : Int32 → Sg → Option (Int32 × Sg)) (n : Nat) (v0 : Nat) (v1 : Nat) (v2 : Nat) (v3 : Nat) (v4 : Int32) (σ : Sg) : Option (Int32 × Sg) :=
  ck (okA σ v0 13 (v4 + (1 : Int32))) <|
  ck (okA σ v0 13 (v4 + (2 : Int32))) <|
  ck (okO σ v1 10) <|
  bd (f_X11_weight v1 (gI σ v0 (v4 + (1 : Int32)).toNatClampNeg) (gI σ v0 (v4 + (2 : Int32)).toNatClampNeg) σ) fun x500 σ499 =>
  ck (okA σ499 v0 13 (v4 + (1 : Int32))) <|
  ck (okA σ499 v0 13 (v4 + (2 : Int32))) <|
  ck (okO σ499 v2 11) <|
  bd (f_X12_weight v2 (gI σ499 v0 (v4 + (1 : Int32)).toNatClampNeg) (gI σ499 v0 (v4 + (2 : Int32)).toNatClampNeg) σ499) fun x506 σ505 =>
  if x500 = x506 then (
    b_L_law_1762 k23 n v0 v1 v2 v3 v4 σ505)
  else (
    some ((0 : Int32), σ505))
set_option maxRecDepth 20000 in
theorem tb_L_law_288 {G : Gl} {xr : Int32} {σr : Sg} (n : Nat) (v0 : Nat) (v1 : Nat) (v2 : Nat) (v3 : Nat) (v4 : Int32) (σ : Sg) (k23 : Int32 → Sg → Option (Int32 × Sg)) (hk23 : ∀ (c4 : Int32) (τ : Sg), k23 c4 τ = some (xr, σr) → RN G M_L_law 23 [some (.ref v0), some (.ref v1), some (.ref v2), some (.ref v3), some (.int c4)] [] τ (.inl (some (.int xr))) σr) (h : b_L_law_288 k23 n v0 v1 v2 v3 v4 σ = some (xr, σr)) : RN G M_L_law 288 [some (.ref v0), some (.ref v1), some (.ref v2), some (.ref v3), some (.int v4)] [] σ (.inl (some (.int xr))) σr := by
  unfold b_L_law_288 at h
  refine RN_aload_n (pc := 288) (k := 1) (by decide +kernel) rfl rfl ?_
  refine RN_aload_n (pc := 289) (k := 0) (by decide +kernel) rfl rfl ?_
  refine RN_iload (pc := 290) (i := 4) (by decide +kernel) rfl ?_
  refine RN_iconst (pc := 292) (n := 1) (v := 1) (by decide +kernel) (by decide) ?_
  refine RN_iadd (pc := 293) (by decide +kernel) ?_
  obtain ⟨c495, h⟩ := ck_el h
  refine RN_iald (pc := 294) (by decide +kernel) c495 ?_
  refine RN_aload_n (pc := 295) (k := 0) (by decide +kernel) rfl rfl ?_
  refine RN_iload (pc := 296) (i := 4) (by decide +kernel) rfl ?_
  refine RN_iconst (pc := 298) (n := 2) (v := 2) (by decide +kernel) (by decide) ?_
  refine RN_iadd (pc := 299) (by decide +kernel) ?_
  obtain ⟨c496, h⟩ := ck_el h
  refine RN_iald (pc := 300) (by decide +kernel) c496 ?_
  obtain ⟨c497, h⟩ := ck_el h
  obtain ⟨x500, σ499, f498, h⟩ := bd_el h
  refine RN_callV (M := M_L_law) (pc := 301) (idx := 64) (as := [.int (gI σ v0 (v4 + (1 : Int32)).toNatClampNeg), .int (gI σ v0 (v4 + (2 : Int32)).toNatClampNeg)]) (st := []) (t_X11_weight f498) (by decide +kernel) lk_RL_64 rfl ⟨by decide, fun q hq => by cases hq; rfl⟩ c497 (Nat.le_of_ble_eq_true rfl) ⟨Nat.le_of_ble_eq_true rfl, Nat.le_of_ble_eq_true rfl⟩ rfl ?_
  show RN G M_L_law 304 [some (.ref v0), some (.ref v1), some (.ref v2), some (.ref v3), some (.int v4)] [.int x500] σ499 _ _
  refine RN_aload_n (pc := 304) (k := 2) (by decide +kernel) rfl rfl ?_
  refine RN_aload_n (pc := 305) (k := 0) (by decide +kernel) rfl rfl ?_
  refine RN_iload (pc := 306) (i := 4) (by decide +kernel) rfl ?_
  refine RN_iconst (pc := 308) (n := 1) (v := 1) (by decide +kernel) (by decide) ?_
  refine RN_iadd (pc := 309) (by decide +kernel) ?_
  obtain ⟨c501, h⟩ := ck_el h
  refine RN_iald (pc := 310) (by decide +kernel) c501 ?_
  refine RN_aload_n (pc := 311) (k := 0) (by decide +kernel) rfl rfl ?_
  refine RN_iload (pc := 312) (i := 4) (by decide +kernel) rfl ?_
  refine RN_iconst (pc := 314) (n := 2) (v := 2) (by decide +kernel) (by decide) ?_
  refine RN_iadd (pc := 315) (by decide +kernel) ?_
  obtain ⟨c502, h⟩ := ck_el h
  refine RN_iald (pc := 316) (by decide +kernel) c502 ?_
  obtain ⟨c503, h⟩ := ck_el h
  obtain ⟨x506, σ505, f504, h⟩ := bd_el h
  refine RN_callV (M := M_L_law) (pc := 317) (idx := 68) (as := [.int (gI σ499 v0 (v4 + (1 : Int32)).toNatClampNeg), .int (gI σ499 v0 (v4 + (2 : Int32)).toNatClampNeg)]) (st := [.int x500]) (t_X12_weight f504) (by decide +kernel) lk_RL_68 rfl ⟨by decide, fun q hq => by cases hq; rfl⟩ c503 (Nat.le_of_ble_eq_true rfl) ⟨Nat.le_of_ble_eq_true rfl, Nat.le_of_ble_eq_true rfl⟩ rfl ?_
  show RN G M_L_law 320 [some (.ref v0), some (.ref v1), some (.ref v2), some (.ref v3), some (.int v4)] [.int x506, .int x500] σ505 _ _
  refine RN_icmp_eq (pc := 320) (off := 1442) (tgt := 1762) (by decide +kernel) (by decide) (fun c507 => ?_) (fun c507 => ?_)
  · replace h := it_t c507 h
    exact RN_weak (l := [some (.ref v0), some (.ref v1), some (.ref v2), some (.ref v3), some (.int v4)]) (And.intro rfl (And.intro rfl (And.intro rfl (And.intro rfl (And.intro rfl trivial))))) (tb_L_law_1762 n v0 v1 v2 v3 v4 σ505 k23 hk23 h)
  · replace h := it_f c507 h
    refine RN_iconst (pc := 323) (n := 0) (v := 0) (by decide +kernel) (by decide) ?_
    obtain ⟨rfl, rfl⟩ := some_el2 h
    exact RN_zreturn (by decide +kernel) rfl (Or.inl rfl)
def b_L_law_325 (k23 : Int32 → Sg → Option (Int32 × Sg)) (n : Nat) (v0 : Nat) (v1 : Nat) (v2 : Nat) (v3 : Nat) (v4 : Int32) (σ : Sg) : Option (Int32 × Sg) :=
  ck (okO σ v1 10) <|
  bd (f_X11_program v1 σ) fun x512 σ511 =>
  ck (okO σ511 v2 11) <|
  bd (f_X12_program v2 σ511) fun x516 σ515 =>
  if x512 = x516 then (
    b_L_law_1762 k23 n v0 v1 v2 v3 v4 σ515)
  else (
    some ((0 : Int32), σ515))
set_option maxRecDepth 20000 in
theorem tb_L_law_325 {G : Gl} {xr : Int32} {σr : Sg} (n : Nat) (v0 : Nat) (v1 : Nat) (v2 : Nat) (v3 : Nat) (v4 : Int32) (σ : Sg) (k23 : Int32 → Sg → Option (Int32 × Sg)) (hk23 : ∀ (c4 : Int32) (τ : Sg), k23 c4 τ = some (xr, σr) → RN G M_L_law 23 [some (.ref v0), some (.ref v1), some (.ref v2), some (.ref v3), some (.int c4)] [] τ (.inl (some (.int xr))) σr) (h : b_L_law_325 k23 n v0 v1 v2 v3 v4 σ = some (xr, σr)) : RN G M_L_law 325 [some (.ref v0), some (.ref v1), some (.ref v2), some (.ref v3), some (.int v4)] [] σ (.inl (some (.int xr))) σr := by
  unfold b_L_law_325 at h
  refine RN_aload_n (pc := 325) (k := 1) (by decide +kernel) rfl rfl ?_
  obtain ⟨c509, h⟩ := ck_el h
  obtain ⟨x512, σ511, f510, h⟩ := bd_el h
  refine RN_callV (M := M_L_law) (pc := 326) (idx := 69) (as := []) (st := []) (t_X11_program f510) (by decide +kernel) lk_RL_69 rfl ⟨by decide, fun q hq => by cases hq; rfl⟩ c509 (Nat.le_of_ble_eq_true rfl) ⟨Nat.le_of_ble_eq_true rfl, Nat.le_of_ble_eq_true rfl⟩ rfl ?_
  show RN G M_L_law 329 [some (.ref v0), some (.ref v1), some (.ref v2), some (.ref v3), some (.int v4)] [.int x512] σ511 _ _
  refine RN_aload_n (pc := 329) (k := 2) (by decide +kernel) rfl rfl ?_
  obtain ⟨c513, h⟩ := ck_el h
  obtain ⟨x516, σ515, f514, h⟩ := bd_el h
  refine RN_callV (M := M_L_law) (pc := 330) (idx := 72) (as := []) (st := [.int x512]) (t_X12_program f514) (by decide +kernel) lk_RL_72 rfl ⟨by decide, fun q hq => by cases hq; rfl⟩ c513 (Nat.le_of_ble_eq_true rfl) ⟨Nat.le_of_ble_eq_true rfl, Nat.le_of_ble_eq_true rfl⟩ rfl ?_
  show RN G M_L_law 333 [some (.ref v0), some (.ref v1), some (.ref v2), some (.ref v3), some (.int v4)] [.int x516, .int x512] σ515 _ _
  refine RN_icmp_eq (pc := 333) (off := 1429) (tgt := 1762) (by decide +kernel) (by decide) (fun c517 => ?_) (fun c517 => ?_)
  · replace h := it_t c517 h
    exact RN_weak (l := [some (.ref v0), some (.ref v1), some (.ref v2), some (.ref v3), some (.int v4)]) (And.intro rfl (And.intro rfl (And.intro rfl (And.intro rfl (And.intro rfl trivial))))) (tb_L_law_1762 n v0 v1 v2 v3 v4 σ515 k23 hk23 h)
  · replace h := it_f c517 h
    refine RN_iconst (pc := 336) (n := 0) (v := 0) (by decide +kernel) (by decide) ?_
    obtain ⟨rfl, rfl⟩ := some_el2 h
    exact RN_zreturn (by decide +kernel) rfl (Or.inl rfl)
def b_L_law_338 (k23 : Int32 → Sg → Option (Int32 × Sg)) (n : Nat) (v0 : Nat) (v1 : Nat) (v2 : Nat) (v3 : Nat) (v4 : Int32) (σ : Sg) : Option (Int32 × Sg) :=
  ck (okA σ v0 13 (v4 + (1 : Int32))) <|
  ck (okA σ v0 13 (v4 + (2 : Int32))) <|
  ck (okA σ v0 13 (v4 + (3 : Int32))) <|
  ck (okA σ v0 13 (v4 + (4 : Int32))) <|
  ck (okA σ v0 13 (v4 + (5 : Int32))) <|
  ck (okO σ v1 10) <|
  bd (f_X11_act v1 (gI σ v0 (v4 + (1 : Int32)).toNatClampNeg) (gI σ v0 (v4 + (2 : Int32)).toNatClampNeg) (gI σ v0 (v4 + (3 : Int32)).toNatClampNeg) (gI σ v0 (v4 + (4 : Int32)).toNatClampNeg) (gI σ v0 (v4 + (5 : Int32)).toNatClampNeg) σ) fun x527 σ526 =>
  ck (okA σ526 v0 13 (v4 + (1 : Int32))) <|
  ck (okA σ526 v0 13 (v4 + (2 : Int32))) <|
  ck (okA σ526 v0 13 (v4 + (3 : Int32))) <|
  ck (okA σ526 v0 13 (v4 + (4 : Int32))) <|
  ck (okA σ526 v0 13 (v4 + (5 : Int32))) <|
  ck (okO σ526 v2 11) <|
  bd (f_X12_act v2 (gI σ526 v0 (v4 + (1 : Int32)).toNatClampNeg) (gI σ526 v0 (v4 + (2 : Int32)).toNatClampNeg) (gI σ526 v0 (v4 + (3 : Int32)).toNatClampNeg) (gI σ526 v0 (v4 + (4 : Int32)).toNatClampNeg) (gI σ526 v0 (v4 + (5 : Int32)).toNatClampNeg) σ526) fun x536 σ535 =>
  if x527 = x536 then (
    b_L_law_1762 k23 n v0 v1 v2 v3 v4 σ535)
  else (
    some ((0 : Int32), σ535))
set_option maxRecDepth 20000 in
theorem tb_L_law_338 {G : Gl} {xr : Int32} {σr : Sg} (n : Nat) (v0 : Nat) (v1 : Nat) (v2 : Nat) (v3 : Nat) (v4 : Int32) (σ : Sg) (k23 : Int32 → Sg → Option (Int32 × Sg)) (hk23 : ∀ (c4 : Int32) (τ : Sg), k23 c4 τ = some (xr, σr) → RN G M_L_law 23 [some (.ref v0), some (.ref v1), some (.ref v2), some (.ref v3), some (.int c4)] [] τ (.inl (some (.int xr))) σr) (h : b_L_law_338 k23 n v0 v1 v2 v3 v4 σ = some (xr, σr)) : RN G M_L_law 338 [some (.ref v0), some (.ref v1), some (.ref v2), some (.ref v3), some (.int v4)] [] σ (.inl (some (.int xr))) σr := by
  unfold b_L_law_338 at h
  refine RN_aload_n (pc := 338) (k := 1) (by decide +kernel) rfl rfl ?_
  refine RN_aload_n (pc := 339) (k := 0) (by decide +kernel) rfl rfl ?_
  refine RN_iload (pc := 340) (i := 4) (by decide +kernel) rfl ?_
  refine RN_iconst (pc := 342) (n := 1) (v := 1) (by decide +kernel) (by decide) ?_
  refine RN_iadd (pc := 343) (by decide +kernel) ?_
  obtain ⟨c519, h⟩ := ck_el h
  refine RN_iald (pc := 344) (by decide +kernel) c519 ?_
  refine RN_aload_n (pc := 345) (k := 0) (by decide +kernel) rfl rfl ?_
  refine RN_iload (pc := 346) (i := 4) (by decide +kernel) rfl ?_
  refine RN_iconst (pc := 348) (n := 2) (v := 2) (by decide +kernel) (by decide) ?_
  refine RN_iadd (pc := 349) (by decide +kernel) ?_
  obtain ⟨c520, h⟩ := ck_el h
  refine RN_iald (pc := 350) (by decide +kernel) c520 ?_
  refine RN_aload_n (pc := 351) (k := 0) (by decide +kernel) rfl rfl ?_
  refine RN_iload (pc := 352) (i := 4) (by decide +kernel) rfl ?_
  refine RN_iconst (pc := 354) (n := 3) (v := 3) (by decide +kernel) (by decide) ?_
  refine RN_iadd (pc := 355) (by decide +kernel) ?_
  obtain ⟨c521, h⟩ := ck_el h
  refine RN_iald (pc := 356) (by decide +kernel) c521 ?_
  refine RN_aload_n (pc := 357) (k := 0) (by decide +kernel) rfl rfl ?_
  refine RN_iload (pc := 358) (i := 4) (by decide +kernel) rfl ?_
  refine RN_iconst (pc := 360) (n := 4) (v := 4) (by decide +kernel) (by decide) ?_
  refine RN_iadd (pc := 361) (by decide +kernel) ?_
  obtain ⟨c522, h⟩ := ck_el h
  refine RN_iald (pc := 362) (by decide +kernel) c522 ?_
  refine RN_aload_n (pc := 363) (k := 0) (by decide +kernel) rfl rfl ?_
  refine RN_iload (pc := 364) (i := 4) (by decide +kernel) rfl ?_
  refine RN_iconst (pc := 366) (n := 5) (v := 5) (by decide +kernel) (by decide) ?_
  refine RN_iadd (pc := 367) (by decide +kernel) ?_
  obtain ⟨c523, h⟩ := ck_el h
  refine RN_iald (pc := 368) (by decide +kernel) c523 ?_
  obtain ⟨c524, h⟩ := ck_el h
  obtain ⟨x527, σ526, f525, h⟩ := bd_el h
  refine RN_callV (M := M_L_law) (pc := 369) (idx := 73) (as := [.int (gI σ v0 (v4 + (1 : Int32)).toNatClampNeg), .int (gI σ v0 (v4 + (2 : Int32)).toNatClampNeg), .int (gI σ v0 (v4 + (3 : Int32)).toNatClampNeg), .int (gI σ v0 (v4 + (4 : Int32)).toNatClampNeg), .int (gI σ v0 (v4 + (5 : Int32)).toNatClampNeg)]) (st := []) (t_X11_act f525) (by decide +kernel) lk_RL_73 rfl ⟨by decide, fun q hq => by cases hq; rfl⟩ c524 (Nat.le_of_ble_eq_true rfl) ⟨Nat.le_of_ble_eq_true rfl, Nat.le_of_ble_eq_true rfl⟩ rfl ?_
  show RN G M_L_law 372 [some (.ref v0), some (.ref v1), some (.ref v2), some (.ref v3), some (.int v4)] [.int x527] σ526 _ _
  refine RN_aload_n (pc := 372) (k := 2) (by decide +kernel) rfl rfl ?_
  refine RN_aload_n (pc := 373) (k := 0) (by decide +kernel) rfl rfl ?_
  refine RN_iload (pc := 374) (i := 4) (by decide +kernel) rfl ?_
  refine RN_iconst (pc := 376) (n := 1) (v := 1) (by decide +kernel) (by decide) ?_
  refine RN_iadd (pc := 377) (by decide +kernel) ?_
  obtain ⟨c528, h⟩ := ck_el h
  refine RN_iald (pc := 378) (by decide +kernel) c528 ?_
  refine RN_aload_n (pc := 379) (k := 0) (by decide +kernel) rfl rfl ?_
  refine RN_iload (pc := 380) (i := 4) (by decide +kernel) rfl ?_
  refine RN_iconst (pc := 382) (n := 2) (v := 2) (by decide +kernel) (by decide) ?_
  refine RN_iadd (pc := 383) (by decide +kernel) ?_
  obtain ⟨c529, h⟩ := ck_el h
  refine RN_iald (pc := 384) (by decide +kernel) c529 ?_
  refine RN_aload_n (pc := 385) (k := 0) (by decide +kernel) rfl rfl ?_
  refine RN_iload (pc := 386) (i := 4) (by decide +kernel) rfl ?_
  refine RN_iconst (pc := 388) (n := 3) (v := 3) (by decide +kernel) (by decide) ?_
  refine RN_iadd (pc := 389) (by decide +kernel) ?_
  obtain ⟨c530, h⟩ := ck_el h
  refine RN_iald (pc := 390) (by decide +kernel) c530 ?_
  refine RN_aload_n (pc := 391) (k := 0) (by decide +kernel) rfl rfl ?_
  refine RN_iload (pc := 392) (i := 4) (by decide +kernel) rfl ?_
  refine RN_iconst (pc := 394) (n := 4) (v := 4) (by decide +kernel) (by decide) ?_
  refine RN_iadd (pc := 395) (by decide +kernel) ?_
  obtain ⟨c531, h⟩ := ck_el h
  refine RN_iald (pc := 396) (by decide +kernel) c531 ?_
  refine RN_aload_n (pc := 397) (k := 0) (by decide +kernel) rfl rfl ?_
  refine RN_iload (pc := 398) (i := 4) (by decide +kernel) rfl ?_
  refine RN_iconst (pc := 400) (n := 5) (v := 5) (by decide +kernel) (by decide) ?_
  refine RN_iadd (pc := 401) (by decide +kernel) ?_
  obtain ⟨c532, h⟩ := ck_el h
  refine RN_iald (pc := 402) (by decide +kernel) c532 ?_
  obtain ⟨c533, h⟩ := ck_el h
  obtain ⟨x536, σ535, f534, h⟩ := bd_el h
  refine RN_callV (M := M_L_law) (pc := 403) (idx := 76) (as := [.int (gI σ526 v0 (v4 + (1 : Int32)).toNatClampNeg), .int (gI σ526 v0 (v4 + (2 : Int32)).toNatClampNeg), .int (gI σ526 v0 (v4 + (3 : Int32)).toNatClampNeg), .int (gI σ526 v0 (v4 + (4 : Int32)).toNatClampNeg), .int (gI σ526 v0 (v4 + (5 : Int32)).toNatClampNeg)]) (st := [.int x527]) (t_X12_act f534) (by decide +kernel) lk_RL_76 rfl ⟨by decide, fun q hq => by cases hq; rfl⟩ c533 (Nat.le_of_ble_eq_true rfl) ⟨Nat.le_of_ble_eq_true rfl, Nat.le_of_ble_eq_true rfl⟩ rfl ?_
  show RN G M_L_law 406 [some (.ref v0), some (.ref v1), some (.ref v2), some (.ref v3), some (.int v4)] [.int x536, .int x527] σ535 _ _
  refine RN_icmp_eq (pc := 406) (off := 1356) (tgt := 1762) (by decide +kernel) (by decide) (fun c537 => ?_) (fun c537 => ?_)
  · replace h := it_t c537 h
    exact RN_weak (l := [some (.ref v0), some (.ref v1), some (.ref v2), some (.ref v3), some (.int v4)]) (And.intro rfl (And.intro rfl (And.intro rfl (And.intro rfl (And.intro rfl trivial))))) (tb_L_law_1762 n v0 v1 v2 v3 v4 σ535 k23 hk23 h)
  · replace h := it_f c537 h
    refine RN_iconst (pc := 409) (n := 0) (v := 0) (by decide +kernel) (by decide) ?_
    obtain ⟨rfl, rfl⟩ := some_el2 h
    exact RN_zreturn (by decide +kernel) rfl (Or.inl rfl)
def b_L_law_411 (k23 : Int32 → Sg → Option (Int32 × Sg)) (n : Nat) (v0 : Nat) (v1 : Nat) (v2 : Nat) (v3 : Nat) (v4 : Int32) (σ : Sg) : Option (Int32 × Sg) :=
  ck (okA σ v0 13 (v4 + (1 : Int32))) <|
  ck (okA σ v0 13 (v4 + (2 : Int32))) <|
  ck (okA σ v0 13 (v4 + (3 : Int32))) <|
  ck (okA σ v0 13 (v4 + (4 : Int32))) <|
  ck (okO σ v1 10) <|
  bd (f_X11_set v1 (gI σ v0 (v4 + (1 : Int32)).toNatClampNeg) (gI σ v0 (v4 + (2 : Int32)).toNatClampNeg) (gI σ v0 (v4 + (3 : Int32)).toNatClampNeg) (gI σ v0 (v4 + (4 : Int32)).toNatClampNeg) σ) fun x546 σ545 =>
  ck (okA σ545 v0 13 (v4 + (1 : Int32))) <|
  ck (okA σ545 v0 13 (v4 + (2 : Int32))) <|
  ck (okA σ545 v0 13 (v4 + (3 : Int32))) <|
  ck (okA σ545 v0 13 (v4 + (4 : Int32))) <|
  ck (okO σ545 v2 11) <|
  bd (f_X12_set v2 (gI σ545 v0 (v4 + (1 : Int32)).toNatClampNeg) (gI σ545 v0 (v4 + (2 : Int32)).toNatClampNeg) (gI σ545 v0 (v4 + (3 : Int32)).toNatClampNeg) (gI σ545 v0 (v4 + (4 : Int32)).toNatClampNeg) σ545) fun x554 σ553 =>
  if x546 = x554 then (
    b_L_law_1762 k23 n v0 v1 v2 v3 v4 σ553)
  else (
    some ((0 : Int32), σ553))
set_option maxRecDepth 20000 in
theorem tb_L_law_411 {G : Gl} {xr : Int32} {σr : Sg} (n : Nat) (v0 : Nat) (v1 : Nat) (v2 : Nat) (v3 : Nat) (v4 : Int32) (σ : Sg) (k23 : Int32 → Sg → Option (Int32 × Sg)) (hk23 : ∀ (c4 : Int32) (τ : Sg), k23 c4 τ = some (xr, σr) → RN G M_L_law 23 [some (.ref v0), some (.ref v1), some (.ref v2), some (.ref v3), some (.int c4)] [] τ (.inl (some (.int xr))) σr) (h : b_L_law_411 k23 n v0 v1 v2 v3 v4 σ = some (xr, σr)) : RN G M_L_law 411 [some (.ref v0), some (.ref v1), some (.ref v2), some (.ref v3), some (.int v4)] [] σ (.inl (some (.int xr))) σr := by
  unfold b_L_law_411 at h
  refine RN_aload_n (pc := 411) (k := 1) (by decide +kernel) rfl rfl ?_
  refine RN_aload_n (pc := 412) (k := 0) (by decide +kernel) rfl rfl ?_
  refine RN_iload (pc := 413) (i := 4) (by decide +kernel) rfl ?_
  refine RN_iconst (pc := 415) (n := 1) (v := 1) (by decide +kernel) (by decide) ?_
  refine RN_iadd (pc := 416) (by decide +kernel) ?_
  obtain ⟨c539, h⟩ := ck_el h
  refine RN_iald (pc := 417) (by decide +kernel) c539 ?_
  refine RN_aload_n (pc := 418) (k := 0) (by decide +kernel) rfl rfl ?_
  refine RN_iload (pc := 419) (i := 4) (by decide +kernel) rfl ?_
  refine RN_iconst (pc := 421) (n := 2) (v := 2) (by decide +kernel) (by decide) ?_
  refine RN_iadd (pc := 422) (by decide +kernel) ?_
  obtain ⟨c540, h⟩ := ck_el h
  refine RN_iald (pc := 423) (by decide +kernel) c540 ?_
  refine RN_aload_n (pc := 424) (k := 0) (by decide +kernel) rfl rfl ?_
  refine RN_iload (pc := 425) (i := 4) (by decide +kernel) rfl ?_
  refine RN_iconst (pc := 427) (n := 3) (v := 3) (by decide +kernel) (by decide) ?_
  refine RN_iadd (pc := 428) (by decide +kernel) ?_
  obtain ⟨c541, h⟩ := ck_el h
  refine RN_iald (pc := 429) (by decide +kernel) c541 ?_
  refine RN_aload_n (pc := 430) (k := 0) (by decide +kernel) rfl rfl ?_
  refine RN_iload (pc := 431) (i := 4) (by decide +kernel) rfl ?_
  refine RN_iconst (pc := 433) (n := 4) (v := 4) (by decide +kernel) (by decide) ?_
  refine RN_iadd (pc := 434) (by decide +kernel) ?_
  obtain ⟨c542, h⟩ := ck_el h
  refine RN_iald (pc := 435) (by decide +kernel) c542 ?_
  obtain ⟨c543, h⟩ := ck_el h
  obtain ⟨x546, σ545, f544, h⟩ := bd_el h
  refine RN_callV (M := M_L_law) (pc := 436) (idx := 77) (as := [.int (gI σ v0 (v4 + (1 : Int32)).toNatClampNeg), .int (gI σ v0 (v4 + (2 : Int32)).toNatClampNeg), .int (gI σ v0 (v4 + (3 : Int32)).toNatClampNeg), .int (gI σ v0 (v4 + (4 : Int32)).toNatClampNeg)]) (st := []) (t_X11_set f544) (by decide +kernel) lk_RL_77 rfl ⟨by decide, fun q hq => by cases hq; rfl⟩ c543 (Nat.le_of_ble_eq_true rfl) ⟨Nat.le_of_ble_eq_true rfl, Nat.le_of_ble_eq_true rfl⟩ rfl ?_
  show RN G M_L_law 439 [some (.ref v0), some (.ref v1), some (.ref v2), some (.ref v3), some (.int v4)] [.int x546] σ545 _ _
  refine RN_aload_n (pc := 439) (k := 2) (by decide +kernel) rfl rfl ?_
  refine RN_aload_n (pc := 440) (k := 0) (by decide +kernel) rfl rfl ?_
  refine RN_iload (pc := 441) (i := 4) (by decide +kernel) rfl ?_
  refine RN_iconst (pc := 443) (n := 1) (v := 1) (by decide +kernel) (by decide) ?_
  refine RN_iadd (pc := 444) (by decide +kernel) ?_
  obtain ⟨c547, h⟩ := ck_el h
  refine RN_iald (pc := 445) (by decide +kernel) c547 ?_
  refine RN_aload_n (pc := 446) (k := 0) (by decide +kernel) rfl rfl ?_
  refine RN_iload (pc := 447) (i := 4) (by decide +kernel) rfl ?_
  refine RN_iconst (pc := 449) (n := 2) (v := 2) (by decide +kernel) (by decide) ?_
  refine RN_iadd (pc := 450) (by decide +kernel) ?_
  obtain ⟨c548, h⟩ := ck_el h
  refine RN_iald (pc := 451) (by decide +kernel) c548 ?_
  refine RN_aload_n (pc := 452) (k := 0) (by decide +kernel) rfl rfl ?_
  refine RN_iload (pc := 453) (i := 4) (by decide +kernel) rfl ?_
  refine RN_iconst (pc := 455) (n := 3) (v := 3) (by decide +kernel) (by decide) ?_
  refine RN_iadd (pc := 456) (by decide +kernel) ?_
  obtain ⟨c549, h⟩ := ck_el h
  refine RN_iald (pc := 457) (by decide +kernel) c549 ?_
  refine RN_aload_n (pc := 458) (k := 0) (by decide +kernel) rfl rfl ?_
  refine RN_iload (pc := 459) (i := 4) (by decide +kernel) rfl ?_
  refine RN_iconst (pc := 461) (n := 4) (v := 4) (by decide +kernel) (by decide) ?_
  refine RN_iadd (pc := 462) (by decide +kernel) ?_
  obtain ⟨c550, h⟩ := ck_el h
  refine RN_iald (pc := 463) (by decide +kernel) c550 ?_
  obtain ⟨c551, h⟩ := ck_el h
  obtain ⟨x554, σ553, f552, h⟩ := bd_el h
  refine RN_callV (M := M_L_law) (pc := 464) (idx := 81) (as := [.int (gI σ545 v0 (v4 + (1 : Int32)).toNatClampNeg), .int (gI σ545 v0 (v4 + (2 : Int32)).toNatClampNeg), .int (gI σ545 v0 (v4 + (3 : Int32)).toNatClampNeg), .int (gI σ545 v0 (v4 + (4 : Int32)).toNatClampNeg)]) (st := [.int x546]) (t_X12_set f552) (by decide +kernel) lk_RL_81 rfl ⟨by decide, fun q hq => by cases hq; rfl⟩ c551 (Nat.le_of_ble_eq_true rfl) ⟨Nat.le_of_ble_eq_true rfl, Nat.le_of_ble_eq_true rfl⟩ rfl ?_
  show RN G M_L_law 467 [some (.ref v0), some (.ref v1), some (.ref v2), some (.ref v3), some (.int v4)] [.int x554, .int x546] σ553 _ _
  refine RN_icmp_eq (pc := 467) (off := 1295) (tgt := 1762) (by decide +kernel) (by decide) (fun c555 => ?_) (fun c555 => ?_)
  · replace h := it_t c555 h
    exact RN_weak (l := [some (.ref v0), some (.ref v1), some (.ref v2), some (.ref v3), some (.int v4)]) (And.intro rfl (And.intro rfl (And.intro rfl (And.intro rfl (And.intro rfl trivial))))) (tb_L_law_1762 n v0 v1 v2 v3 v4 σ553 k23 hk23 h)
  · replace h := it_f c555 h
    refine RN_iconst (pc := 470) (n := 0) (v := 0) (by decide +kernel) (by decide) ?_
    obtain ⟨rfl, rfl⟩ := some_el2 h
    exact RN_zreturn (by decide +kernel) rfl (Or.inl rfl)
def b_L_law_472 (k23 : Int32 → Sg → Option (Int32 × Sg)) (n : Nat) (v0 : Nat) (v1 : Nat) (v2 : Nat) (v3 : Nat) (v4 : Int32) (σ : Sg) : Option (Int32 × Sg) :=
  ck (okA σ v0 13 (v4 + (1 : Int32))) <|
  ck (okA σ v0 13 (v4 + (2 : Int32))) <|
  ck (okA σ v0 13 (v4 + (3 : Int32))) <|
  ck (okO σ v1 10) <|
  bp (f_X11_told v1 (gI σ v0 (v4 + (1 : Int32)).toNatClampNeg) (gI σ v0 (v4 + (2 : Int32)).toNatClampNeg) (gI σ v0 (v4 + (3 : Int32)).toNatClampNeg) σ) fun x562 =>
  ck (okO σ v2 11) <|
  bp (f_X12_told v2 (gI σ v0 (v4 + (1 : Int32)).toNatClampNeg) (gI σ v0 (v4 + (2 : Int32)).toNatClampNeg) (gI σ v0 (v4 + (3 : Int32)).toNatClampNeg) σ) fun x565 =>
  if x562 = x565 then (
    b_L_law_1762 k23 n v0 v1 v2 v3 v4 σ)
  else (
    some ((0 : Int32), σ))
set_option maxRecDepth 20000 in
theorem tb_L_law_472 {G : Gl} {xr : Int32} {σr : Sg} (n : Nat) (v0 : Nat) (v1 : Nat) (v2 : Nat) (v3 : Nat) (v4 : Int32) (σ : Sg) (k23 : Int32 → Sg → Option (Int32 × Sg)) (hk23 : ∀ (c4 : Int32) (τ : Sg), k23 c4 τ = some (xr, σr) → RN G M_L_law 23 [some (.ref v0), some (.ref v1), some (.ref v2), some (.ref v3), some (.int c4)] [] τ (.inl (some (.int xr))) σr) (h : b_L_law_472 k23 n v0 v1 v2 v3 v4 σ = some (xr, σr)) : RN G M_L_law 472 [some (.ref v0), some (.ref v1), some (.ref v2), some (.ref v3), some (.int v4)] [] σ (.inl (some (.int xr))) σr := by
  unfold b_L_law_472 at h
  refine RN_aload_n (pc := 472) (k := 1) (by decide +kernel) rfl rfl ?_
  refine RN_aload_n (pc := 473) (k := 0) (by decide +kernel) rfl rfl ?_
  refine RN_iload (pc := 474) (i := 4) (by decide +kernel) rfl ?_
  refine RN_iconst (pc := 476) (n := 1) (v := 1) (by decide +kernel) (by decide) ?_
  refine RN_iadd (pc := 477) (by decide +kernel) ?_
  obtain ⟨c557, h⟩ := ck_el h
  refine RN_iald (pc := 478) (by decide +kernel) c557 ?_
  refine RN_aload_n (pc := 479) (k := 0) (by decide +kernel) rfl rfl ?_
  refine RN_iload (pc := 480) (i := 4) (by decide +kernel) rfl ?_
  refine RN_iconst (pc := 482) (n := 2) (v := 2) (by decide +kernel) (by decide) ?_
  refine RN_iadd (pc := 483) (by decide +kernel) ?_
  obtain ⟨c558, h⟩ := ck_el h
  refine RN_iald (pc := 484) (by decide +kernel) c558 ?_
  refine RN_aload_n (pc := 485) (k := 0) (by decide +kernel) rfl rfl ?_
  refine RN_iload (pc := 486) (i := 4) (by decide +kernel) rfl ?_
  refine RN_iconst (pc := 488) (n := 3) (v := 3) (by decide +kernel) (by decide) ?_
  refine RN_iadd (pc := 489) (by decide +kernel) ?_
  obtain ⟨c559, h⟩ := ck_el h
  refine RN_iald (pc := 490) (by decide +kernel) c559 ?_
  obtain ⟨c560, h⟩ := ck_el h
  obtain ⟨x562, f561, h⟩ := bp_el h
  refine RN_callV (M := M_L_law) (pc := 491) (idx := 82) (as := [.int (gI σ v0 (v4 + (1 : Int32)).toNatClampNeg), .int (gI σ v0 (v4 + (2 : Int32)).toNatClampNeg), .int (gI σ v0 (v4 + (3 : Int32)).toNatClampNeg)]) (st := []) (t_X11_told f561) (by decide +kernel) lk_RL_82 rfl ⟨by decide, fun q hq => by cases hq; rfl⟩ c560 (Nat.le_of_ble_eq_true rfl) ⟨Nat.le_of_ble_eq_true rfl, Nat.le_of_ble_eq_true rfl⟩ rfl ?_
  show RN G M_L_law 494 [some (.ref v0), some (.ref v1), some (.ref v2), some (.ref v3), some (.int v4)] [.int x562] σ _ _
  refine RN_aload_n (pc := 494) (k := 2) (by decide +kernel) rfl rfl ?_
  refine RN_aload_n (pc := 495) (k := 0) (by decide +kernel) rfl rfl ?_
  refine RN_iload (pc := 496) (i := 4) (by decide +kernel) rfl ?_
  refine RN_iconst (pc := 498) (n := 1) (v := 1) (by decide +kernel) (by decide) ?_
  refine RN_iadd (pc := 499) (by decide +kernel) ?_
  refine RN_iald (pc := 500) (by decide +kernel) c557 ?_
  refine RN_aload_n (pc := 501) (k := 0) (by decide +kernel) rfl rfl ?_
  refine RN_iload (pc := 502) (i := 4) (by decide +kernel) rfl ?_
  refine RN_iconst (pc := 504) (n := 2) (v := 2) (by decide +kernel) (by decide) ?_
  refine RN_iadd (pc := 505) (by decide +kernel) ?_
  refine RN_iald (pc := 506) (by decide +kernel) c558 ?_
  refine RN_aload_n (pc := 507) (k := 0) (by decide +kernel) rfl rfl ?_
  refine RN_iload (pc := 508) (i := 4) (by decide +kernel) rfl ?_
  refine RN_iconst (pc := 510) (n := 3) (v := 3) (by decide +kernel) (by decide) ?_
  refine RN_iadd (pc := 511) (by decide +kernel) ?_
  refine RN_iald (pc := 512) (by decide +kernel) c559 ?_
  obtain ⟨c563, h⟩ := ck_el h
  obtain ⟨x565, f564, h⟩ := bp_el h
  refine RN_callV (M := M_L_law) (pc := 513) (idx := 85) (as := [.int (gI σ v0 (v4 + (1 : Int32)).toNatClampNeg), .int (gI σ v0 (v4 + (2 : Int32)).toNatClampNeg), .int (gI σ v0 (v4 + (3 : Int32)).toNatClampNeg)]) (st := [.int x562]) (t_X12_told f564) (by decide +kernel) lk_RL_85 rfl ⟨by decide, fun q hq => by cases hq; rfl⟩ c563 (Nat.le_of_ble_eq_true rfl) ⟨Nat.le_of_ble_eq_true rfl, Nat.le_of_ble_eq_true rfl⟩ rfl ?_
  show RN G M_L_law 516 [some (.ref v0), some (.ref v1), some (.ref v2), some (.ref v3), some (.int v4)] [.int x565, .int x562] σ _ _
  refine RN_icmp_eq (pc := 516) (off := 1246) (tgt := 1762) (by decide +kernel) (by decide) (fun c566 => ?_) (fun c566 => ?_)
  · replace h := it_t c566 h
    exact RN_weak (l := [some (.ref v0), some (.ref v1), some (.ref v2), some (.ref v3), some (.int v4)]) (And.intro rfl (And.intro rfl (And.intro rfl (And.intro rfl (And.intro rfl trivial))))) (tb_L_law_1762 n v0 v1 v2 v3 v4 σ k23 hk23 h)
  · replace h := it_f c566 h
    refine RN_iconst (pc := 519) (n := 0) (v := 0) (by decide +kernel) (by decide) ?_
    obtain ⟨rfl, rfl⟩ := some_el2 h
    exact RN_zreturn (by decide +kernel) rfl (Or.inl rfl)
def b_L_law_521 (k23 : Int32 → Sg → Option (Int32 × Sg)) (n : Nat) (v0 : Nat) (v1 : Nat) (v2 : Nat) (v3 : Nat) (v4 : Int32) (σ : Sg) : Option (Int32 × Sg) :=
  ck (okA σ v0 13 (v4 + (1 : Int32))) <|
  ck (okO σ v1 10) <|
  bd (f_X11_run n v1 (gI σ v0 (v4 + (1 : Int32)).toNatClampNeg) σ) fun x572 σ571 =>
  ck (okA σ571 v0 13 (v4 + (1 : Int32))) <|
  ck (okO σ571 v2 11) <|
  bd (f_X12_run n v2 (gI σ571 v0 (v4 + (1 : Int32)).toNatClampNeg) σ571) fun x577 σ576 =>
  if x572 = x577 then (
    b_L_law_1762 k23 n v0 v1 v2 v3 v4 σ576)
  else (
    some ((0 : Int32), σ576))
set_option maxRecDepth 20000 in
theorem tb_L_law_521 {G : Gl} {xr : Int32} {σr : Sg} (n : Nat) (v0 : Nat) (v1 : Nat) (v2 : Nat) (v3 : Nat) (v4 : Int32) (σ : Sg) (k23 : Int32 → Sg → Option (Int32 × Sg)) (hk23 : ∀ (c4 : Int32) (τ : Sg), k23 c4 τ = some (xr, σr) → RN G M_L_law 23 [some (.ref v0), some (.ref v1), some (.ref v2), some (.ref v3), some (.int c4)] [] τ (.inl (some (.int xr))) σr) (h : b_L_law_521 k23 n v0 v1 v2 v3 v4 σ = some (xr, σr)) : RN G M_L_law 521 [some (.ref v0), some (.ref v1), some (.ref v2), some (.ref v3), some (.int v4)] [] σ (.inl (some (.int xr))) σr := by
  unfold b_L_law_521 at h
  refine RN_aload_n (pc := 521) (k := 1) (by decide +kernel) rfl rfl ?_
  refine RN_aload_n (pc := 522) (k := 0) (by decide +kernel) rfl rfl ?_
  refine RN_iload (pc := 523) (i := 4) (by decide +kernel) rfl ?_
  refine RN_iconst (pc := 525) (n := 1) (v := 1) (by decide +kernel) (by decide) ?_
  refine RN_iadd (pc := 526) (by decide +kernel) ?_
  obtain ⟨c568, h⟩ := ck_el h
  refine RN_iald (pc := 527) (by decide +kernel) c568 ?_
  obtain ⟨c569, h⟩ := ck_el h
  obtain ⟨x572, σ571, f570, h⟩ := bd_el h
  refine RN_callV (M := M_L_law) (pc := 528) (idx := 86) (as := [.int (gI σ v0 (v4 + (1 : Int32)).toNatClampNeg)]) (st := []) (t_X11_run f570) (by decide +kernel) lk_RL_86 rfl ⟨by decide, fun q hq => by cases hq; rfl⟩ c569 (Nat.le_of_ble_eq_true rfl) ⟨Nat.le_of_ble_eq_true rfl, Nat.le_of_ble_eq_true rfl⟩ rfl ?_
  show RN G M_L_law 531 [some (.ref v0), some (.ref v1), some (.ref v2), some (.ref v3), some (.int v4)] [.int x572] σ571 _ _
  refine RN_aload_n (pc := 531) (k := 2) (by decide +kernel) rfl rfl ?_
  refine RN_aload_n (pc := 532) (k := 0) (by decide +kernel) rfl rfl ?_
  refine RN_iload (pc := 533) (i := 4) (by decide +kernel) rfl ?_
  refine RN_iconst (pc := 535) (n := 1) (v := 1) (by decide +kernel) (by decide) ?_
  refine RN_iadd (pc := 536) (by decide +kernel) ?_
  obtain ⟨c573, h⟩ := ck_el h
  refine RN_iald (pc := 537) (by decide +kernel) c573 ?_
  obtain ⟨c574, h⟩ := ck_el h
  obtain ⟨x577, σ576, f575, h⟩ := bd_el h
  refine RN_callV (M := M_L_law) (pc := 538) (idx := 89) (as := [.int (gI σ571 v0 (v4 + (1 : Int32)).toNatClampNeg)]) (st := [.int x572]) (t_X12_run f575) (by decide +kernel) lk_RL_89 rfl ⟨by decide, fun q hq => by cases hq; rfl⟩ c574 (Nat.le_of_ble_eq_true rfl) ⟨Nat.le_of_ble_eq_true rfl, Nat.le_of_ble_eq_true rfl⟩ rfl ?_
  show RN G M_L_law 541 [some (.ref v0), some (.ref v1), some (.ref v2), some (.ref v3), some (.int v4)] [.int x577, .int x572] σ576 _ _
  refine RN_icmp_eq (pc := 541) (off := 1221) (tgt := 1762) (by decide +kernel) (by decide) (fun c578 => ?_) (fun c578 => ?_)
  · replace h := it_t c578 h
    exact RN_weak (l := [some (.ref v0), some (.ref v1), some (.ref v2), some (.ref v3), some (.int v4)]) (And.intro rfl (And.intro rfl (And.intro rfl (And.intro rfl (And.intro rfl trivial))))) (tb_L_law_1762 n v0 v1 v2 v3 v4 σ576 k23 hk23 h)
  · replace h := it_f c578 h
    refine RN_iconst (pc := 544) (n := 0) (v := 0) (by decide +kernel) (by decide) ?_
    obtain ⟨rfl, rfl⟩ := some_el2 h
    exact RN_zreturn (by decide +kernel) rfl (Or.inl rfl)
def b_L_law_546 (k23 : Int32 → Sg → Option (Int32 × Sg)) (n : Nat) (v0 : Nat) (v1 : Nat) (v2 : Nat) (v3 : Nat) (v4 : Int32) (σ : Sg) : Option (Int32 × Sg) :=
  ck (okA σ v0 13 (v4 + (1 : Int32))) <|
  ck (okA σ v0 13 (v4 + (2 : Int32))) <|
  ck (okO σ v1 10) <|
  bd (f_X11_years n v1 (gI σ v0 (v4 + (1 : Int32)).toNatClampNeg) (gI σ v0 (v4 + (2 : Int32)).toNatClampNeg) σ) fun x585 σ584 =>
  ck (okA σ584 v0 13 (v4 + (1 : Int32))) <|
  ck (okA σ584 v0 13 (v4 + (2 : Int32))) <|
  ck (okO σ584 v2 11) <|
  bd (f_X12_years n v2 (gI σ584 v0 (v4 + (1 : Int32)).toNatClampNeg) (gI σ584 v0 (v4 + (2 : Int32)).toNatClampNeg) σ584) fun x591 σ590 =>
  if x585 = x591 then (
    b_L_law_1762 k23 n v0 v1 v2 v3 v4 σ590)
  else (
    some ((0 : Int32), σ590))
set_option maxRecDepth 20000 in
theorem tb_L_law_546 {G : Gl} {xr : Int32} {σr : Sg} (n : Nat) (v0 : Nat) (v1 : Nat) (v2 : Nat) (v3 : Nat) (v4 : Int32) (σ : Sg) (k23 : Int32 → Sg → Option (Int32 × Sg)) (hk23 : ∀ (c4 : Int32) (τ : Sg), k23 c4 τ = some (xr, σr) → RN G M_L_law 23 [some (.ref v0), some (.ref v1), some (.ref v2), some (.ref v3), some (.int c4)] [] τ (.inl (some (.int xr))) σr) (h : b_L_law_546 k23 n v0 v1 v2 v3 v4 σ = some (xr, σr)) : RN G M_L_law 546 [some (.ref v0), some (.ref v1), some (.ref v2), some (.ref v3), some (.int v4)] [] σ (.inl (some (.int xr))) σr := by
  unfold b_L_law_546 at h
  refine RN_aload_n (pc := 546) (k := 1) (by decide +kernel) rfl rfl ?_
  refine RN_aload_n (pc := 547) (k := 0) (by decide +kernel) rfl rfl ?_
  refine RN_iload (pc := 548) (i := 4) (by decide +kernel) rfl ?_
  refine RN_iconst (pc := 550) (n := 1) (v := 1) (by decide +kernel) (by decide) ?_
  refine RN_iadd (pc := 551) (by decide +kernel) ?_
  obtain ⟨c580, h⟩ := ck_el h
  refine RN_iald (pc := 552) (by decide +kernel) c580 ?_
  refine RN_aload_n (pc := 553) (k := 0) (by decide +kernel) rfl rfl ?_
  refine RN_iload (pc := 554) (i := 4) (by decide +kernel) rfl ?_
  refine RN_iconst (pc := 556) (n := 2) (v := 2) (by decide +kernel) (by decide) ?_
  refine RN_iadd (pc := 557) (by decide +kernel) ?_
  obtain ⟨c581, h⟩ := ck_el h
  refine RN_iald (pc := 558) (by decide +kernel) c581 ?_
  obtain ⟨c582, h⟩ := ck_el h
  obtain ⟨x585, σ584, f583, h⟩ := bd_el h
  refine RN_callV (M := M_L_law) (pc := 559) (idx := 90) (as := [.int (gI σ v0 (v4 + (1 : Int32)).toNatClampNeg), .int (gI σ v0 (v4 + (2 : Int32)).toNatClampNeg)]) (st := []) (t_X11_years f583) (by decide +kernel) lk_RL_90 rfl ⟨by decide, fun q hq => by cases hq; rfl⟩ c582 (Nat.le_of_ble_eq_true rfl) ⟨Nat.le_of_ble_eq_true rfl, Nat.le_of_ble_eq_true rfl⟩ rfl ?_
  show RN G M_L_law 562 [some (.ref v0), some (.ref v1), some (.ref v2), some (.ref v3), some (.int v4)] [.int x585] σ584 _ _
  refine RN_aload_n (pc := 562) (k := 2) (by decide +kernel) rfl rfl ?_
  refine RN_aload_n (pc := 563) (k := 0) (by decide +kernel) rfl rfl ?_
  refine RN_iload (pc := 564) (i := 4) (by decide +kernel) rfl ?_
  refine RN_iconst (pc := 566) (n := 1) (v := 1) (by decide +kernel) (by decide) ?_
  refine RN_iadd (pc := 567) (by decide +kernel) ?_
  obtain ⟨c586, h⟩ := ck_el h
  refine RN_iald (pc := 568) (by decide +kernel) c586 ?_
  refine RN_aload_n (pc := 569) (k := 0) (by decide +kernel) rfl rfl ?_
  refine RN_iload (pc := 570) (i := 4) (by decide +kernel) rfl ?_
  refine RN_iconst (pc := 572) (n := 2) (v := 2) (by decide +kernel) (by decide) ?_
  refine RN_iadd (pc := 573) (by decide +kernel) ?_
  obtain ⟨c587, h⟩ := ck_el h
  refine RN_iald (pc := 574) (by decide +kernel) c587 ?_
  obtain ⟨c588, h⟩ := ck_el h
  obtain ⟨x591, σ590, f589, h⟩ := bd_el h
  refine RN_callV (M := M_L_law) (pc := 575) (idx := 93) (as := [.int (gI σ584 v0 (v4 + (1 : Int32)).toNatClampNeg), .int (gI σ584 v0 (v4 + (2 : Int32)).toNatClampNeg)]) (st := [.int x585]) (t_X12_years f589) (by decide +kernel) lk_RL_93 rfl ⟨by decide, fun q hq => by cases hq; rfl⟩ c588 (Nat.le_of_ble_eq_true rfl) ⟨Nat.le_of_ble_eq_true rfl, Nat.le_of_ble_eq_true rfl⟩ rfl ?_
  show RN G M_L_law 578 [some (.ref v0), some (.ref v1), some (.ref v2), some (.ref v3), some (.int v4)] [.int x591, .int x585] σ590 _ _
  refine RN_icmp_eq (pc := 578) (off := 1184) (tgt := 1762) (by decide +kernel) (by decide) (fun c592 => ?_) (fun c592 => ?_)
  · replace h := it_t c592 h
    exact RN_weak (l := [some (.ref v0), some (.ref v1), some (.ref v2), some (.ref v3), some (.int v4)]) (And.intro rfl (And.intro rfl (And.intro rfl (And.intro rfl (And.intro rfl trivial))))) (tb_L_law_1762 n v0 v1 v2 v3 v4 σ590 k23 hk23 h)
  · replace h := it_f c592 h
    refine RN_iconst (pc := 581) (n := 0) (v := 0) (by decide +kernel) (by decide) ?_
    obtain ⟨rfl, rfl⟩ := some_el2 h
    exact RN_zreturn (by decide +kernel) rfl (Or.inl rfl)
def b_L_law_583 (k23 : Int32 → Sg → Option (Int32 × Sg)) (n : Nat) (v0 : Nat) (v1 : Nat) (v2 : Nat) (v3 : Nat) (v4 : Int32) (σ : Sg) : Option (Int32 × Sg) :=
  ck (okO σ v1 10) <|
  bp (f_X11_failed v1 σ) fun x596 =>
  ck (okO σ v2 11) <|
  bp (f_X12_failed v2 σ) fun x599 =>
  if x596 = x599 then (
    b_L_law_1762 k23 n v0 v1 v2 v3 v4 σ)
  else (
    some ((0 : Int32), σ))
set_option maxRecDepth 20000 in
theorem tb_L_law_583 {G : Gl} {xr : Int32} {σr : Sg} (n : Nat) (v0 : Nat) (v1 : Nat) (v2 : Nat) (v3 : Nat) (v4 : Int32) (σ : Sg) (k23 : Int32 → Sg → Option (Int32 × Sg)) (hk23 : ∀ (c4 : Int32) (τ : Sg), k23 c4 τ = some (xr, σr) → RN G M_L_law 23 [some (.ref v0), some (.ref v1), some (.ref v2), some (.ref v3), some (.int c4)] [] τ (.inl (some (.int xr))) σr) (h : b_L_law_583 k23 n v0 v1 v2 v3 v4 σ = some (xr, σr)) : RN G M_L_law 583 [some (.ref v0), some (.ref v1), some (.ref v2), some (.ref v3), some (.int v4)] [] σ (.inl (some (.int xr))) σr := by
  unfold b_L_law_583 at h
  refine RN_aload_n (pc := 583) (k := 1) (by decide +kernel) rfl rfl ?_
  obtain ⟨c594, h⟩ := ck_el h
  obtain ⟨x596, f595, h⟩ := bp_el h
  refine RN_callV (M := M_L_law) (pc := 584) (idx := 94) (as := []) (st := []) (t_X11_failed f595) (by decide +kernel) lk_RL_94 rfl ⟨by decide, fun q hq => by cases hq; rfl⟩ c594 (Nat.le_of_ble_eq_true rfl) ⟨Nat.le_of_ble_eq_true rfl, Nat.le_of_ble_eq_true rfl⟩ rfl ?_
  show RN G M_L_law 587 [some (.ref v0), some (.ref v1), some (.ref v2), some (.ref v3), some (.int v4)] [.int x596] σ _ _
  refine RN_aload_n (pc := 587) (k := 2) (by decide +kernel) rfl rfl ?_
  obtain ⟨c597, h⟩ := ck_el h
  obtain ⟨x599, f598, h⟩ := bp_el h
  refine RN_callV (M := M_L_law) (pc := 588) (idx := 97) (as := []) (st := [.int x596]) (t_X12_failed f598) (by decide +kernel) lk_RL_97 rfl ⟨by decide, fun q hq => by cases hq; rfl⟩ c597 (Nat.le_of_ble_eq_true rfl) ⟨Nat.le_of_ble_eq_true rfl, Nat.le_of_ble_eq_true rfl⟩ rfl ?_
  show RN G M_L_law 591 [some (.ref v0), some (.ref v1), some (.ref v2), some (.ref v3), some (.int v4)] [.int x599, .int x596] σ _ _
  refine RN_icmp_eq (pc := 591) (off := 1171) (tgt := 1762) (by decide +kernel) (by decide) (fun c600 => ?_) (fun c600 => ?_)
  · replace h := it_t c600 h
    exact RN_weak (l := [some (.ref v0), some (.ref v1), some (.ref v2), some (.ref v3), some (.int v4)]) (And.intro rfl (And.intro rfl (And.intro rfl (And.intro rfl (And.intro rfl trivial))))) (tb_L_law_1762 n v0 v1 v2 v3 v4 σ k23 hk23 h)
  · replace h := it_f c600 h
    refine RN_iconst (pc := 594) (n := 0) (v := 0) (by decide +kernel) (by decide) ?_
    obtain ⟨rfl, rfl⟩ := some_el2 h
    exact RN_zreturn (by decide +kernel) rfl (Or.inl rfl)
def b_L_law_648 (k23 : Int32 → Sg → Option (Int32 × Sg)) (n : Nat) (v0 : Nat) (v1 : Nat) (v2 : Nat) (v3 : Nat) (v4 : Int32) (σ : Sg) : Option (Int32 × Sg) :=
  b_L_law_1762 k23 n v0 v1 v2 v3 v4 σ
set_option maxRecDepth 20000 in
theorem tb_L_law_648 {G : Gl} {xr : Int32} {σr : Sg} (n : Nat) (v0 : Nat) (v1 : Nat) (v2 : Nat) (v3 : Nat) (v4 : Int32) (σ : Sg) (k23 : Int32 → Sg → Option (Int32 × Sg)) (hk23 : ∀ (c4 : Int32) (τ : Sg), k23 c4 τ = some (xr, σr) → RN G M_L_law 23 [some (.ref v0), some (.ref v1), some (.ref v2), some (.ref v3), some (.int c4)] [] τ (.inl (some (.int xr))) σr) (h : b_L_law_648 k23 n v0 v1 v2 v3 v4 σ = some (xr, σr)) : RN G M_L_law 648 [some (.ref v0), some (.ref v1), some (.ref v2), some (.ref v3), some (.int v4)] [] σ (.inl (some (.int xr))) σr := by
  unfold b_L_law_648 at h
  refine RN_goto (pc := 648) (off := 1114) (tgt := 1762) (by decide +kernel) (by decide) ?_
  exact RN_weak (l := [some (.ref v0), some (.ref v1), some (.ref v2), some (.ref v3), some (.int v4)]) (And.intro rfl (And.intro rfl (And.intro rfl (And.intro rfl (And.intro rfl trivial))))) (tb_L_law_1762 n v0 v1 v2 v3 v4 σ k23 hk23 h)
def b_L_law_596 (k23 : Int32 → Sg → Option (Int32 × Sg)) (n : Nat) (v0 : Nat) (v1 : Nat) (v2 : Nat) (v3 : Nat) (v4 : Int32) (σ : Sg) : Option (Int32 × Sg) :=
  ck (okA σ v0 13 (v4 + (1 : Int32))) <|
  bd (f_L_account v1 (gI σ v0 (v4 + (1 : Int32)).toNatClampNeg) v3 σ) fun x605 σ604 =>
  ck (okA σ604 v0 13 (v4 + (1 : Int32))) <|
  ck (okO σ604 v2 11) <|
  bd (f_X12_account v2 (gI σ604 v0 (v4 + (1 : Int32)).toNatClampNeg) σ604) fun x610 σ609 =>
  ck (okO σ609 v2 11) <|
  bp (f_X12_thrown v2 σ609) fun x613 =>
  if x613 = x605 then (
    if x605 = 0 then (
      ck (okA σ609 v3 14 (0 : Int32)) <|
      if (gJ σ609 v3 (0 : Int32).toNatClampNeg) = x610 then (
        b_L_law_648 k23 n v0 v1 v2 v3 v4 σ609)
      else (
        some ((0 : Int32), σ609)))
    else (
      b_L_law_648 k23 n v0 v1 v2 v3 v4 σ609))
  else (
    some ((0 : Int32), σ609))
set_option maxRecDepth 20000 in
theorem tb_L_law_596 {G : Gl} {xr : Int32} {σr : Sg} (n : Nat) (v0 : Nat) (v1 : Nat) (v2 : Nat) (v3 : Nat) (v4 : Int32) (σ : Sg) (k23 : Int32 → Sg → Option (Int32 × Sg)) (hk23 : ∀ (c4 : Int32) (τ : Sg), k23 c4 τ = some (xr, σr) → RN G M_L_law 23 [some (.ref v0), some (.ref v1), some (.ref v2), some (.ref v3), some (.int c4)] [] τ (.inl (some (.int xr))) σr) (h : b_L_law_596 k23 n v0 v1 v2 v3 v4 σ = some (xr, σr)) : RN G M_L_law 596 [some (.ref v0), some (.ref v1), some (.ref v2), some (.ref v3), some (.int v4)] [] σ (.inl (some (.int xr))) σr := by
  unfold b_L_law_596 at h
  refine RN_aload_n (pc := 596) (k := 1) (by decide +kernel) rfl rfl ?_
  refine RN_aload_n (pc := 597) (k := 0) (by decide +kernel) rfl rfl ?_
  refine RN_iload (pc := 598) (i := 4) (by decide +kernel) rfl ?_
  refine RN_iconst (pc := 600) (n := 1) (v := 1) (by decide +kernel) (by decide) ?_
  refine RN_iadd (pc := 601) (by decide +kernel) ?_
  obtain ⟨c602, h⟩ := ck_el h
  refine RN_iald (pc := 602) (by decide +kernel) c602 ?_
  refine RN_aload_n (pc := 603) (k := 3) (by decide +kernel) rfl rfl ?_
  obtain ⟨x605, σ604, f603, h⟩ := bd_el h
  refine RN_callH (M := M_L_law) (M2 := M_L_account) (pc := 604) (idx := 98) (n := 3) (as := [.ref v1, .int (gI σ v0 (v4 + (1 : Int32)).toNatClampNeg), .ref v3]) (st := []) (t_L_account f603) (by decide +kernel) lk_RL_98_1 lk_RL_98_2 lk_RL_98_3 lk_RL_98_4 ⟨by decide, by decide, by decide +kernel⟩ rfl (Nat.le_of_ble_eq_true rfl) ⟨Nat.le_of_ble_eq_true rfl, Nat.le_of_ble_eq_true rfl⟩ rfl ?_
  show RN G M_L_law 607 [some (.ref v0), some (.ref v1), some (.ref v2), some (.ref v3), some (.int v4)] [.int x605] σ604 _ _
  refine RN_istore (pc := 607) (i := 5) (ls2 := [some (.ref v0), some (.ref v1), some (.ref v2), some (.ref v3), some (.int v4), some (.int x605)]) (by decide +kernel) (by decide) rfl ?_
  refine RN_aload_n (pc := 609) (k := 2) (by decide +kernel) rfl rfl ?_
  refine RN_aload_n (pc := 610) (k := 0) (by decide +kernel) rfl rfl ?_
  refine RN_iload (pc := 611) (i := 4) (by decide +kernel) rfl ?_
  refine RN_iconst (pc := 613) (n := 1) (v := 1) (by decide +kernel) (by decide) ?_
  refine RN_iadd (pc := 614) (by decide +kernel) ?_
  obtain ⟨c606, h⟩ := ck_el h
  refine RN_iald (pc := 615) (by decide +kernel) c606 ?_
  obtain ⟨c607, h⟩ := ck_el h
  obtain ⟨x610, σ609, f608, h⟩ := bd_el h
  refine RN_callV (M := M_L_law) (pc := 616) (idx := 103) (as := [.int (gI σ604 v0 (v4 + (1 : Int32)).toNatClampNeg)]) (st := []) (t_X12_account f608) (by decide +kernel) lk_RL_103 rfl ⟨by decide, fun q hq => by cases hq; rfl⟩ c607 (Nat.le_of_ble_eq_true rfl) ⟨Nat.le_of_ble_eq_true rfl, Nat.le_of_ble_eq_true rfl⟩ rfl ?_
  show RN G M_L_law 619 [some (.ref v0), some (.ref v1), some (.ref v2), some (.ref v3), some (.int v4), some (.int x605)] [.long x610] σ609 _ _
  refine RN_lstore (pc := 619) (i := 6) (ls2 := [some (.ref v0), some (.ref v1), some (.ref v2), some (.ref v3), some (.int v4), some (.int x605), some (.long x610), none]) (by decide +kernel) (by decide) rfl ?_
  refine RN_aload_n (pc := 621) (k := 2) (by decide +kernel) rfl rfl ?_
  obtain ⟨c611, h⟩ := ck_el h
  obtain ⟨x613, f612, h⟩ := bp_el h
  refine RN_callV (M := M_L_law) (pc := 622) (idx := 104) (as := []) (st := []) (t_X12_thrown f612) (by decide +kernel) lk_RL_104 rfl ⟨by decide, fun q hq => by cases hq; rfl⟩ c611 (Nat.le_of_ble_eq_true rfl) ⟨Nat.le_of_ble_eq_true rfl, Nat.le_of_ble_eq_true rfl⟩ rfl ?_
  show RN G M_L_law 625 [some (.ref v0), some (.ref v1), some (.ref v2), some (.ref v3), some (.int v4), some (.int x605), some (.long x610), none] [.int x613] σ609 _ _
  refine RN_iload (pc := 625) (i := 5) (by decide +kernel) rfl ?_
  refine RN_icmp_eq (pc := 627) (off := 5) (tgt := 632) (by decide +kernel) (by decide) (fun c614 => ?_) (fun c614 => ?_)
  · replace h := it_t c614 h
    refine RN_iload (pc := 632) (i := 5) (by decide +kernel) rfl ?_
    refine RN_if_ne (pc := 634) (off := 14) (tgt := 648) (by decide +kernel) (by decide) (fun c615 => ?_) (fun c615 => ?_)
    · replace h := it_f c615 h
      exact RN_weak (l := [some (.ref v0), some (.ref v1), some (.ref v2), some (.ref v3), some (.int v4)]) (And.intro rfl (And.intro rfl (And.intro rfl (And.intro rfl (And.intro rfl trivial))))) (tb_L_law_648 n v0 v1 v2 v3 v4 σ609 k23 hk23 h)
    · replace h := it_t c615 h
      refine RN_aload_n (pc := 637) (k := 3) (by decide +kernel) rfl rfl ?_
      refine RN_iconst (pc := 638) (n := 0) (v := 0) (by decide +kernel) (by decide) ?_
      obtain ⟨c616, h⟩ := ck_el h
      refine RN_lald (pc := 639) (by decide +kernel) c616 ?_
      refine RN_lload (pc := 640) (i := 6) (by decide +kernel) rfl ?_
      refine RN_lc_eq (pc := 642) (off := 5) (tgt := 648) (by decide +kernel) (by decide +kernel) (by decide) (fun c617 => ?_) (fun c617 => ?_)
      · replace h := it_t c617 h
        exact RN_weak (l := [some (.ref v0), some (.ref v1), some (.ref v2), some (.ref v3), some (.int v4)]) (And.intro rfl (And.intro rfl (And.intro rfl (And.intro rfl (And.intro rfl trivial))))) (tb_L_law_648 n v0 v1 v2 v3 v4 σ609 k23 hk23 h)
      · replace h := it_f c617 h
        refine RN_iconst (pc := 646) (n := 0) (v := 0) (by decide +kernel) (by decide) ?_
        obtain ⟨rfl, rfl⟩ := some_el2 h
        exact RN_zreturn (by decide +kernel) rfl (Or.inl rfl)
  · replace h := it_f c614 h
    refine RN_iconst (pc := 630) (n := 0) (v := 0) (by decide +kernel) (by decide) ?_
    obtain ⟨rfl, rfl⟩ := some_el2 h
    exact RN_zreturn (by decide +kernel) rfl (Or.inl rfl)
def b_L_law_715 (k23 : Int32 → Sg → Option (Int32 × Sg)) (n : Nat) (v0 : Nat) (v1 : Nat) (v2 : Nat) (v3 : Nat) (v4 : Int32) (σ : Sg) : Option (Int32 × Sg) :=
  b_L_law_1762 k23 n v0 v1 v2 v3 v4 σ
set_option maxRecDepth 20000 in
theorem tb_L_law_715 {G : Gl} {xr : Int32} {σr : Sg} (n : Nat) (v0 : Nat) (v1 : Nat) (v2 : Nat) (v3 : Nat) (v4 : Int32) (σ : Sg) (k23 : Int32 → Sg → Option (Int32 × Sg)) (hk23 : ∀ (c4 : Int32) (τ : Sg), k23 c4 τ = some (xr, σr) → RN G M_L_law 23 [some (.ref v0), some (.ref v1), some (.ref v2), some (.ref v3), some (.int c4)] [] τ (.inl (some (.int xr))) σr) (h : b_L_law_715 k23 n v0 v1 v2 v3 v4 σ = some (xr, σr)) : RN G M_L_law 715 [some (.ref v0), some (.ref v1), some (.ref v2), some (.ref v3), some (.int v4)] [] σ (.inl (some (.int xr))) σr := by
  unfold b_L_law_715 at h
  refine RN_goto (pc := 715) (off := 1047) (tgt := 1762) (by decide +kernel) (by decide) ?_
  exact RN_weak (l := [some (.ref v0), some (.ref v1), some (.ref v2), some (.ref v3), some (.int v4)]) (And.intro rfl (And.intro rfl (And.intro rfl (And.intro rfl (And.intro rfl trivial))))) (tb_L_law_1762 n v0 v1 v2 v3 v4 σ k23 hk23 h)
def b_L_law_651 (k23 : Int32 → Sg → Option (Int32 × Sg)) (n : Nat) (v0 : Nat) (v1 : Nat) (v2 : Nat) (v3 : Nat) (v4 : Int32) (σ : Sg) : Option (Int32 × Sg) :=
  ck (okA σ v0 13 (v4 + (1 : Int32))) <|
  ck (okA σ v0 13 (v4 + (2 : Int32))) <|
  bd (f_L_slot v1 (gI σ v0 (v4 + (1 : Int32)).toNatClampNeg) (gI σ v0 (v4 + (2 : Int32)).toNatClampNeg) v3 σ) fun x623 σ622 =>
  ck (okA σ622 v0 13 (v4 + (1 : Int32))) <|
  ck (okA σ622 v0 13 (v4 + (2 : Int32))) <|
  ck (okO σ622 v2 11) <|
  bd (f_X12_slot v2 (gI σ622 v0 (v4 + (1 : Int32)).toNatClampNeg) (gI σ622 v0 (v4 + (2 : Int32)).toNatClampNeg) σ622) fun x629 σ628 =>
  ck (okO σ628 v2 11) <|
  bp (f_X12_thrown v2 σ628) fun x632 =>
  if x632 = x623 then (
    if x623 = 0 then (
      ck (okA σ628 v3 14 (0 : Int32)) <|
      if (gJ σ628 v3 (0 : Int32).toNatClampNeg) = x629 then (
        b_L_law_715 k23 n v0 v1 v2 v3 v4 σ628)
      else (
        some ((0 : Int32), σ628)))
    else (
      b_L_law_715 k23 n v0 v1 v2 v3 v4 σ628))
  else (
    some ((0 : Int32), σ628))
set_option maxRecDepth 20000 in
theorem tb_L_law_651 {G : Gl} {xr : Int32} {σr : Sg} (n : Nat) (v0 : Nat) (v1 : Nat) (v2 : Nat) (v3 : Nat) (v4 : Int32) (σ : Sg) (k23 : Int32 → Sg → Option (Int32 × Sg)) (hk23 : ∀ (c4 : Int32) (τ : Sg), k23 c4 τ = some (xr, σr) → RN G M_L_law 23 [some (.ref v0), some (.ref v1), some (.ref v2), some (.ref v3), some (.int c4)] [] τ (.inl (some (.int xr))) σr) (h : b_L_law_651 k23 n v0 v1 v2 v3 v4 σ = some (xr, σr)) : RN G M_L_law 651 [some (.ref v0), some (.ref v1), some (.ref v2), some (.ref v3), some (.int v4)] [] σ (.inl (some (.int xr))) σr := by
  unfold b_L_law_651 at h
  refine RN_aload_n (pc := 651) (k := 1) (by decide +kernel) rfl rfl ?_
  refine RN_aload_n (pc := 652) (k := 0) (by decide +kernel) rfl rfl ?_
  refine RN_iload (pc := 653) (i := 4) (by decide +kernel) rfl ?_
  refine RN_iconst (pc := 655) (n := 1) (v := 1) (by decide +kernel) (by decide) ?_
  refine RN_iadd (pc := 656) (by decide +kernel) ?_
  obtain ⟨c619, h⟩ := ck_el h
  refine RN_iald (pc := 657) (by decide +kernel) c619 ?_
  refine RN_aload_n (pc := 658) (k := 0) (by decide +kernel) rfl rfl ?_
  refine RN_iload (pc := 659) (i := 4) (by decide +kernel) rfl ?_
  refine RN_iconst (pc := 661) (n := 2) (v := 2) (by decide +kernel) (by decide) ?_
  refine RN_iadd (pc := 662) (by decide +kernel) ?_
  obtain ⟨c620, h⟩ := ck_el h
  refine RN_iald (pc := 663) (by decide +kernel) c620 ?_
  refine RN_aload_n (pc := 664) (k := 3) (by decide +kernel) rfl rfl ?_
  obtain ⟨x623, σ622, f621, h⟩ := bd_el h
  refine RN_callH (M := M_L_law) (M2 := M_L_slot) (pc := 665) (idx := 107) (n := 4) (as := [.ref v1, .int (gI σ v0 (v4 + (1 : Int32)).toNatClampNeg), .int (gI σ v0 (v4 + (2 : Int32)).toNatClampNeg), .ref v3]) (st := []) (t_L_slot f621) (by decide +kernel) lk_RL_107_1 lk_RL_107_2 lk_RL_107_3 lk_RL_107_4 ⟨by decide, by decide, by decide +kernel⟩ rfl (Nat.le_of_ble_eq_true rfl) ⟨Nat.le_of_ble_eq_true rfl, Nat.le_of_ble_eq_true rfl⟩ rfl ?_
  show RN G M_L_law 668 [some (.ref v0), some (.ref v1), some (.ref v2), some (.ref v3), some (.int v4)] [.int x623] σ622 _ _
  refine RN_istore (pc := 668) (i := 5) (ls2 := [some (.ref v0), some (.ref v1), some (.ref v2), some (.ref v3), some (.int v4), some (.int x623)]) (by decide +kernel) (by decide) rfl ?_
  refine RN_aload_n (pc := 670) (k := 2) (by decide +kernel) rfl rfl ?_
  refine RN_aload_n (pc := 671) (k := 0) (by decide +kernel) rfl rfl ?_
  refine RN_iload (pc := 672) (i := 4) (by decide +kernel) rfl ?_
  refine RN_iconst (pc := 674) (n := 1) (v := 1) (by decide +kernel) (by decide) ?_
  refine RN_iadd (pc := 675) (by decide +kernel) ?_
  obtain ⟨c624, h⟩ := ck_el h
  refine RN_iald (pc := 676) (by decide +kernel) c624 ?_
  refine RN_aload_n (pc := 677) (k := 0) (by decide +kernel) rfl rfl ?_
  refine RN_iload (pc := 678) (i := 4) (by decide +kernel) rfl ?_
  refine RN_iconst (pc := 680) (n := 2) (v := 2) (by decide +kernel) (by decide) ?_
  refine RN_iadd (pc := 681) (by decide +kernel) ?_
  obtain ⟨c625, h⟩ := ck_el h
  refine RN_iald (pc := 682) (by decide +kernel) c625 ?_
  obtain ⟨c626, h⟩ := ck_el h
  obtain ⟨x629, σ628, f627, h⟩ := bd_el h
  refine RN_callV (M := M_L_law) (pc := 683) (idx := 110) (as := [.int (gI σ622 v0 (v4 + (1 : Int32)).toNatClampNeg), .int (gI σ622 v0 (v4 + (2 : Int32)).toNatClampNeg)]) (st := []) (t_X12_slot f627) (by decide +kernel) lk_RL_110 rfl ⟨by decide, fun q hq => by cases hq; rfl⟩ c626 (Nat.le_of_ble_eq_true rfl) ⟨Nat.le_of_ble_eq_true rfl, Nat.le_of_ble_eq_true rfl⟩ rfl ?_
  show RN G M_L_law 686 [some (.ref v0), some (.ref v1), some (.ref v2), some (.ref v3), some (.int v4), some (.int x623)] [.long x629] σ628 _ _
  refine RN_lstore (pc := 686) (i := 6) (ls2 := [some (.ref v0), some (.ref v1), some (.ref v2), some (.ref v3), some (.int v4), some (.int x623), some (.long x629), none]) (by decide +kernel) (by decide) rfl ?_
  refine RN_aload_n (pc := 688) (k := 2) (by decide +kernel) rfl rfl ?_
  obtain ⟨c630, h⟩ := ck_el h
  obtain ⟨x632, f631, h⟩ := bp_el h
  refine RN_callV (M := M_L_law) (pc := 689) (idx := 104) (as := []) (st := []) (t_X12_thrown f631) (by decide +kernel) lk_RL_104 rfl ⟨by decide, fun q hq => by cases hq; rfl⟩ c630 (Nat.le_of_ble_eq_true rfl) ⟨Nat.le_of_ble_eq_true rfl, Nat.le_of_ble_eq_true rfl⟩ rfl ?_
  show RN G M_L_law 692 [some (.ref v0), some (.ref v1), some (.ref v2), some (.ref v3), some (.int v4), some (.int x623), some (.long x629), none] [.int x632] σ628 _ _
  refine RN_iload (pc := 692) (i := 5) (by decide +kernel) rfl ?_
  refine RN_icmp_eq (pc := 694) (off := 5) (tgt := 699) (by decide +kernel) (by decide) (fun c633 => ?_) (fun c633 => ?_)
  · replace h := it_t c633 h
    refine RN_iload (pc := 699) (i := 5) (by decide +kernel) rfl ?_
    refine RN_if_ne (pc := 701) (off := 14) (tgt := 715) (by decide +kernel) (by decide) (fun c634 => ?_) (fun c634 => ?_)
    · replace h := it_f c634 h
      exact RN_weak (l := [some (.ref v0), some (.ref v1), some (.ref v2), some (.ref v3), some (.int v4)]) (And.intro rfl (And.intro rfl (And.intro rfl (And.intro rfl (And.intro rfl trivial))))) (tb_L_law_715 n v0 v1 v2 v3 v4 σ628 k23 hk23 h)
    · replace h := it_t c634 h
      refine RN_aload_n (pc := 704) (k := 3) (by decide +kernel) rfl rfl ?_
      refine RN_iconst (pc := 705) (n := 0) (v := 0) (by decide +kernel) (by decide) ?_
      obtain ⟨c635, h⟩ := ck_el h
      refine RN_lald (pc := 706) (by decide +kernel) c635 ?_
      refine RN_lload (pc := 707) (i := 6) (by decide +kernel) rfl ?_
      refine RN_lc_eq (pc := 709) (off := 5) (tgt := 715) (by decide +kernel) (by decide +kernel) (by decide) (fun c636 => ?_) (fun c636 => ?_)
      · replace h := it_t c636 h
        exact RN_weak (l := [some (.ref v0), some (.ref v1), some (.ref v2), some (.ref v3), some (.int v4)]) (And.intro rfl (And.intro rfl (And.intro rfl (And.intro rfl (And.intro rfl trivial))))) (tb_L_law_715 n v0 v1 v2 v3 v4 σ628 k23 hk23 h)
      · replace h := it_f c636 h
        refine RN_iconst (pc := 713) (n := 0) (v := 0) (by decide +kernel) (by decide) ?_
        obtain ⟨rfl, rfl⟩ := some_el2 h
        exact RN_zreturn (by decide +kernel) rfl (Or.inl rfl)
  · replace h := it_f c633 h
    refine RN_iconst (pc := 697) (n := 0) (v := 0) (by decide +kernel) (by decide) ?_
    obtain ⟨rfl, rfl⟩ := some_el2 h
    exact RN_zreturn (by decide +kernel) rfl (Or.inl rfl)
def b_L_law_770 (k23 : Int32 → Sg → Option (Int32 × Sg)) (n : Nat) (v0 : Nat) (v1 : Nat) (v2 : Nat) (v3 : Nat) (v4 : Int32) (σ : Sg) : Option (Int32 × Sg) :=
  b_L_law_1762 k23 n v0 v1 v2 v3 v4 σ
set_option maxRecDepth 20000 in
theorem tb_L_law_770 {G : Gl} {xr : Int32} {σr : Sg} (n : Nat) (v0 : Nat) (v1 : Nat) (v2 : Nat) (v3 : Nat) (v4 : Int32) (σ : Sg) (k23 : Int32 → Sg → Option (Int32 × Sg)) (hk23 : ∀ (c4 : Int32) (τ : Sg), k23 c4 τ = some (xr, σr) → RN G M_L_law 23 [some (.ref v0), some (.ref v1), some (.ref v2), some (.ref v3), some (.int c4)] [] τ (.inl (some (.int xr))) σr) (h : b_L_law_770 k23 n v0 v1 v2 v3 v4 σ = some (xr, σr)) : RN G M_L_law 770 [some (.ref v0), some (.ref v1), some (.ref v2), some (.ref v3), some (.int v4)] [] σ (.inl (some (.int xr))) σr := by
  unfold b_L_law_770 at h
  refine RN_goto (pc := 770) (off := 992) (tgt := 1762) (by decide +kernel) (by decide) ?_
  exact RN_weak (l := [some (.ref v0), some (.ref v1), some (.ref v2), some (.ref v3), some (.int v4)]) (And.intro rfl (And.intro rfl (And.intro rfl (And.intro rfl (And.intro rfl trivial))))) (tb_L_law_1762 n v0 v1 v2 v3 v4 σ k23 hk23 h)
def b_L_law_718 (k23 : Int32 → Sg → Option (Int32 × Sg)) (n : Nat) (v0 : Nat) (v1 : Nat) (v2 : Nat) (v3 : Nat) (v4 : Int32) (σ : Sg) : Option (Int32 × Sg) :=
  ck (okA σ v0 13 (v4 + (1 : Int32))) <|
  bd (f_L_part v1 (gI σ v0 (v4 + (1 : Int32)).toNatClampNeg) v3 σ) fun x641 σ640 =>
  ck (okA σ640 v0 13 (v4 + (1 : Int32))) <|
  ck (okO σ640 v2 11) <|
  bd (f_X12_part v2 (gI σ640 v0 (v4 + (1 : Int32)).toNatClampNeg) σ640) fun x646 σ645 =>
  ck (okO σ645 v2 11) <|
  bp (f_X12_thrown v2 σ645) fun x649 =>
  if x649 = x641 then (
    if x641 = 0 then (
      ck (okA σ645 v3 14 (0 : Int32)) <|
      if (gJ σ645 v3 (0 : Int32).toNatClampNeg) = x646 then (
        b_L_law_770 k23 n v0 v1 v2 v3 v4 σ645)
      else (
        some ((0 : Int32), σ645)))
    else (
      b_L_law_770 k23 n v0 v1 v2 v3 v4 σ645))
  else (
    some ((0 : Int32), σ645))
set_option maxRecDepth 20000 in
theorem tb_L_law_718 {G : Gl} {xr : Int32} {σr : Sg} (n : Nat) (v0 : Nat) (v1 : Nat) (v2 : Nat) (v3 : Nat) (v4 : Int32) (σ : Sg) (k23 : Int32 → Sg → Option (Int32 × Sg)) (hk23 : ∀ (c4 : Int32) (τ : Sg), k23 c4 τ = some (xr, σr) → RN G M_L_law 23 [some (.ref v0), some (.ref v1), some (.ref v2), some (.ref v3), some (.int c4)] [] τ (.inl (some (.int xr))) σr) (h : b_L_law_718 k23 n v0 v1 v2 v3 v4 σ = some (xr, σr)) : RN G M_L_law 718 [some (.ref v0), some (.ref v1), some (.ref v2), some (.ref v3), some (.int v4)] [] σ (.inl (some (.int xr))) σr := by
  unfold b_L_law_718 at h
  refine RN_aload_n (pc := 718) (k := 1) (by decide +kernel) rfl rfl ?_
  refine RN_aload_n (pc := 719) (k := 0) (by decide +kernel) rfl rfl ?_
  refine RN_iload (pc := 720) (i := 4) (by decide +kernel) rfl ?_
  refine RN_iconst (pc := 722) (n := 1) (v := 1) (by decide +kernel) (by decide) ?_
  refine RN_iadd (pc := 723) (by decide +kernel) ?_
  obtain ⟨c638, h⟩ := ck_el h
  refine RN_iald (pc := 724) (by decide +kernel) c638 ?_
  refine RN_aload_n (pc := 725) (k := 3) (by decide +kernel) rfl rfl ?_
  obtain ⟨x641, σ640, f639, h⟩ := bd_el h
  refine RN_callH (M := M_L_law) (M2 := M_L_part) (pc := 726) (idx := 111) (n := 3) (as := [.ref v1, .int (gI σ v0 (v4 + (1 : Int32)).toNatClampNeg), .ref v3]) (st := []) (t_L_part f639) (by decide +kernel) lk_RL_111_1 lk_RL_111_2 lk_RL_111_3 lk_RL_111_4 ⟨by decide, by decide, by decide +kernel⟩ rfl (Nat.le_of_ble_eq_true rfl) ⟨Nat.le_of_ble_eq_true rfl, Nat.le_of_ble_eq_true rfl⟩ rfl ?_
  show RN G M_L_law 729 [some (.ref v0), some (.ref v1), some (.ref v2), some (.ref v3), some (.int v4)] [.int x641] σ640 _ _
  refine RN_istore (pc := 729) (i := 5) (ls2 := [some (.ref v0), some (.ref v1), some (.ref v2), some (.ref v3), some (.int v4), some (.int x641)]) (by decide +kernel) (by decide) rfl ?_
  refine RN_aload_n (pc := 731) (k := 2) (by decide +kernel) rfl rfl ?_
  refine RN_aload_n (pc := 732) (k := 0) (by decide +kernel) rfl rfl ?_
  refine RN_iload (pc := 733) (i := 4) (by decide +kernel) rfl ?_
  refine RN_iconst (pc := 735) (n := 1) (v := 1) (by decide +kernel) (by decide) ?_
  refine RN_iadd (pc := 736) (by decide +kernel) ?_
  obtain ⟨c642, h⟩ := ck_el h
  refine RN_iald (pc := 737) (by decide +kernel) c642 ?_
  obtain ⟨c643, h⟩ := ck_el h
  obtain ⟨x646, σ645, f644, h⟩ := bd_el h
  refine RN_callV (M := M_L_law) (pc := 738) (idx := 113) (as := [.int (gI σ640 v0 (v4 + (1 : Int32)).toNatClampNeg)]) (st := []) (t_X12_part f644) (by decide +kernel) lk_RL_113 rfl ⟨by decide, fun q hq => by cases hq; rfl⟩ c643 (Nat.le_of_ble_eq_true rfl) ⟨Nat.le_of_ble_eq_true rfl, Nat.le_of_ble_eq_true rfl⟩ rfl ?_
  show RN G M_L_law 741 [some (.ref v0), some (.ref v1), some (.ref v2), some (.ref v3), some (.int v4), some (.int x641)] [.long x646] σ645 _ _
  refine RN_lstore (pc := 741) (i := 6) (ls2 := [some (.ref v0), some (.ref v1), some (.ref v2), some (.ref v3), some (.int v4), some (.int x641), some (.long x646), none]) (by decide +kernel) (by decide) rfl ?_
  refine RN_aload_n (pc := 743) (k := 2) (by decide +kernel) rfl rfl ?_
  obtain ⟨c647, h⟩ := ck_el h
  obtain ⟨x649, f648, h⟩ := bp_el h
  refine RN_callV (M := M_L_law) (pc := 744) (idx := 104) (as := []) (st := []) (t_X12_thrown f648) (by decide +kernel) lk_RL_104 rfl ⟨by decide, fun q hq => by cases hq; rfl⟩ c647 (Nat.le_of_ble_eq_true rfl) ⟨Nat.le_of_ble_eq_true rfl, Nat.le_of_ble_eq_true rfl⟩ rfl ?_
  show RN G M_L_law 747 [some (.ref v0), some (.ref v1), some (.ref v2), some (.ref v3), some (.int v4), some (.int x641), some (.long x646), none] [.int x649] σ645 _ _
  refine RN_iload (pc := 747) (i := 5) (by decide +kernel) rfl ?_
  refine RN_icmp_eq (pc := 749) (off := 5) (tgt := 754) (by decide +kernel) (by decide) (fun c650 => ?_) (fun c650 => ?_)
  · replace h := it_t c650 h
    refine RN_iload (pc := 754) (i := 5) (by decide +kernel) rfl ?_
    refine RN_if_ne (pc := 756) (off := 14) (tgt := 770) (by decide +kernel) (by decide) (fun c651 => ?_) (fun c651 => ?_)
    · replace h := it_f c651 h
      exact RN_weak (l := [some (.ref v0), some (.ref v1), some (.ref v2), some (.ref v3), some (.int v4)]) (And.intro rfl (And.intro rfl (And.intro rfl (And.intro rfl (And.intro rfl trivial))))) (tb_L_law_770 n v0 v1 v2 v3 v4 σ645 k23 hk23 h)
    · replace h := it_t c651 h
      refine RN_aload_n (pc := 759) (k := 3) (by decide +kernel) rfl rfl ?_
      refine RN_iconst (pc := 760) (n := 0) (v := 0) (by decide +kernel) (by decide) ?_
      obtain ⟨c652, h⟩ := ck_el h
      refine RN_lald (pc := 761) (by decide +kernel) c652 ?_
      refine RN_lload (pc := 762) (i := 6) (by decide +kernel) rfl ?_
      refine RN_lc_eq (pc := 764) (off := 5) (tgt := 770) (by decide +kernel) (by decide +kernel) (by decide) (fun c653 => ?_) (fun c653 => ?_)
      · replace h := it_t c653 h
        exact RN_weak (l := [some (.ref v0), some (.ref v1), some (.ref v2), some (.ref v3), some (.int v4)]) (And.intro rfl (And.intro rfl (And.intro rfl (And.intro rfl (And.intro rfl trivial))))) (tb_L_law_770 n v0 v1 v2 v3 v4 σ645 k23 hk23 h)
      · replace h := it_f c653 h
        refine RN_iconst (pc := 768) (n := 0) (v := 0) (by decide +kernel) (by decide) ?_
        obtain ⟨rfl, rfl⟩ := some_el2 h
        exact RN_zreturn (by decide +kernel) rfl (Or.inl rfl)
  · replace h := it_f c650 h
    refine RN_iconst (pc := 752) (n := 0) (v := 0) (by decide +kernel) (by decide) ?_
    obtain ⟨rfl, rfl⟩ := some_el2 h
    exact RN_zreturn (by decide +kernel) rfl (Or.inl rfl)
def b_L_law_825 (k23 : Int32 → Sg → Option (Int32 × Sg)) (n : Nat) (v0 : Nat) (v1 : Nat) (v2 : Nat) (v3 : Nat) (v4 : Int32) (σ : Sg) : Option (Int32 × Sg) :=
  b_L_law_1762 k23 n v0 v1 v2 v3 v4 σ
set_option maxRecDepth 20000 in
theorem tb_L_law_825 {G : Gl} {xr : Int32} {σr : Sg} (n : Nat) (v0 : Nat) (v1 : Nat) (v2 : Nat) (v3 : Nat) (v4 : Int32) (σ : Sg) (k23 : Int32 → Sg → Option (Int32 × Sg)) (hk23 : ∀ (c4 : Int32) (τ : Sg), k23 c4 τ = some (xr, σr) → RN G M_L_law 23 [some (.ref v0), some (.ref v1), some (.ref v2), some (.ref v3), some (.int c4)] [] τ (.inl (some (.int xr))) σr) (h : b_L_law_825 k23 n v0 v1 v2 v3 v4 σ = some (xr, σr)) : RN G M_L_law 825 [some (.ref v0), some (.ref v1), some (.ref v2), some (.ref v3), some (.int v4)] [] σ (.inl (some (.int xr))) σr := by
  unfold b_L_law_825 at h
  refine RN_goto (pc := 825) (off := 937) (tgt := 1762) (by decide +kernel) (by decide) ?_
  exact RN_weak (l := [some (.ref v0), some (.ref v1), some (.ref v2), some (.ref v3), some (.int v4)]) (And.intro rfl (And.intro rfl (And.intro rfl (And.intro rfl (And.intro rfl trivial))))) (tb_L_law_1762 n v0 v1 v2 v3 v4 σ k23 hk23 h)
def b_L_law_773 (k23 : Int32 → Sg → Option (Int32 × Sg)) (n : Nat) (v0 : Nat) (v1 : Nat) (v2 : Nat) (v3 : Nat) (v4 : Int32) (σ : Sg) : Option (Int32 × Sg) :=
  ck (okA σ v0 13 (v4 + (1 : Int32))) <|
  bd (f_L_got v1 (gI σ v0 (v4 + (1 : Int32)).toNatClampNeg) v3 σ) fun x658 σ657 =>
  ck (okA σ657 v0 13 (v4 + (1 : Int32))) <|
  ck (okO σ657 v2 11) <|
  bd (f_X12_got v2 (gI σ657 v0 (v4 + (1 : Int32)).toNatClampNeg) σ657) fun x663 σ662 =>
  ck (okO σ662 v2 11) <|
  bp (f_X12_thrown v2 σ662) fun x666 =>
  if x666 = x658 then (
    if x658 = 0 then (
      ck (okA σ662 v3 14 (0 : Int32)) <|
      if (gJ σ662 v3 (0 : Int32).toNatClampNeg) = x663 then (
        b_L_law_825 k23 n v0 v1 v2 v3 v4 σ662)
      else (
        some ((0 : Int32), σ662)))
    else (
      b_L_law_825 k23 n v0 v1 v2 v3 v4 σ662))
  else (
    some ((0 : Int32), σ662))
set_option maxRecDepth 20000 in
theorem tb_L_law_773 {G : Gl} {xr : Int32} {σr : Sg} (n : Nat) (v0 : Nat) (v1 : Nat) (v2 : Nat) (v3 : Nat) (v4 : Int32) (σ : Sg) (k23 : Int32 → Sg → Option (Int32 × Sg)) (hk23 : ∀ (c4 : Int32) (τ : Sg), k23 c4 τ = some (xr, σr) → RN G M_L_law 23 [some (.ref v0), some (.ref v1), some (.ref v2), some (.ref v3), some (.int c4)] [] τ (.inl (some (.int xr))) σr) (h : b_L_law_773 k23 n v0 v1 v2 v3 v4 σ = some (xr, σr)) : RN G M_L_law 773 [some (.ref v0), some (.ref v1), some (.ref v2), some (.ref v3), some (.int v4)] [] σ (.inl (some (.int xr))) σr := by
  unfold b_L_law_773 at h
  refine RN_aload_n (pc := 773) (k := 1) (by decide +kernel) rfl rfl ?_
  refine RN_aload_n (pc := 774) (k := 0) (by decide +kernel) rfl rfl ?_
  refine RN_iload (pc := 775) (i := 4) (by decide +kernel) rfl ?_
  refine RN_iconst (pc := 777) (n := 1) (v := 1) (by decide +kernel) (by decide) ?_
  refine RN_iadd (pc := 778) (by decide +kernel) ?_
  obtain ⟨c655, h⟩ := ck_el h
  refine RN_iald (pc := 779) (by decide +kernel) c655 ?_
  refine RN_aload_n (pc := 780) (k := 3) (by decide +kernel) rfl rfl ?_
  obtain ⟨x658, σ657, f656, h⟩ := bd_el h
  refine RN_callH (M := M_L_law) (M2 := M_L_got) (pc := 781) (idx := 114) (n := 3) (as := [.ref v1, .int (gI σ v0 (v4 + (1 : Int32)).toNatClampNeg), .ref v3]) (st := []) (t_L_got f656) (by decide +kernel) lk_RL_114_1 lk_RL_114_2 lk_RL_114_3 lk_RL_114_4 ⟨by decide, by decide, by decide +kernel⟩ rfl (Nat.le_of_ble_eq_true rfl) ⟨Nat.le_of_ble_eq_true rfl, Nat.le_of_ble_eq_true rfl⟩ rfl ?_
  show RN G M_L_law 784 [some (.ref v0), some (.ref v1), some (.ref v2), some (.ref v3), some (.int v4)] [.int x658] σ657 _ _
  refine RN_istore (pc := 784) (i := 5) (ls2 := [some (.ref v0), some (.ref v1), some (.ref v2), some (.ref v3), some (.int v4), some (.int x658)]) (by decide +kernel) (by decide) rfl ?_
  refine RN_aload_n (pc := 786) (k := 2) (by decide +kernel) rfl rfl ?_
  refine RN_aload_n (pc := 787) (k := 0) (by decide +kernel) rfl rfl ?_
  refine RN_iload (pc := 788) (i := 4) (by decide +kernel) rfl ?_
  refine RN_iconst (pc := 790) (n := 1) (v := 1) (by decide +kernel) (by decide) ?_
  refine RN_iadd (pc := 791) (by decide +kernel) ?_
  obtain ⟨c659, h⟩ := ck_el h
  refine RN_iald (pc := 792) (by decide +kernel) c659 ?_
  obtain ⟨c660, h⟩ := ck_el h
  obtain ⟨x663, σ662, f661, h⟩ := bd_el h
  refine RN_callV (M := M_L_law) (pc := 793) (idx := 116) (as := [.int (gI σ657 v0 (v4 + (1 : Int32)).toNatClampNeg)]) (st := []) (t_X12_got f661) (by decide +kernel) lk_RL_116 rfl ⟨by decide, fun q hq => by cases hq; rfl⟩ c660 (Nat.le_of_ble_eq_true rfl) ⟨Nat.le_of_ble_eq_true rfl, Nat.le_of_ble_eq_true rfl⟩ rfl ?_
  show RN G M_L_law 796 [some (.ref v0), some (.ref v1), some (.ref v2), some (.ref v3), some (.int v4), some (.int x658)] [.long x663] σ662 _ _
  refine RN_lstore (pc := 796) (i := 6) (ls2 := [some (.ref v0), some (.ref v1), some (.ref v2), some (.ref v3), some (.int v4), some (.int x658), some (.long x663), none]) (by decide +kernel) (by decide) rfl ?_
  refine RN_aload_n (pc := 798) (k := 2) (by decide +kernel) rfl rfl ?_
  obtain ⟨c664, h⟩ := ck_el h
  obtain ⟨x666, f665, h⟩ := bp_el h
  refine RN_callV (M := M_L_law) (pc := 799) (idx := 104) (as := []) (st := []) (t_X12_thrown f665) (by decide +kernel) lk_RL_104 rfl ⟨by decide, fun q hq => by cases hq; rfl⟩ c664 (Nat.le_of_ble_eq_true rfl) ⟨Nat.le_of_ble_eq_true rfl, Nat.le_of_ble_eq_true rfl⟩ rfl ?_
  show RN G M_L_law 802 [some (.ref v0), some (.ref v1), some (.ref v2), some (.ref v3), some (.int v4), some (.int x658), some (.long x663), none] [.int x666] σ662 _ _
  refine RN_iload (pc := 802) (i := 5) (by decide +kernel) rfl ?_
  refine RN_icmp_eq (pc := 804) (off := 5) (tgt := 809) (by decide +kernel) (by decide) (fun c667 => ?_) (fun c667 => ?_)
  · replace h := it_t c667 h
    refine RN_iload (pc := 809) (i := 5) (by decide +kernel) rfl ?_
    refine RN_if_ne (pc := 811) (off := 14) (tgt := 825) (by decide +kernel) (by decide) (fun c668 => ?_) (fun c668 => ?_)
    · replace h := it_f c668 h
      exact RN_weak (l := [some (.ref v0), some (.ref v1), some (.ref v2), some (.ref v3), some (.int v4)]) (And.intro rfl (And.intro rfl (And.intro rfl (And.intro rfl (And.intro rfl trivial))))) (tb_L_law_825 n v0 v1 v2 v3 v4 σ662 k23 hk23 h)
    · replace h := it_t c668 h
      refine RN_aload_n (pc := 814) (k := 3) (by decide +kernel) rfl rfl ?_
      refine RN_iconst (pc := 815) (n := 0) (v := 0) (by decide +kernel) (by decide) ?_
      obtain ⟨c669, h⟩ := ck_el h
      refine RN_lald (pc := 816) (by decide +kernel) c669 ?_
      refine RN_lload (pc := 817) (i := 6) (by decide +kernel) rfl ?_
      refine RN_lc_eq (pc := 819) (off := 5) (tgt := 825) (by decide +kernel) (by decide +kernel) (by decide) (fun c670 => ?_) (fun c670 => ?_)
      · replace h := it_t c670 h
        exact RN_weak (l := [some (.ref v0), some (.ref v1), some (.ref v2), some (.ref v3), some (.int v4)]) (And.intro rfl (And.intro rfl (And.intro rfl (And.intro rfl (And.intro rfl trivial))))) (tb_L_law_825 n v0 v1 v2 v3 v4 σ662 k23 hk23 h)
      · replace h := it_f c670 h
        refine RN_iconst (pc := 823) (n := 0) (v := 0) (by decide +kernel) (by decide) ?_
        obtain ⟨rfl, rfl⟩ := some_el2 h
        exact RN_zreturn (by decide +kernel) rfl (Or.inl rfl)
  · replace h := it_f c667 h
    refine RN_iconst (pc := 807) (n := 0) (v := 0) (by decide +kernel) (by decide) ?_
    obtain ⟨rfl, rfl⟩ := some_el2 h
    exact RN_zreturn (by decide +kernel) rfl (Or.inl rfl)
def b_L_law_892 (k23 : Int32 → Sg → Option (Int32 × Sg)) (n : Nat) (v0 : Nat) (v1 : Nat) (v2 : Nat) (v3 : Nat) (v4 : Int32) (σ : Sg) : Option (Int32 × Sg) :=
  b_L_law_1762 k23 n v0 v1 v2 v3 v4 σ
set_option maxRecDepth 20000 in
theorem tb_L_law_892 {G : Gl} {xr : Int32} {σr : Sg} (n : Nat) (v0 : Nat) (v1 : Nat) (v2 : Nat) (v3 : Nat) (v4 : Int32) (σ : Sg) (k23 : Int32 → Sg → Option (Int32 × Sg)) (hk23 : ∀ (c4 : Int32) (τ : Sg), k23 c4 τ = some (xr, σr) → RN G M_L_law 23 [some (.ref v0), some (.ref v1), some (.ref v2), some (.ref v3), some (.int c4)] [] τ (.inl (some (.int xr))) σr) (h : b_L_law_892 k23 n v0 v1 v2 v3 v4 σ = some (xr, σr)) : RN G M_L_law 892 [some (.ref v0), some (.ref v1), some (.ref v2), some (.ref v3), some (.int v4)] [] σ (.inl (some (.int xr))) σr := by
  unfold b_L_law_892 at h
  refine RN_goto (pc := 892) (off := 870) (tgt := 1762) (by decide +kernel) (by decide) ?_
  exact RN_weak (l := [some (.ref v0), some (.ref v1), some (.ref v2), some (.ref v3), some (.int v4)]) (And.intro rfl (And.intro rfl (And.intro rfl (And.intro rfl (And.intro rfl trivial))))) (tb_L_law_1762 n v0 v1 v2 v3 v4 σ k23 hk23 h)
def b_L_law_828 (k23 : Int32 → Sg → Option (Int32 × Sg)) (n : Nat) (v0 : Nat) (v1 : Nat) (v2 : Nat) (v3 : Nat) (v4 : Int32) (σ : Sg) : Option (Int32 × Sg) :=
  ck (okA σ v0 13 (v4 + (1 : Int32))) <|
  ck (okA σ v0 13 (v4 + (2 : Int32))) <|
  bd (f_L_carried v1 (gI σ v0 (v4 + (1 : Int32)).toNatClampNeg) (gI σ v0 (v4 + (2 : Int32)).toNatClampNeg) v3 σ) fun x676 σ675 =>
  ck (okA σ675 v0 13 (v4 + (1 : Int32))) <|
  ck (okA σ675 v0 13 (v4 + (2 : Int32))) <|
  ck (okO σ675 v2 11) <|
  bd (f_X12_carried v2 (gI σ675 v0 (v4 + (1 : Int32)).toNatClampNeg) (gI σ675 v0 (v4 + (2 : Int32)).toNatClampNeg) σ675) fun x682 σ681 =>
  ck (okO σ681 v2 11) <|
  bp (f_X12_thrown v2 σ681) fun x685 =>
  if x685 = x676 then (
    if x676 = 0 then (
      ck (okA σ681 v3 14 (0 : Int32)) <|
      if (gJ σ681 v3 (0 : Int32).toNatClampNeg) = x682 then (
        b_L_law_892 k23 n v0 v1 v2 v3 v4 σ681)
      else (
        some ((0 : Int32), σ681)))
    else (
      b_L_law_892 k23 n v0 v1 v2 v3 v4 σ681))
  else (
    some ((0 : Int32), σ681))
set_option maxRecDepth 20000 in
theorem tb_L_law_828 {G : Gl} {xr : Int32} {σr : Sg} (n : Nat) (v0 : Nat) (v1 : Nat) (v2 : Nat) (v3 : Nat) (v4 : Int32) (σ : Sg) (k23 : Int32 → Sg → Option (Int32 × Sg)) (hk23 : ∀ (c4 : Int32) (τ : Sg), k23 c4 τ = some (xr, σr) → RN G M_L_law 23 [some (.ref v0), some (.ref v1), some (.ref v2), some (.ref v3), some (.int c4)] [] τ (.inl (some (.int xr))) σr) (h : b_L_law_828 k23 n v0 v1 v2 v3 v4 σ = some (xr, σr)) : RN G M_L_law 828 [some (.ref v0), some (.ref v1), some (.ref v2), some (.ref v3), some (.int v4)] [] σ (.inl (some (.int xr))) σr := by
  unfold b_L_law_828 at h
  refine RN_aload_n (pc := 828) (k := 1) (by decide +kernel) rfl rfl ?_
  refine RN_aload_n (pc := 829) (k := 0) (by decide +kernel) rfl rfl ?_
  refine RN_iload (pc := 830) (i := 4) (by decide +kernel) rfl ?_
  refine RN_iconst (pc := 832) (n := 1) (v := 1) (by decide +kernel) (by decide) ?_
  refine RN_iadd (pc := 833) (by decide +kernel) ?_
  obtain ⟨c672, h⟩ := ck_el h
  refine RN_iald (pc := 834) (by decide +kernel) c672 ?_
  refine RN_aload_n (pc := 835) (k := 0) (by decide +kernel) rfl rfl ?_
  refine RN_iload (pc := 836) (i := 4) (by decide +kernel) rfl ?_
  refine RN_iconst (pc := 838) (n := 2) (v := 2) (by decide +kernel) (by decide) ?_
  refine RN_iadd (pc := 839) (by decide +kernel) ?_
  obtain ⟨c673, h⟩ := ck_el h
  refine RN_iald (pc := 840) (by decide +kernel) c673 ?_
  refine RN_aload_n (pc := 841) (k := 3) (by decide +kernel) rfl rfl ?_
  obtain ⟨x676, σ675, f674, h⟩ := bd_el h
  refine RN_callH (M := M_L_law) (M2 := M_L_carried) (pc := 842) (idx := 117) (n := 4) (as := [.ref v1, .int (gI σ v0 (v4 + (1 : Int32)).toNatClampNeg), .int (gI σ v0 (v4 + (2 : Int32)).toNatClampNeg), .ref v3]) (st := []) (t_L_carried f674) (by decide +kernel) lk_RL_117_1 lk_RL_117_2 lk_RL_117_3 lk_RL_117_4 ⟨by decide, by decide, by decide +kernel⟩ rfl (Nat.le_of_ble_eq_true rfl) ⟨Nat.le_of_ble_eq_true rfl, Nat.le_of_ble_eq_true rfl⟩ rfl ?_
  show RN G M_L_law 845 [some (.ref v0), some (.ref v1), some (.ref v2), some (.ref v3), some (.int v4)] [.int x676] σ675 _ _
  refine RN_istore (pc := 845) (i := 5) (ls2 := [some (.ref v0), some (.ref v1), some (.ref v2), some (.ref v3), some (.int v4), some (.int x676)]) (by decide +kernel) (by decide) rfl ?_
  refine RN_aload_n (pc := 847) (k := 2) (by decide +kernel) rfl rfl ?_
  refine RN_aload_n (pc := 848) (k := 0) (by decide +kernel) rfl rfl ?_
  refine RN_iload (pc := 849) (i := 4) (by decide +kernel) rfl ?_
  refine RN_iconst (pc := 851) (n := 1) (v := 1) (by decide +kernel) (by decide) ?_
  refine RN_iadd (pc := 852) (by decide +kernel) ?_
  obtain ⟨c677, h⟩ := ck_el h
  refine RN_iald (pc := 853) (by decide +kernel) c677 ?_
  refine RN_aload_n (pc := 854) (k := 0) (by decide +kernel) rfl rfl ?_
  refine RN_iload (pc := 855) (i := 4) (by decide +kernel) rfl ?_
  refine RN_iconst (pc := 857) (n := 2) (v := 2) (by decide +kernel) (by decide) ?_
  refine RN_iadd (pc := 858) (by decide +kernel) ?_
  obtain ⟨c678, h⟩ := ck_el h
  refine RN_iald (pc := 859) (by decide +kernel) c678 ?_
  obtain ⟨c679, h⟩ := ck_el h
  obtain ⟨x682, σ681, f680, h⟩ := bd_el h
  refine RN_callV (M := M_L_law) (pc := 860) (idx := 119) (as := [.int (gI σ675 v0 (v4 + (1 : Int32)).toNatClampNeg), .int (gI σ675 v0 (v4 + (2 : Int32)).toNatClampNeg)]) (st := []) (t_X12_carried f680) (by decide +kernel) lk_RL_119 rfl ⟨by decide, fun q hq => by cases hq; rfl⟩ c679 (Nat.le_of_ble_eq_true rfl) ⟨Nat.le_of_ble_eq_true rfl, Nat.le_of_ble_eq_true rfl⟩ rfl ?_
  show RN G M_L_law 863 [some (.ref v0), some (.ref v1), some (.ref v2), some (.ref v3), some (.int v4), some (.int x676)] [.long x682] σ681 _ _
  refine RN_lstore (pc := 863) (i := 6) (ls2 := [some (.ref v0), some (.ref v1), some (.ref v2), some (.ref v3), some (.int v4), some (.int x676), some (.long x682), none]) (by decide +kernel) (by decide) rfl ?_
  refine RN_aload_n (pc := 865) (k := 2) (by decide +kernel) rfl rfl ?_
  obtain ⟨c683, h⟩ := ck_el h
  obtain ⟨x685, f684, h⟩ := bp_el h
  refine RN_callV (M := M_L_law) (pc := 866) (idx := 104) (as := []) (st := []) (t_X12_thrown f684) (by decide +kernel) lk_RL_104 rfl ⟨by decide, fun q hq => by cases hq; rfl⟩ c683 (Nat.le_of_ble_eq_true rfl) ⟨Nat.le_of_ble_eq_true rfl, Nat.le_of_ble_eq_true rfl⟩ rfl ?_
  show RN G M_L_law 869 [some (.ref v0), some (.ref v1), some (.ref v2), some (.ref v3), some (.int v4), some (.int x676), some (.long x682), none] [.int x685] σ681 _ _
  refine RN_iload (pc := 869) (i := 5) (by decide +kernel) rfl ?_
  refine RN_icmp_eq (pc := 871) (off := 5) (tgt := 876) (by decide +kernel) (by decide) (fun c686 => ?_) (fun c686 => ?_)
  · replace h := it_t c686 h
    refine RN_iload (pc := 876) (i := 5) (by decide +kernel) rfl ?_
    refine RN_if_ne (pc := 878) (off := 14) (tgt := 892) (by decide +kernel) (by decide) (fun c687 => ?_) (fun c687 => ?_)
    · replace h := it_f c687 h
      exact RN_weak (l := [some (.ref v0), some (.ref v1), some (.ref v2), some (.ref v3), some (.int v4)]) (And.intro rfl (And.intro rfl (And.intro rfl (And.intro rfl (And.intro rfl trivial))))) (tb_L_law_892 n v0 v1 v2 v3 v4 σ681 k23 hk23 h)
    · replace h := it_t c687 h
      refine RN_aload_n (pc := 881) (k := 3) (by decide +kernel) rfl rfl ?_
      refine RN_iconst (pc := 882) (n := 0) (v := 0) (by decide +kernel) (by decide) ?_
      obtain ⟨c688, h⟩ := ck_el h
      refine RN_lald (pc := 883) (by decide +kernel) c688 ?_
      refine RN_lload (pc := 884) (i := 6) (by decide +kernel) rfl ?_
      refine RN_lc_eq (pc := 886) (off := 5) (tgt := 892) (by decide +kernel) (by decide +kernel) (by decide) (fun c689 => ?_) (fun c689 => ?_)
      · replace h := it_t c689 h
        exact RN_weak (l := [some (.ref v0), some (.ref v1), some (.ref v2), some (.ref v3), some (.int v4)]) (And.intro rfl (And.intro rfl (And.intro rfl (And.intro rfl (And.intro rfl trivial))))) (tb_L_law_892 n v0 v1 v2 v3 v4 σ681 k23 hk23 h)
      · replace h := it_f c689 h
        refine RN_iconst (pc := 890) (n := 0) (v := 0) (by decide +kernel) (by decide) ?_
        obtain ⟨rfl, rfl⟩ := some_el2 h
        exact RN_zreturn (by decide +kernel) rfl (Or.inl rfl)
  · replace h := it_f c686 h
    refine RN_iconst (pc := 874) (n := 0) (v := 0) (by decide +kernel) (by decide) ?_
    obtain ⟨rfl, rfl⟩ := some_el2 h
    exact RN_zreturn (by decide +kernel) rfl (Or.inl rfl)
def b_L_law_895 (k23 : Int32 → Sg → Option (Int32 × Sg)) (n : Nat) (v0 : Nat) (v1 : Nat) (v2 : Nat) (v3 : Nat) (v4 : Int32) (σ : Sg) : Option (Int32 × Sg) :=
  ck (okA σ v0 13 (v4 + (1 : Int32))) <|
  ck (okA σ v0 13 (v4 + (2 : Int32))) <|
  ck (okA σ v0 13 (v4 + (3 : Int32))) <|
  ck (okA σ v0 13 (v4 + (4 : Int32))) <|
  ck (okA σ v0 13 (v4 + (5 : Int32))) <|
  ck (okO σ v1 10) <|
  bd (f_X11_least n v1 (gI σ v0 (v4 + (1 : Int32)).toNatClampNeg) (gI σ v0 (v4 + (2 : Int32)).toNatClampNeg) (gI σ v0 (v4 + (3 : Int32)).toNatClampNeg) (gI σ v0 (v4 + (4 : Int32)).toNatClampNeg) (gI σ v0 (v4 + (5 : Int32)).toNatClampNeg) σ) fun x699 σ698 =>
  ck (okA σ698 v0 13 (v4 + (1 : Int32))) <|
  ck (okA σ698 v0 13 (v4 + (2 : Int32))) <|
  ck (okA σ698 v0 13 (v4 + (3 : Int32))) <|
  ck (okA σ698 v0 13 (v4 + (4 : Int32))) <|
  ck (okA σ698 v0 13 (v4 + (5 : Int32))) <|
  ck (okO σ698 v2 11) <|
  bd (f_X12_least n v2 (gI σ698 v0 (v4 + (1 : Int32)).toNatClampNeg) (gI σ698 v0 (v4 + (2 : Int32)).toNatClampNeg) (gI σ698 v0 (v4 + (3 : Int32)).toNatClampNeg) (gI σ698 v0 (v4 + (4 : Int32)).toNatClampNeg) (gI σ698 v0 (v4 + (5 : Int32)).toNatClampNeg) σ698) fun x708 σ707 =>
  if x699 = x708 then (
    b_L_law_1762 k23 n v0 v1 v2 v3 v4 σ707)
  else (
    some ((0 : Int32), σ707))
set_option maxRecDepth 20000 in
theorem tb_L_law_895 {G : Gl} {xr : Int32} {σr : Sg} (n : Nat) (v0 : Nat) (v1 : Nat) (v2 : Nat) (v3 : Nat) (v4 : Int32) (σ : Sg) (k23 : Int32 → Sg → Option (Int32 × Sg)) (hk23 : ∀ (c4 : Int32) (τ : Sg), k23 c4 τ = some (xr, σr) → RN G M_L_law 23 [some (.ref v0), some (.ref v1), some (.ref v2), some (.ref v3), some (.int c4)] [] τ (.inl (some (.int xr))) σr) (h : b_L_law_895 k23 n v0 v1 v2 v3 v4 σ = some (xr, σr)) : RN G M_L_law 895 [some (.ref v0), some (.ref v1), some (.ref v2), some (.ref v3), some (.int v4)] [] σ (.inl (some (.int xr))) σr := by
  unfold b_L_law_895 at h
  refine RN_aload_n (pc := 895) (k := 1) (by decide +kernel) rfl rfl ?_
  refine RN_aload_n (pc := 896) (k := 0) (by decide +kernel) rfl rfl ?_
  refine RN_iload (pc := 897) (i := 4) (by decide +kernel) rfl ?_
  refine RN_iconst (pc := 899) (n := 1) (v := 1) (by decide +kernel) (by decide) ?_
  refine RN_iadd (pc := 900) (by decide +kernel) ?_
  obtain ⟨c691, h⟩ := ck_el h
  refine RN_iald (pc := 901) (by decide +kernel) c691 ?_
  refine RN_aload_n (pc := 902) (k := 0) (by decide +kernel) rfl rfl ?_
  refine RN_iload (pc := 903) (i := 4) (by decide +kernel) rfl ?_
  refine RN_iconst (pc := 905) (n := 2) (v := 2) (by decide +kernel) (by decide) ?_
  refine RN_iadd (pc := 906) (by decide +kernel) ?_
  obtain ⟨c692, h⟩ := ck_el h
  refine RN_iald (pc := 907) (by decide +kernel) c692 ?_
  refine RN_aload_n (pc := 908) (k := 0) (by decide +kernel) rfl rfl ?_
  refine RN_iload (pc := 909) (i := 4) (by decide +kernel) rfl ?_
  refine RN_iconst (pc := 911) (n := 3) (v := 3) (by decide +kernel) (by decide) ?_
  refine RN_iadd (pc := 912) (by decide +kernel) ?_
  obtain ⟨c693, h⟩ := ck_el h
  refine RN_iald (pc := 913) (by decide +kernel) c693 ?_
  refine RN_aload_n (pc := 914) (k := 0) (by decide +kernel) rfl rfl ?_
  refine RN_iload (pc := 915) (i := 4) (by decide +kernel) rfl ?_
  refine RN_iconst (pc := 917) (n := 4) (v := 4) (by decide +kernel) (by decide) ?_
  refine RN_iadd (pc := 918) (by decide +kernel) ?_
  obtain ⟨c694, h⟩ := ck_el h
  refine RN_iald (pc := 919) (by decide +kernel) c694 ?_
  refine RN_aload_n (pc := 920) (k := 0) (by decide +kernel) rfl rfl ?_
  refine RN_iload (pc := 921) (i := 4) (by decide +kernel) rfl ?_
  refine RN_iconst (pc := 923) (n := 5) (v := 5) (by decide +kernel) (by decide) ?_
  refine RN_iadd (pc := 924) (by decide +kernel) ?_
  obtain ⟨c695, h⟩ := ck_el h
  refine RN_iald (pc := 925) (by decide +kernel) c695 ?_
  obtain ⟨c696, h⟩ := ck_el h
  obtain ⟨x699, σ698, f697, h⟩ := bd_el h
  refine RN_callV (M := M_L_law) (pc := 926) (idx := 120) (as := [.int (gI σ v0 (v4 + (1 : Int32)).toNatClampNeg), .int (gI σ v0 (v4 + (2 : Int32)).toNatClampNeg), .int (gI σ v0 (v4 + (3 : Int32)).toNatClampNeg), .int (gI σ v0 (v4 + (4 : Int32)).toNatClampNeg), .int (gI σ v0 (v4 + (5 : Int32)).toNatClampNeg)]) (st := []) (t_X11_least f697) (by decide +kernel) lk_RL_120 rfl ⟨by decide, fun q hq => by cases hq; rfl⟩ c696 (Nat.le_of_ble_eq_true rfl) ⟨Nat.le_of_ble_eq_true rfl, Nat.le_of_ble_eq_true rfl⟩ rfl ?_
  show RN G M_L_law 929 [some (.ref v0), some (.ref v1), some (.ref v2), some (.ref v3), some (.int v4)] [.int x699] σ698 _ _
  refine RN_aload_n (pc := 929) (k := 2) (by decide +kernel) rfl rfl ?_
  refine RN_aload_n (pc := 930) (k := 0) (by decide +kernel) rfl rfl ?_
  refine RN_iload (pc := 931) (i := 4) (by decide +kernel) rfl ?_
  refine RN_iconst (pc := 933) (n := 1) (v := 1) (by decide +kernel) (by decide) ?_
  refine RN_iadd (pc := 934) (by decide +kernel) ?_
  obtain ⟨c700, h⟩ := ck_el h
  refine RN_iald (pc := 935) (by decide +kernel) c700 ?_
  refine RN_aload_n (pc := 936) (k := 0) (by decide +kernel) rfl rfl ?_
  refine RN_iload (pc := 937) (i := 4) (by decide +kernel) rfl ?_
  refine RN_iconst (pc := 939) (n := 2) (v := 2) (by decide +kernel) (by decide) ?_
  refine RN_iadd (pc := 940) (by decide +kernel) ?_
  obtain ⟨c701, h⟩ := ck_el h
  refine RN_iald (pc := 941) (by decide +kernel) c701 ?_
  refine RN_aload_n (pc := 942) (k := 0) (by decide +kernel) rfl rfl ?_
  refine RN_iload (pc := 943) (i := 4) (by decide +kernel) rfl ?_
  refine RN_iconst (pc := 945) (n := 3) (v := 3) (by decide +kernel) (by decide) ?_
  refine RN_iadd (pc := 946) (by decide +kernel) ?_
  obtain ⟨c702, h⟩ := ck_el h
  refine RN_iald (pc := 947) (by decide +kernel) c702 ?_
  refine RN_aload_n (pc := 948) (k := 0) (by decide +kernel) rfl rfl ?_
  refine RN_iload (pc := 949) (i := 4) (by decide +kernel) rfl ?_
  refine RN_iconst (pc := 951) (n := 4) (v := 4) (by decide +kernel) (by decide) ?_
  refine RN_iadd (pc := 952) (by decide +kernel) ?_
  obtain ⟨c703, h⟩ := ck_el h
  refine RN_iald (pc := 953) (by decide +kernel) c703 ?_
  refine RN_aload_n (pc := 954) (k := 0) (by decide +kernel) rfl rfl ?_
  refine RN_iload (pc := 955) (i := 4) (by decide +kernel) rfl ?_
  refine RN_iconst (pc := 957) (n := 5) (v := 5) (by decide +kernel) (by decide) ?_
  refine RN_iadd (pc := 958) (by decide +kernel) ?_
  obtain ⟨c704, h⟩ := ck_el h
  refine RN_iald (pc := 959) (by decide +kernel) c704 ?_
  obtain ⟨c705, h⟩ := ck_el h
  obtain ⟨x708, σ707, f706, h⟩ := bd_el h
  refine RN_callV (M := M_L_law) (pc := 960) (idx := 123) (as := [.int (gI σ698 v0 (v4 + (1 : Int32)).toNatClampNeg), .int (gI σ698 v0 (v4 + (2 : Int32)).toNatClampNeg), .int (gI σ698 v0 (v4 + (3 : Int32)).toNatClampNeg), .int (gI σ698 v0 (v4 + (4 : Int32)).toNatClampNeg), .int (gI σ698 v0 (v4 + (5 : Int32)).toNatClampNeg)]) (st := [.int x699]) (t_X12_least f706) (by decide +kernel) lk_RL_123 rfl ⟨by decide, fun q hq => by cases hq; rfl⟩ c705 (Nat.le_of_ble_eq_true rfl) ⟨Nat.le_of_ble_eq_true rfl, Nat.le_of_ble_eq_true rfl⟩ rfl ?_
  show RN G M_L_law 963 [some (.ref v0), some (.ref v1), some (.ref v2), some (.ref v3), some (.int v4)] [.int x708, .int x699] σ707 _ _
  refine RN_icmp_eq (pc := 963) (off := 799) (tgt := 1762) (by decide +kernel) (by decide) (fun c709 => ?_) (fun c709 => ?_)
  · replace h := it_t c709 h
    exact RN_weak (l := [some (.ref v0), some (.ref v1), some (.ref v2), some (.ref v3), some (.int v4)]) (And.intro rfl (And.intro rfl (And.intro rfl (And.intro rfl (And.intro rfl trivial))))) (tb_L_law_1762 n v0 v1 v2 v3 v4 σ707 k23 hk23 h)
  · replace h := it_f c709 h
    refine RN_iconst (pc := 966) (n := 0) (v := 0) (by decide +kernel) (by decide) ?_
    obtain ⟨rfl, rfl⟩ := some_el2 h
    exact RN_zreturn (by decide +kernel) rfl (Or.inl rfl)
def b_L_law_968 (k23 : Int32 → Sg → Option (Int32 × Sg)) (n : Nat) (v0 : Nat) (v1 : Nat) (v2 : Nat) (v3 : Nat) (v4 : Int32) (σ : Sg) : Option (Int32 × Sg) :=
  ck (okA σ v0 13 (v4 + (1 : Int32))) <|
  ck (okO σ v1 10) <|
  bd (f_X11_order n v1 (gI σ v0 (v4 + (1 : Int32)).toNatClampNeg) σ) fun x715 σ714 =>
  ck (okA σ714 v0 13 (v4 + (1 : Int32))) <|
  ck (okO σ714 v2 11) <|
  bd (f_X12_order n v2 (gI σ714 v0 (v4 + (1 : Int32)).toNatClampNeg) σ714) fun x720 σ719 =>
  if x715 = x720 then (
    b_L_law_1762 k23 n v0 v1 v2 v3 v4 σ719)
  else (
    some ((0 : Int32), σ719))
set_option maxRecDepth 20000 in
theorem tb_L_law_968 {G : Gl} {xr : Int32} {σr : Sg} (n : Nat) (v0 : Nat) (v1 : Nat) (v2 : Nat) (v3 : Nat) (v4 : Int32) (σ : Sg) (k23 : Int32 → Sg → Option (Int32 × Sg)) (hk23 : ∀ (c4 : Int32) (τ : Sg), k23 c4 τ = some (xr, σr) → RN G M_L_law 23 [some (.ref v0), some (.ref v1), some (.ref v2), some (.ref v3), some (.int c4)] [] τ (.inl (some (.int xr))) σr) (h : b_L_law_968 k23 n v0 v1 v2 v3 v4 σ = some (xr, σr)) : RN G M_L_law 968 [some (.ref v0), some (.ref v1), some (.ref v2), some (.ref v3), some (.int v4)] [] σ (.inl (some (.int xr))) σr := by
  unfold b_L_law_968 at h
  refine RN_aload_n (pc := 968) (k := 1) (by decide +kernel) rfl rfl ?_
  refine RN_aload_n (pc := 969) (k := 0) (by decide +kernel) rfl rfl ?_
  refine RN_iload (pc := 970) (i := 4) (by decide +kernel) rfl ?_
  refine RN_iconst (pc := 972) (n := 1) (v := 1) (by decide +kernel) (by decide) ?_
  refine RN_iadd (pc := 973) (by decide +kernel) ?_
  obtain ⟨c711, h⟩ := ck_el h
  refine RN_iald (pc := 974) (by decide +kernel) c711 ?_
  obtain ⟨c712, h⟩ := ck_el h
  obtain ⟨x715, σ714, f713, h⟩ := bd_el h
  refine RN_callV (M := M_L_law) (pc := 975) (idx := 124) (as := [.int (gI σ v0 (v4 + (1 : Int32)).toNatClampNeg)]) (st := []) (t_X11_order f713) (by decide +kernel) lk_RL_124 rfl ⟨by decide, fun q hq => by cases hq; rfl⟩ c712 (Nat.le_of_ble_eq_true rfl) ⟨Nat.le_of_ble_eq_true rfl, Nat.le_of_ble_eq_true rfl⟩ rfl ?_
  show RN G M_L_law 978 [some (.ref v0), some (.ref v1), some (.ref v2), some (.ref v3), some (.int v4)] [.int x715] σ714 _ _
  refine RN_aload_n (pc := 978) (k := 2) (by decide +kernel) rfl rfl ?_
  refine RN_aload_n (pc := 979) (k := 0) (by decide +kernel) rfl rfl ?_
  refine RN_iload (pc := 980) (i := 4) (by decide +kernel) rfl ?_
  refine RN_iconst (pc := 982) (n := 1) (v := 1) (by decide +kernel) (by decide) ?_
  refine RN_iadd (pc := 983) (by decide +kernel) ?_
  obtain ⟨c716, h⟩ := ck_el h
  refine RN_iald (pc := 984) (by decide +kernel) c716 ?_
  obtain ⟨c717, h⟩ := ck_el h
  obtain ⟨x720, σ719, f718, h⟩ := bd_el h
  refine RN_callV (M := M_L_law) (pc := 985) (idx := 127) (as := [.int (gI σ714 v0 (v4 + (1 : Int32)).toNatClampNeg)]) (st := [.int x715]) (t_X12_order f718) (by decide +kernel) lk_RL_127 rfl ⟨by decide, fun q hq => by cases hq; rfl⟩ c717 (Nat.le_of_ble_eq_true rfl) ⟨Nat.le_of_ble_eq_true rfl, Nat.le_of_ble_eq_true rfl⟩ rfl ?_
  show RN G M_L_law 988 [some (.ref v0), some (.ref v1), some (.ref v2), some (.ref v3), some (.int v4)] [.int x720, .int x715] σ719 _ _
  refine RN_icmp_eq (pc := 988) (off := 774) (tgt := 1762) (by decide +kernel) (by decide) (fun c721 => ?_) (fun c721 => ?_)
  · replace h := it_t c721 h
    exact RN_weak (l := [some (.ref v0), some (.ref v1), some (.ref v2), some (.ref v3), some (.int v4)]) (And.intro rfl (And.intro rfl (And.intro rfl (And.intro rfl (And.intro rfl trivial))))) (tb_L_law_1762 n v0 v1 v2 v3 v4 σ719 k23 hk23 h)
  · replace h := it_f c721 h
    refine RN_iconst (pc := 991) (n := 0) (v := 0) (by decide +kernel) (by decide) ?_
    obtain ⟨rfl, rfl⟩ := some_el2 h
    exact RN_zreturn (by decide +kernel) rfl (Or.inl rfl)
def b_L_law_1094 (k23 : Int32 → Sg → Option (Int32 × Sg)) (n : Nat) (v0 : Nat) (v1 : Nat) (v2 : Nat) (v3 : Nat) (v4 : Int32) (σ : Sg) : Option (Int32 × Sg) :=
  b_L_law_1762 k23 n v0 v1 v2 v3 v4 σ
set_option maxRecDepth 20000 in
theorem tb_L_law_1094 {G : Gl} {xr : Int32} {σr : Sg} (n : Nat) (v0 : Nat) (v1 : Nat) (v2 : Nat) (v3 : Nat) (v4 : Int32) (σ : Sg) (k23 : Int32 → Sg → Option (Int32 × Sg)) (hk23 : ∀ (c4 : Int32) (τ : Sg), k23 c4 τ = some (xr, σr) → RN G M_L_law 23 [some (.ref v0), some (.ref v1), some (.ref v2), some (.ref v3), some (.int c4)] [] τ (.inl (some (.int xr))) σr) (h : b_L_law_1094 k23 n v0 v1 v2 v3 v4 σ = some (xr, σr)) : RN G M_L_law 1094 [some (.ref v0), some (.ref v1), some (.ref v2), some (.ref v3), some (.int v4)] [] σ (.inl (some (.int xr))) σr := by
  unfold b_L_law_1094 at h
  refine RN_goto (pc := 1094) (off := 668) (tgt := 1762) (by decide +kernel) (by decide) ?_
  exact RN_weak (l := [some (.ref v0), some (.ref v1), some (.ref v2), some (.ref v3), some (.int v4)]) (And.intro rfl (And.intro rfl (And.intro rfl (And.intro rfl (And.intro rfl trivial))))) (tb_L_law_1762 n v0 v1 v2 v3 v4 σ k23 hk23 h)
def b_L_law_993 (k23 : Int32 → Sg → Option (Int32 × Sg)) (n : Nat) (v0 : Nat) (v1 : Nat) (v2 : Nat) (v3 : Nat) (v4 : Int32) (σ : Sg) : Option (Int32 × Sg) :=
  ck (okA σ v0 13 (v4 + (1 : Int32))) <|
  ck (okA σ v0 13 (v4 + (2 : Int32))) <|
  ck (okA σ v0 13 (v4 + (3 : Int32))) <|
  ck (okA σ v0 13 (v4 + (4 : Int32))) <|
  ck (okA σ v0 13 (v4 + (5 : Int32))) <|
  bd (f_L_drift n v1 (gI σ v0 (v4 + (1 : Int32)).toNatClampNeg) (gI σ v0 (v4 + (2 : Int32)).toNatClampNeg) (gI σ v0 (v4 + (3 : Int32)).toNatClampNeg) (gI σ v0 (v4 + (4 : Int32)).toNatClampNeg) (gI σ v0 (v4 + (5 : Int32)).toNatClampNeg) v3 σ) fun x730 σ729 =>
  ck (okA σ729 v0 13 (v4 + (1 : Int32))) <|
  ck (okA σ729 v0 13 (v4 + (2 : Int32))) <|
  ck (okA σ729 v0 13 (v4 + (3 : Int32))) <|
  ck (okA σ729 v0 13 (v4 + (4 : Int32))) <|
  ck (okA σ729 v0 13 (v4 + (5 : Int32))) <|
  ck (okO σ729 v2 11) <|
  bd (f_X12_drift n v2 (gI σ729 v0 (v4 + (1 : Int32)).toNatClampNeg) (gI σ729 v0 (v4 + (2 : Int32)).toNatClampNeg) (gI σ729 v0 (v4 + (3 : Int32)).toNatClampNeg) (gI σ729 v0 (v4 + (4 : Int32)).toNatClampNeg) (gI σ729 v0 (v4 + (5 : Int32)).toNatClampNeg) σ729) fun x739 σ738 =>
  ck (okO σ738 v2 11) <|
  bp (f_X12_thrown v2 σ738) fun x742 =>
  if x742 = x730 then (
    if x730 = 0 then (
      ck (okA σ738 v3 14 (0 : Int32)) <|
      if (gJ σ738 v3 (0 : Int32).toNatClampNeg) = (x739.toInt64) then (
        b_L_law_1094 k23 n v0 v1 v2 v3 v4 σ738)
      else (
        some ((0 : Int32), σ738)))
    else (
      b_L_law_1094 k23 n v0 v1 v2 v3 v4 σ738))
  else (
    some ((0 : Int32), σ738))
set_option maxRecDepth 20000 in
theorem tb_L_law_993 {G : Gl} {xr : Int32} {σr : Sg} (n : Nat) (v0 : Nat) (v1 : Nat) (v2 : Nat) (v3 : Nat) (v4 : Int32) (σ : Sg) (k23 : Int32 → Sg → Option (Int32 × Sg)) (hk23 : ∀ (c4 : Int32) (τ : Sg), k23 c4 τ = some (xr, σr) → RN G M_L_law 23 [some (.ref v0), some (.ref v1), some (.ref v2), some (.ref v3), some (.int c4)] [] τ (.inl (some (.int xr))) σr) (h : b_L_law_993 k23 n v0 v1 v2 v3 v4 σ = some (xr, σr)) : RN G M_L_law 993 [some (.ref v0), some (.ref v1), some (.ref v2), some (.ref v3), some (.int v4)] [] σ (.inl (some (.int xr))) σr := by
  unfold b_L_law_993 at h
  refine RN_aload_n (pc := 993) (k := 1) (by decide +kernel) rfl rfl ?_
  refine RN_aload_n (pc := 994) (k := 0) (by decide +kernel) rfl rfl ?_
  refine RN_iload (pc := 995) (i := 4) (by decide +kernel) rfl ?_
  refine RN_iconst (pc := 997) (n := 1) (v := 1) (by decide +kernel) (by decide) ?_
  refine RN_iadd (pc := 998) (by decide +kernel) ?_
  obtain ⟨c723, h⟩ := ck_el h
  refine RN_iald (pc := 999) (by decide +kernel) c723 ?_
  refine RN_aload_n (pc := 1000) (k := 0) (by decide +kernel) rfl rfl ?_
  refine RN_iload (pc := 1001) (i := 4) (by decide +kernel) rfl ?_
  refine RN_iconst (pc := 1003) (n := 2) (v := 2) (by decide +kernel) (by decide) ?_
  refine RN_iadd (pc := 1004) (by decide +kernel) ?_
  obtain ⟨c724, h⟩ := ck_el h
  refine RN_iald (pc := 1005) (by decide +kernel) c724 ?_
  refine RN_aload_n (pc := 1006) (k := 0) (by decide +kernel) rfl rfl ?_
  refine RN_iload (pc := 1007) (i := 4) (by decide +kernel) rfl ?_
  refine RN_iconst (pc := 1009) (n := 3) (v := 3) (by decide +kernel) (by decide) ?_
  refine RN_iadd (pc := 1010) (by decide +kernel) ?_
  obtain ⟨c725, h⟩ := ck_el h
  refine RN_iald (pc := 1011) (by decide +kernel) c725 ?_
  refine RN_aload_n (pc := 1012) (k := 0) (by decide +kernel) rfl rfl ?_
  refine RN_iload (pc := 1013) (i := 4) (by decide +kernel) rfl ?_
  refine RN_iconst (pc := 1015) (n := 4) (v := 4) (by decide +kernel) (by decide) ?_
  refine RN_iadd (pc := 1016) (by decide +kernel) ?_
  obtain ⟨c726, h⟩ := ck_el h
  refine RN_iald (pc := 1017) (by decide +kernel) c726 ?_
  refine RN_aload_n (pc := 1018) (k := 0) (by decide +kernel) rfl rfl ?_
  refine RN_iload (pc := 1019) (i := 4) (by decide +kernel) rfl ?_
  refine RN_iconst (pc := 1021) (n := 5) (v := 5) (by decide +kernel) (by decide) ?_
  refine RN_iadd (pc := 1022) (by decide +kernel) ?_
  obtain ⟨c727, h⟩ := ck_el h
  refine RN_iald (pc := 1023) (by decide +kernel) c727 ?_
  refine RN_aload_n (pc := 1024) (k := 3) (by decide +kernel) rfl rfl ?_
  obtain ⟨x730, σ729, f728, h⟩ := bd_el h
  refine RN_callH (M := M_L_law) (M2 := M_L_drift) (pc := 1025) (idx := 128) (n := 7) (as := [.ref v1, .int (gI σ v0 (v4 + (1 : Int32)).toNatClampNeg), .int (gI σ v0 (v4 + (2 : Int32)).toNatClampNeg), .int (gI σ v0 (v4 + (3 : Int32)).toNatClampNeg), .int (gI σ v0 (v4 + (4 : Int32)).toNatClampNeg), .int (gI σ v0 (v4 + (5 : Int32)).toNatClampNeg), .ref v3]) (st := []) (t_L_drift f728) (by decide +kernel) lk_RL_128_1 lk_RL_128_2 lk_RL_128_3 lk_RL_128_4 ⟨by decide, by decide, by decide +kernel⟩ rfl (Nat.le_of_ble_eq_true rfl) ⟨Nat.le_of_ble_eq_true rfl, Nat.le_of_ble_eq_true rfl⟩ rfl ?_
  show RN G M_L_law 1028 [some (.ref v0), some (.ref v1), some (.ref v2), some (.ref v3), some (.int v4)] [.int x730] σ729 _ _
  refine RN_istore (pc := 1028) (i := 5) (ls2 := [some (.ref v0), some (.ref v1), some (.ref v2), some (.ref v3), some (.int v4), some (.int x730)]) (by decide +kernel) (by decide) rfl ?_
  refine RN_aload_n (pc := 1030) (k := 2) (by decide +kernel) rfl rfl ?_
  refine RN_aload_n (pc := 1031) (k := 0) (by decide +kernel) rfl rfl ?_
  refine RN_iload (pc := 1032) (i := 4) (by decide +kernel) rfl ?_
  refine RN_iconst (pc := 1034) (n := 1) (v := 1) (by decide +kernel) (by decide) ?_
  refine RN_iadd (pc := 1035) (by decide +kernel) ?_
  obtain ⟨c731, h⟩ := ck_el h
  refine RN_iald (pc := 1036) (by decide +kernel) c731 ?_
  refine RN_aload_n (pc := 1037) (k := 0) (by decide +kernel) rfl rfl ?_
  refine RN_iload (pc := 1038) (i := 4) (by decide +kernel) rfl ?_
  refine RN_iconst (pc := 1040) (n := 2) (v := 2) (by decide +kernel) (by decide) ?_
  refine RN_iadd (pc := 1041) (by decide +kernel) ?_
  obtain ⟨c732, h⟩ := ck_el h
  refine RN_iald (pc := 1042) (by decide +kernel) c732 ?_
  refine RN_aload_n (pc := 1043) (k := 0) (by decide +kernel) rfl rfl ?_
  refine RN_iload (pc := 1044) (i := 4) (by decide +kernel) rfl ?_
  refine RN_iconst (pc := 1046) (n := 3) (v := 3) (by decide +kernel) (by decide) ?_
  refine RN_iadd (pc := 1047) (by decide +kernel) ?_
  obtain ⟨c733, h⟩ := ck_el h
  refine RN_iald (pc := 1048) (by decide +kernel) c733 ?_
  refine RN_aload_n (pc := 1049) (k := 0) (by decide +kernel) rfl rfl ?_
  refine RN_iload (pc := 1050) (i := 4) (by decide +kernel) rfl ?_
  refine RN_iconst (pc := 1052) (n := 4) (v := 4) (by decide +kernel) (by decide) ?_
  refine RN_iadd (pc := 1053) (by decide +kernel) ?_
  obtain ⟨c734, h⟩ := ck_el h
  refine RN_iald (pc := 1054) (by decide +kernel) c734 ?_
  refine RN_aload_n (pc := 1055) (k := 0) (by decide +kernel) rfl rfl ?_
  refine RN_iload (pc := 1056) (i := 4) (by decide +kernel) rfl ?_
  refine RN_iconst (pc := 1058) (n := 5) (v := 5) (by decide +kernel) (by decide) ?_
  refine RN_iadd (pc := 1059) (by decide +kernel) ?_
  obtain ⟨c735, h⟩ := ck_el h
  refine RN_iald (pc := 1060) (by decide +kernel) c735 ?_
  obtain ⟨c736, h⟩ := ck_el h
  obtain ⟨x739, σ738, f737, h⟩ := bd_el h
  refine RN_callV (M := M_L_law) (pc := 1061) (idx := 131) (as := [.int (gI σ729 v0 (v4 + (1 : Int32)).toNatClampNeg), .int (gI σ729 v0 (v4 + (2 : Int32)).toNatClampNeg), .int (gI σ729 v0 (v4 + (3 : Int32)).toNatClampNeg), .int (gI σ729 v0 (v4 + (4 : Int32)).toNatClampNeg), .int (gI σ729 v0 (v4 + (5 : Int32)).toNatClampNeg)]) (st := []) (t_X12_drift f737) (by decide +kernel) lk_RL_131 rfl ⟨by decide, fun q hq => by cases hq; rfl⟩ c736 (Nat.le_of_ble_eq_true rfl) ⟨Nat.le_of_ble_eq_true rfl, Nat.le_of_ble_eq_true rfl⟩ rfl ?_
  show RN G M_L_law 1064 [some (.ref v0), some (.ref v1), some (.ref v2), some (.ref v3), some (.int v4), some (.int x730)] [.int x739] σ738 _ _
  refine RN_istore (pc := 1064) (i := 6) (ls2 := [some (.ref v0), some (.ref v1), some (.ref v2), some (.ref v3), some (.int v4), some (.int x730), some (.int x739)]) (by decide +kernel) (by decide) rfl ?_
  refine RN_aload_n (pc := 1066) (k := 2) (by decide +kernel) rfl rfl ?_
  obtain ⟨c740, h⟩ := ck_el h
  obtain ⟨x742, f741, h⟩ := bp_el h
  refine RN_callV (M := M_L_law) (pc := 1067) (idx := 104) (as := []) (st := []) (t_X12_thrown f741) (by decide +kernel) lk_RL_104 rfl ⟨by decide, fun q hq => by cases hq; rfl⟩ c740 (Nat.le_of_ble_eq_true rfl) ⟨Nat.le_of_ble_eq_true rfl, Nat.le_of_ble_eq_true rfl⟩ rfl ?_
  show RN G M_L_law 1070 [some (.ref v0), some (.ref v1), some (.ref v2), some (.ref v3), some (.int v4), some (.int x730), some (.int x739)] [.int x742] σ738 _ _
  refine RN_iload (pc := 1070) (i := 5) (by decide +kernel) rfl ?_
  refine RN_icmp_eq (pc := 1072) (off := 5) (tgt := 1077) (by decide +kernel) (by decide) (fun c743 => ?_) (fun c743 => ?_)
  · replace h := it_t c743 h
    refine RN_iload (pc := 1077) (i := 5) (by decide +kernel) rfl ?_
    refine RN_if_ne (pc := 1079) (off := 15) (tgt := 1094) (by decide +kernel) (by decide) (fun c744 => ?_) (fun c744 => ?_)
    · replace h := it_f c744 h
      exact RN_weak (l := [some (.ref v0), some (.ref v1), some (.ref v2), some (.ref v3), some (.int v4)]) (And.intro rfl (And.intro rfl (And.intro rfl (And.intro rfl (And.intro rfl trivial))))) (tb_L_law_1094 n v0 v1 v2 v3 v4 σ738 k23 hk23 h)
    · replace h := it_t c744 h
      refine RN_aload_n (pc := 1082) (k := 3) (by decide +kernel) rfl rfl ?_
      refine RN_iconst (pc := 1083) (n := 0) (v := 0) (by decide +kernel) (by decide) ?_
      obtain ⟨c745, h⟩ := ck_el h
      refine RN_lald (pc := 1084) (by decide +kernel) c745 ?_
      refine RN_iload (pc := 1085) (i := 6) (by decide +kernel) rfl ?_
      refine RN_i2l (pc := 1087) (by decide +kernel) ?_
      refine RN_lc_eq (pc := 1088) (off := 5) (tgt := 1094) (by decide +kernel) (by decide +kernel) (by decide) (fun c746 => ?_) (fun c746 => ?_)
      · replace h := it_t c746 h
        exact RN_weak (l := [some (.ref v0), some (.ref v1), some (.ref v2), some (.ref v3), some (.int v4)]) (And.intro rfl (And.intro rfl (And.intro rfl (And.intro rfl (And.intro rfl trivial))))) (tb_L_law_1094 n v0 v1 v2 v3 v4 σ738 k23 hk23 h)
      · replace h := it_f c746 h
        refine RN_iconst (pc := 1092) (n := 0) (v := 0) (by decide +kernel) (by decide) ?_
        obtain ⟨rfl, rfl⟩ := some_el2 h
        exact RN_zreturn (by decide +kernel) rfl (Or.inl rfl)
  · replace h := it_f c743 h
    refine RN_iconst (pc := 1075) (n := 0) (v := 0) (by decide +kernel) (by decide) ?_
    obtain ⟨rfl, rfl⟩ := some_el2 h
    exact RN_zreturn (by decide +kernel) rfl (Or.inl rfl)
def b_L_law_1097 (k23 : Int32 → Sg → Option (Int32 × Sg)) (n : Nat) (v0 : Nat) (v1 : Nat) (v2 : Nat) (v3 : Nat) (v4 : Int32) (σ : Sg) : Option (Int32 × Sg) :=
  ck (okA σ v0 13 (v4 + (1 : Int32))) <|
  ck (okA σ v0 13 (v4 + (2 : Int32))) <|
  ck (okA σ v0 13 (v4 + (3 : Int32))) <|
  ck (okA σ v0 13 (v4 + (4 : Int32))) <|
  ck (okO σ v1 10) <|
  bd (f_X11_mend n v1 (gI σ v0 (v4 + (1 : Int32)).toNatClampNeg) (gI σ v0 (v4 + (2 : Int32)).toNatClampNeg) (gI σ v0 (v4 + (3 : Int32)).toNatClampNeg) (gI σ v0 (v4 + (4 : Int32)).toNatClampNeg) σ) fun x755 σ754 =>
  ck (okA σ754 v0 13 (v4 + (1 : Int32))) <|
  ck (okA σ754 v0 13 (v4 + (2 : Int32))) <|
  ck (okA σ754 v0 13 (v4 + (3 : Int32))) <|
  ck (okA σ754 v0 13 (v4 + (4 : Int32))) <|
  ck (okO σ754 v2 11) <|
  bd (f_X12_mend n v2 (gI σ754 v0 (v4 + (1 : Int32)).toNatClampNeg) (gI σ754 v0 (v4 + (2 : Int32)).toNatClampNeg) (gI σ754 v0 (v4 + (3 : Int32)).toNatClampNeg) (gI σ754 v0 (v4 + (4 : Int32)).toNatClampNeg) σ754) fun x763 σ762 =>
  if x755 = x763 then (
    b_L_law_1762 k23 n v0 v1 v2 v3 v4 σ762)
  else (
    some ((0 : Int32), σ762))
set_option maxRecDepth 20000 in
theorem tb_L_law_1097 {G : Gl} {xr : Int32} {σr : Sg} (n : Nat) (v0 : Nat) (v1 : Nat) (v2 : Nat) (v3 : Nat) (v4 : Int32) (σ : Sg) (k23 : Int32 → Sg → Option (Int32 × Sg)) (hk23 : ∀ (c4 : Int32) (τ : Sg), k23 c4 τ = some (xr, σr) → RN G M_L_law 23 [some (.ref v0), some (.ref v1), some (.ref v2), some (.ref v3), some (.int c4)] [] τ (.inl (some (.int xr))) σr) (h : b_L_law_1097 k23 n v0 v1 v2 v3 v4 σ = some (xr, σr)) : RN G M_L_law 1097 [some (.ref v0), some (.ref v1), some (.ref v2), some (.ref v3), some (.int v4)] [] σ (.inl (some (.int xr))) σr := by
  unfold b_L_law_1097 at h
  refine RN_aload_n (pc := 1097) (k := 1) (by decide +kernel) rfl rfl ?_
  refine RN_aload_n (pc := 1098) (k := 0) (by decide +kernel) rfl rfl ?_
  refine RN_iload (pc := 1099) (i := 4) (by decide +kernel) rfl ?_
  refine RN_iconst (pc := 1101) (n := 1) (v := 1) (by decide +kernel) (by decide) ?_
  refine RN_iadd (pc := 1102) (by decide +kernel) ?_
  obtain ⟨c748, h⟩ := ck_el h
  refine RN_iald (pc := 1103) (by decide +kernel) c748 ?_
  refine RN_aload_n (pc := 1104) (k := 0) (by decide +kernel) rfl rfl ?_
  refine RN_iload (pc := 1105) (i := 4) (by decide +kernel) rfl ?_
  refine RN_iconst (pc := 1107) (n := 2) (v := 2) (by decide +kernel) (by decide) ?_
  refine RN_iadd (pc := 1108) (by decide +kernel) ?_
  obtain ⟨c749, h⟩ := ck_el h
  refine RN_iald (pc := 1109) (by decide +kernel) c749 ?_
  refine RN_aload_n (pc := 1110) (k := 0) (by decide +kernel) rfl rfl ?_
  refine RN_iload (pc := 1111) (i := 4) (by decide +kernel) rfl ?_
  refine RN_iconst (pc := 1113) (n := 3) (v := 3) (by decide +kernel) (by decide) ?_
  refine RN_iadd (pc := 1114) (by decide +kernel) ?_
  obtain ⟨c750, h⟩ := ck_el h
  refine RN_iald (pc := 1115) (by decide +kernel) c750 ?_
  refine RN_aload_n (pc := 1116) (k := 0) (by decide +kernel) rfl rfl ?_
  refine RN_iload (pc := 1117) (i := 4) (by decide +kernel) rfl ?_
  refine RN_iconst (pc := 1119) (n := 4) (v := 4) (by decide +kernel) (by decide) ?_
  refine RN_iadd (pc := 1120) (by decide +kernel) ?_
  obtain ⟨c751, h⟩ := ck_el h
  refine RN_iald (pc := 1121) (by decide +kernel) c751 ?_
  obtain ⟨c752, h⟩ := ck_el h
  obtain ⟨x755, σ754, f753, h⟩ := bd_el h
  refine RN_callV (M := M_L_law) (pc := 1122) (idx := 132) (as := [.int (gI σ v0 (v4 + (1 : Int32)).toNatClampNeg), .int (gI σ v0 (v4 + (2 : Int32)).toNatClampNeg), .int (gI σ v0 (v4 + (3 : Int32)).toNatClampNeg), .int (gI σ v0 (v4 + (4 : Int32)).toNatClampNeg)]) (st := []) (t_X11_mend f753) (by decide +kernel) lk_RL_132 rfl ⟨by decide, fun q hq => by cases hq; rfl⟩ c752 (Nat.le_of_ble_eq_true rfl) ⟨Nat.le_of_ble_eq_true rfl, Nat.le_of_ble_eq_true rfl⟩ rfl ?_
  show RN G M_L_law 1125 [some (.ref v0), some (.ref v1), some (.ref v2), some (.ref v3), some (.int v4)] [.int x755] σ754 _ _
  refine RN_aload_n (pc := 1125) (k := 2) (by decide +kernel) rfl rfl ?_
  refine RN_aload_n (pc := 1126) (k := 0) (by decide +kernel) rfl rfl ?_
  refine RN_iload (pc := 1127) (i := 4) (by decide +kernel) rfl ?_
  refine RN_iconst (pc := 1129) (n := 1) (v := 1) (by decide +kernel) (by decide) ?_
  refine RN_iadd (pc := 1130) (by decide +kernel) ?_
  obtain ⟨c756, h⟩ := ck_el h
  refine RN_iald (pc := 1131) (by decide +kernel) c756 ?_
  refine RN_aload_n (pc := 1132) (k := 0) (by decide +kernel) rfl rfl ?_
  refine RN_iload (pc := 1133) (i := 4) (by decide +kernel) rfl ?_
  refine RN_iconst (pc := 1135) (n := 2) (v := 2) (by decide +kernel) (by decide) ?_
  refine RN_iadd (pc := 1136) (by decide +kernel) ?_
  obtain ⟨c757, h⟩ := ck_el h
  refine RN_iald (pc := 1137) (by decide +kernel) c757 ?_
  refine RN_aload_n (pc := 1138) (k := 0) (by decide +kernel) rfl rfl ?_
  refine RN_iload (pc := 1139) (i := 4) (by decide +kernel) rfl ?_
  refine RN_iconst (pc := 1141) (n := 3) (v := 3) (by decide +kernel) (by decide) ?_
  refine RN_iadd (pc := 1142) (by decide +kernel) ?_
  obtain ⟨c758, h⟩ := ck_el h
  refine RN_iald (pc := 1143) (by decide +kernel) c758 ?_
  refine RN_aload_n (pc := 1144) (k := 0) (by decide +kernel) rfl rfl ?_
  refine RN_iload (pc := 1145) (i := 4) (by decide +kernel) rfl ?_
  refine RN_iconst (pc := 1147) (n := 4) (v := 4) (by decide +kernel) (by decide) ?_
  refine RN_iadd (pc := 1148) (by decide +kernel) ?_
  obtain ⟨c759, h⟩ := ck_el h
  refine RN_iald (pc := 1149) (by decide +kernel) c759 ?_
  obtain ⟨c760, h⟩ := ck_el h
  obtain ⟨x763, σ762, f761, h⟩ := bd_el h
  refine RN_callV (M := M_L_law) (pc := 1150) (idx := 135) (as := [.int (gI σ754 v0 (v4 + (1 : Int32)).toNatClampNeg), .int (gI σ754 v0 (v4 + (2 : Int32)).toNatClampNeg), .int (gI σ754 v0 (v4 + (3 : Int32)).toNatClampNeg), .int (gI σ754 v0 (v4 + (4 : Int32)).toNatClampNeg)]) (st := [.int x755]) (t_X12_mend f761) (by decide +kernel) lk_RL_135 rfl ⟨by decide, fun q hq => by cases hq; rfl⟩ c760 (Nat.le_of_ble_eq_true rfl) ⟨Nat.le_of_ble_eq_true rfl, Nat.le_of_ble_eq_true rfl⟩ rfl ?_
  show RN G M_L_law 1153 [some (.ref v0), some (.ref v1), some (.ref v2), some (.ref v3), some (.int v4)] [.int x763, .int x755] σ762 _ _
  refine RN_icmp_eq (pc := 1153) (off := 609) (tgt := 1762) (by decide +kernel) (by decide) (fun c764 => ?_) (fun c764 => ?_)
  · replace h := it_t c764 h
    exact RN_weak (l := [some (.ref v0), some (.ref v1), some (.ref v2), some (.ref v3), some (.int v4)]) (And.intro rfl (And.intro rfl (And.intro rfl (And.intro rfl (And.intro rfl trivial))))) (tb_L_law_1762 n v0 v1 v2 v3 v4 σ762 k23 hk23 h)
  · replace h := it_f c764 h
    refine RN_iconst (pc := 1156) (n := 0) (v := 0) (by decide +kernel) (by decide) ?_
    obtain ⟨rfl, rfl⟩ := some_el2 h
    exact RN_zreturn (by decide +kernel) rfl (Or.inl rfl)
def b_L_law_1158 (k23 : Int32 → Sg → Option (Int32 × Sg)) (n : Nat) (v0 : Nat) (v1 : Nat) (v2 : Nat) (v3 : Nat) (v4 : Int32) (σ : Sg) : Option (Int32 × Sg) :=
  ck (okA σ v0 13 (v4 + (1 : Int32))) <|
  ck (okA σ v0 13 (v4 + (2 : Int32))) <|
  ck (okO σ v1 10) <|
  bp (f_X11_same n v1 (gI σ v0 (v4 + (1 : Int32)).toNatClampNeg) (gI σ v0 (v4 + (2 : Int32)).toNatClampNeg) σ) fun x770 =>
  ck (okO σ v2 11) <|
  bp (f_X12_same n v2 (gI σ v0 (v4 + (1 : Int32)).toNatClampNeg) (gI σ v0 (v4 + (2 : Int32)).toNatClampNeg) σ) fun x773 =>
  if x770 = x773 then (
    b_L_law_1762 k23 n v0 v1 v2 v3 v4 σ)
  else (
    some ((0 : Int32), σ))
set_option maxRecDepth 20000 in
theorem tb_L_law_1158 {G : Gl} {xr : Int32} {σr : Sg} (n : Nat) (v0 : Nat) (v1 : Nat) (v2 : Nat) (v3 : Nat) (v4 : Int32) (σ : Sg) (k23 : Int32 → Sg → Option (Int32 × Sg)) (hk23 : ∀ (c4 : Int32) (τ : Sg), k23 c4 τ = some (xr, σr) → RN G M_L_law 23 [some (.ref v0), some (.ref v1), some (.ref v2), some (.ref v3), some (.int c4)] [] τ (.inl (some (.int xr))) σr) (h : b_L_law_1158 k23 n v0 v1 v2 v3 v4 σ = some (xr, σr)) : RN G M_L_law 1158 [some (.ref v0), some (.ref v1), some (.ref v2), some (.ref v3), some (.int v4)] [] σ (.inl (some (.int xr))) σr := by
  unfold b_L_law_1158 at h
  refine RN_aload_n (pc := 1158) (k := 1) (by decide +kernel) rfl rfl ?_
  refine RN_aload_n (pc := 1159) (k := 0) (by decide +kernel) rfl rfl ?_
  refine RN_iload (pc := 1160) (i := 4) (by decide +kernel) rfl ?_
  refine RN_iconst (pc := 1162) (n := 1) (v := 1) (by decide +kernel) (by decide) ?_
  refine RN_iadd (pc := 1163) (by decide +kernel) ?_
  obtain ⟨c766, h⟩ := ck_el h
  refine RN_iald (pc := 1164) (by decide +kernel) c766 ?_
  refine RN_aload_n (pc := 1165) (k := 0) (by decide +kernel) rfl rfl ?_
  refine RN_iload (pc := 1166) (i := 4) (by decide +kernel) rfl ?_
  refine RN_iconst (pc := 1168) (n := 2) (v := 2) (by decide +kernel) (by decide) ?_
  refine RN_iadd (pc := 1169) (by decide +kernel) ?_
  obtain ⟨c767, h⟩ := ck_el h
  refine RN_iald (pc := 1170) (by decide +kernel) c767 ?_
  obtain ⟨c768, h⟩ := ck_el h
  obtain ⟨x770, f769, h⟩ := bp_el h
  refine RN_callV (M := M_L_law) (pc := 1171) (idx := 136) (as := [.int (gI σ v0 (v4 + (1 : Int32)).toNatClampNeg), .int (gI σ v0 (v4 + (2 : Int32)).toNatClampNeg)]) (st := []) (t_X11_same f769) (by decide +kernel) lk_RL_136 rfl ⟨by decide, fun q hq => by cases hq; rfl⟩ c768 (Nat.le_of_ble_eq_true rfl) ⟨Nat.le_of_ble_eq_true rfl, Nat.le_of_ble_eq_true rfl⟩ rfl ?_
  show RN G M_L_law 1174 [some (.ref v0), some (.ref v1), some (.ref v2), some (.ref v3), some (.int v4)] [.int x770] σ _ _
  refine RN_aload_n (pc := 1174) (k := 2) (by decide +kernel) rfl rfl ?_
  refine RN_aload_n (pc := 1175) (k := 0) (by decide +kernel) rfl rfl ?_
  refine RN_iload (pc := 1176) (i := 4) (by decide +kernel) rfl ?_
  refine RN_iconst (pc := 1178) (n := 1) (v := 1) (by decide +kernel) (by decide) ?_
  refine RN_iadd (pc := 1179) (by decide +kernel) ?_
  refine RN_iald (pc := 1180) (by decide +kernel) c766 ?_
  refine RN_aload_n (pc := 1181) (k := 0) (by decide +kernel) rfl rfl ?_
  refine RN_iload (pc := 1182) (i := 4) (by decide +kernel) rfl ?_
  refine RN_iconst (pc := 1184) (n := 2) (v := 2) (by decide +kernel) (by decide) ?_
  refine RN_iadd (pc := 1185) (by decide +kernel) ?_
  refine RN_iald (pc := 1186) (by decide +kernel) c767 ?_
  obtain ⟨c771, h⟩ := ck_el h
  obtain ⟨x773, f772, h⟩ := bp_el h
  refine RN_callV (M := M_L_law) (pc := 1187) (idx := 139) (as := [.int (gI σ v0 (v4 + (1 : Int32)).toNatClampNeg), .int (gI σ v0 (v4 + (2 : Int32)).toNatClampNeg)]) (st := [.int x770]) (t_X12_same f772) (by decide +kernel) lk_RL_139 rfl ⟨by decide, fun q hq => by cases hq; rfl⟩ c771 (Nat.le_of_ble_eq_true rfl) ⟨Nat.le_of_ble_eq_true rfl, Nat.le_of_ble_eq_true rfl⟩ rfl ?_
  show RN G M_L_law 1190 [some (.ref v0), some (.ref v1), some (.ref v2), some (.ref v3), some (.int v4)] [.int x773, .int x770] σ _ _
  refine RN_icmp_eq (pc := 1190) (off := 572) (tgt := 1762) (by decide +kernel) (by decide) (fun c774 => ?_) (fun c774 => ?_)
  · replace h := it_t c774 h
    exact RN_weak (l := [some (.ref v0), some (.ref v1), some (.ref v2), some (.ref v3), some (.int v4)]) (And.intro rfl (And.intro rfl (And.intro rfl (And.intro rfl (And.intro rfl trivial))))) (tb_L_law_1762 n v0 v1 v2 v3 v4 σ k23 hk23 h)
  · replace h := it_f c774 h
    refine RN_iconst (pc := 1193) (n := 0) (v := 0) (by decide +kernel) (by decide) ?_
    obtain ⟨rfl, rfl⟩ := some_el2 h
    exact RN_zreturn (by decide +kernel) rfl (Or.inl rfl)
def b_L_law_1315 (k23 : Int32 → Sg → Option (Int32 × Sg)) (n : Nat) (v0 : Nat) (v1 : Nat) (v2 : Nat) (v3 : Nat) (v4 : Int32) (σ : Sg) : Option (Int32 × Sg) :=
  b_L_law_1762 k23 n v0 v1 v2 v3 v4 σ
set_option maxRecDepth 20000 in
theorem tb_L_law_1315 {G : Gl} {xr : Int32} {σr : Sg} (n : Nat) (v0 : Nat) (v1 : Nat) (v2 : Nat) (v3 : Nat) (v4 : Int32) (σ : Sg) (k23 : Int32 → Sg → Option (Int32 × Sg)) (hk23 : ∀ (c4 : Int32) (τ : Sg), k23 c4 τ = some (xr, σr) → RN G M_L_law 23 [some (.ref v0), some (.ref v1), some (.ref v2), some (.ref v3), some (.int c4)] [] τ (.inl (some (.int xr))) σr) (h : b_L_law_1315 k23 n v0 v1 v2 v3 v4 σ = some (xr, σr)) : RN G M_L_law 1315 [some (.ref v0), some (.ref v1), some (.ref v2), some (.ref v3), some (.int v4)] [] σ (.inl (some (.int xr))) σr := by
  unfold b_L_law_1315 at h
  refine RN_goto (pc := 1315) (off := 447) (tgt := 1762) (by decide +kernel) (by decide) ?_
  exact RN_weak (l := [some (.ref v0), some (.ref v1), some (.ref v2), some (.ref v3), some (.int v4)]) (And.intro rfl (And.intro rfl (And.intro rfl (And.intro rfl (And.intro rfl trivial))))) (tb_L_law_1762 n v0 v1 v2 v3 v4 σ k23 hk23 h)
def b_L_law_1195 (k23 : Int32 → Sg → Option (Int32 × Sg)) (n : Nat) (v0 : Nat) (v1 : Nat) (v2 : Nat) (v3 : Nat) (v4 : Int32) (σ : Sg) : Option (Int32 × Sg) :=
  ck (okA σ v0 13 (v4 + (1 : Int32))) <|
  ck (okA σ v0 13 (v4 + (2 : Int32))) <|
  ck (okA σ v0 13 (v4 + (3 : Int32))) <|
  ck (okA σ v0 13 (v4 + (4 : Int32))) <|
  ck (okA σ v0 13 (v4 + (5 : Int32))) <|
  bd (f_L_rounded v1 ((((gI σ v0 (v4 + (1 : Int32)).toNatClampNeg).toInt64) <<< ((32 : Int32).toInt64 &&& 63)) ||| (((gI σ v0 (v4 + (2 : Int32)).toNatClampNeg).toInt64) &&& (4294967295 : Int64))) (gI σ v0 (v4 + (3 : Int32)).toNatClampNeg) (gI σ v0 (v4 + (4 : Int32)).toNatClampNeg) (gI σ v0 (v4 + (5 : Int32)).toNatClampNeg) v3 σ) fun x783 σ782 =>
  ck (okA σ782 v0 13 (v4 + (1 : Int32))) <|
  ck (okA σ782 v0 13 (v4 + (2 : Int32))) <|
  ck (okA σ782 v0 13 (v4 + (3 : Int32))) <|
  ck (okA σ782 v0 13 (v4 + (4 : Int32))) <|
  ck (okA σ782 v0 13 (v4 + (5 : Int32))) <|
  ck (okO σ782 v2 11) <|
  bd (f_X12_rounded v2 ((((gI σ782 v0 (v4 + (1 : Int32)).toNatClampNeg).toInt64) <<< ((32 : Int32).toInt64 &&& 63)) ||| (((gI σ782 v0 (v4 + (2 : Int32)).toNatClampNeg).toInt64) &&& (4294967295 : Int64))) (gI σ782 v0 (v4 + (3 : Int32)).toNatClampNeg) (gI σ782 v0 (v4 + (4 : Int32)).toNatClampNeg) (gI σ782 v0 (v4 + (5 : Int32)).toNatClampNeg) σ782) fun x792 σ791 =>
  ck (okO σ791 v2 11) <|
  bp (f_X12_thrown v2 σ791) fun x795 =>
  if x795 = x783 then (
    if x783 = 0 then (
      ck (okA σ791 v3 14 (0 : Int32)) <|
      if (gJ σ791 v3 (0 : Int32).toNatClampNeg) = x792 then (
        b_L_law_1315 k23 n v0 v1 v2 v3 v4 σ791)
      else (
        some ((0 : Int32), σ791)))
    else (
      b_L_law_1315 k23 n v0 v1 v2 v3 v4 σ791))
  else (
    some ((0 : Int32), σ791))
set_option maxRecDepth 20000 in
theorem tb_L_law_1195 {G : Gl} {xr : Int32} {σr : Sg} (n : Nat) (v0 : Nat) (v1 : Nat) (v2 : Nat) (v3 : Nat) (v4 : Int32) (σ : Sg) (k23 : Int32 → Sg → Option (Int32 × Sg)) (hk23 : ∀ (c4 : Int32) (τ : Sg), k23 c4 τ = some (xr, σr) → RN G M_L_law 23 [some (.ref v0), some (.ref v1), some (.ref v2), some (.ref v3), some (.int c4)] [] τ (.inl (some (.int xr))) σr) (h : b_L_law_1195 k23 n v0 v1 v2 v3 v4 σ = some (xr, σr)) : RN G M_L_law 1195 [some (.ref v0), some (.ref v1), some (.ref v2), some (.ref v3), some (.int v4)] [] σ (.inl (some (.int xr))) σr := by
  unfold b_L_law_1195 at h
  refine RN_aload_n (pc := 1195) (k := 1) (by decide +kernel) rfl rfl ?_
  refine RN_aload_n (pc := 1196) (k := 0) (by decide +kernel) rfl rfl ?_
  refine RN_iload (pc := 1197) (i := 4) (by decide +kernel) rfl ?_
  refine RN_iconst (pc := 1199) (n := 1) (v := 1) (by decide +kernel) (by decide) ?_
  refine RN_iadd (pc := 1200) (by decide +kernel) ?_
  obtain ⟨c776, h⟩ := ck_el h
  refine RN_iald (pc := 1201) (by decide +kernel) c776 ?_
  refine RN_i2l (pc := 1202) (by decide +kernel) ?_
  refine RN_bipush (pc := 1203) (n := 32) (v := 32) (by decide +kernel) (by decide) ?_
  refine RN_lshl (pc := 1205) (by decide +kernel) ?_
  refine RN_aload_n (pc := 1206) (k := 0) (by decide +kernel) rfl rfl ?_
  refine RN_iload (pc := 1207) (i := 4) (by decide +kernel) rfl ?_
  refine RN_iconst (pc := 1209) (n := 2) (v := 2) (by decide +kernel) (by decide) ?_
  refine RN_iadd (pc := 1210) (by decide +kernel) ?_
  obtain ⟨c777, h⟩ := ck_el h
  refine RN_iald (pc := 1211) (by decide +kernel) c777 ?_
  refine RN_i2l (pc := 1212) (by decide +kernel) ?_
  refine RN_ldc2 (pc := 1213) (idx := 140) (v := 4294967295) (by decide +kernel) kc_RL_140 ?_
  refine RN_land (pc := 1216) (by decide +kernel) ?_
  refine RN_lor (pc := 1217) (by decide +kernel) ?_
  refine RN_aload_n (pc := 1218) (k := 0) (by decide +kernel) rfl rfl ?_
  refine RN_iload (pc := 1219) (i := 4) (by decide +kernel) rfl ?_
  refine RN_iconst (pc := 1221) (n := 3) (v := 3) (by decide +kernel) (by decide) ?_
  refine RN_iadd (pc := 1222) (by decide +kernel) ?_
  obtain ⟨c778, h⟩ := ck_el h
  refine RN_iald (pc := 1223) (by decide +kernel) c778 ?_
  refine RN_aload_n (pc := 1224) (k := 0) (by decide +kernel) rfl rfl ?_
  refine RN_iload (pc := 1225) (i := 4) (by decide +kernel) rfl ?_
  refine RN_iconst (pc := 1227) (n := 4) (v := 4) (by decide +kernel) (by decide) ?_
  refine RN_iadd (pc := 1228) (by decide +kernel) ?_
  obtain ⟨c779, h⟩ := ck_el h
  refine RN_iald (pc := 1229) (by decide +kernel) c779 ?_
  refine RN_aload_n (pc := 1230) (k := 0) (by decide +kernel) rfl rfl ?_
  refine RN_iload (pc := 1231) (i := 4) (by decide +kernel) rfl ?_
  refine RN_iconst (pc := 1233) (n := 5) (v := 5) (by decide +kernel) (by decide) ?_
  refine RN_iadd (pc := 1234) (by decide +kernel) ?_
  obtain ⟨c780, h⟩ := ck_el h
  refine RN_iald (pc := 1235) (by decide +kernel) c780 ?_
  refine RN_aload_n (pc := 1236) (k := 3) (by decide +kernel) rfl rfl ?_
  obtain ⟨x783, σ782, f781, h⟩ := bd_el h
  refine RN_callH (M := M_L_law) (M2 := M_L_rounded) (pc := 1237) (idx := 142) (n := 6) (as := [.ref v1, .long ((((gI σ v0 (v4 + (1 : Int32)).toNatClampNeg).toInt64) <<< ((32 : Int32).toInt64 &&& 63)) ||| (((gI σ v0 (v4 + (2 : Int32)).toNatClampNeg).toInt64) &&& (4294967295 : Int64))), .int (gI σ v0 (v4 + (3 : Int32)).toNatClampNeg), .int (gI σ v0 (v4 + (4 : Int32)).toNatClampNeg), .int (gI σ v0 (v4 + (5 : Int32)).toNatClampNeg), .ref v3]) (st := []) (t_L_rounded f781) (by decide +kernel) lk_RL_142_1 lk_RL_142_2 lk_RL_142_3 lk_RL_142_4 ⟨by decide, by decide, by decide +kernel⟩ rfl (Nat.le_of_ble_eq_true rfl) ⟨Nat.le_of_ble_eq_true rfl, Nat.le_of_ble_eq_true rfl⟩ rfl ?_
  show RN G M_L_law 1240 [some (.ref v0), some (.ref v1), some (.ref v2), some (.ref v3), some (.int v4)] [.int x783] σ782 _ _
  refine RN_istore (pc := 1240) (i := 5) (ls2 := [some (.ref v0), some (.ref v1), some (.ref v2), some (.ref v3), some (.int v4), some (.int x783)]) (by decide +kernel) (by decide) rfl ?_
  refine RN_aload_n (pc := 1242) (k := 2) (by decide +kernel) rfl rfl ?_
  refine RN_aload_n (pc := 1243) (k := 0) (by decide +kernel) rfl rfl ?_
  refine RN_iload (pc := 1244) (i := 4) (by decide +kernel) rfl ?_
  refine RN_iconst (pc := 1246) (n := 1) (v := 1) (by decide +kernel) (by decide) ?_
  refine RN_iadd (pc := 1247) (by decide +kernel) ?_
  obtain ⟨c784, h⟩ := ck_el h
  refine RN_iald (pc := 1248) (by decide +kernel) c784 ?_
  refine RN_i2l (pc := 1249) (by decide +kernel) ?_
  refine RN_bipush (pc := 1250) (n := 32) (v := 32) (by decide +kernel) (by decide) ?_
  refine RN_lshl (pc := 1252) (by decide +kernel) ?_
  refine RN_aload_n (pc := 1253) (k := 0) (by decide +kernel) rfl rfl ?_
  refine RN_iload (pc := 1254) (i := 4) (by decide +kernel) rfl ?_
  refine RN_iconst (pc := 1256) (n := 2) (v := 2) (by decide +kernel) (by decide) ?_
  refine RN_iadd (pc := 1257) (by decide +kernel) ?_
  obtain ⟨c785, h⟩ := ck_el h
  refine RN_iald (pc := 1258) (by decide +kernel) c785 ?_
  refine RN_i2l (pc := 1259) (by decide +kernel) ?_
  refine RN_ldc2 (pc := 1260) (idx := 140) (v := 4294967295) (by decide +kernel) kc_RL_140 ?_
  refine RN_land (pc := 1263) (by decide +kernel) ?_
  refine RN_lor (pc := 1264) (by decide +kernel) ?_
  refine RN_aload_n (pc := 1265) (k := 0) (by decide +kernel) rfl rfl ?_
  refine RN_iload (pc := 1266) (i := 4) (by decide +kernel) rfl ?_
  refine RN_iconst (pc := 1268) (n := 3) (v := 3) (by decide +kernel) (by decide) ?_
  refine RN_iadd (pc := 1269) (by decide +kernel) ?_
  obtain ⟨c786, h⟩ := ck_el h
  refine RN_iald (pc := 1270) (by decide +kernel) c786 ?_
  refine RN_aload_n (pc := 1271) (k := 0) (by decide +kernel) rfl rfl ?_
  refine RN_iload (pc := 1272) (i := 4) (by decide +kernel) rfl ?_
  refine RN_iconst (pc := 1274) (n := 4) (v := 4) (by decide +kernel) (by decide) ?_
  refine RN_iadd (pc := 1275) (by decide +kernel) ?_
  obtain ⟨c787, h⟩ := ck_el h
  refine RN_iald (pc := 1276) (by decide +kernel) c787 ?_
  refine RN_aload_n (pc := 1277) (k := 0) (by decide +kernel) rfl rfl ?_
  refine RN_iload (pc := 1278) (i := 4) (by decide +kernel) rfl ?_
  refine RN_iconst (pc := 1280) (n := 5) (v := 5) (by decide +kernel) (by decide) ?_
  refine RN_iadd (pc := 1281) (by decide +kernel) ?_
  obtain ⟨c788, h⟩ := ck_el h
  refine RN_iald (pc := 1282) (by decide +kernel) c788 ?_
  obtain ⟨c789, h⟩ := ck_el h
  obtain ⟨x792, σ791, f790, h⟩ := bd_el h
  refine RN_callV (M := M_L_law) (pc := 1283) (idx := 145) (as := [.long ((((gI σ782 v0 (v4 + (1 : Int32)).toNatClampNeg).toInt64) <<< ((32 : Int32).toInt64 &&& 63)) ||| (((gI σ782 v0 (v4 + (2 : Int32)).toNatClampNeg).toInt64) &&& (4294967295 : Int64))), .int (gI σ782 v0 (v4 + (3 : Int32)).toNatClampNeg), .int (gI σ782 v0 (v4 + (4 : Int32)).toNatClampNeg), .int (gI σ782 v0 (v4 + (5 : Int32)).toNatClampNeg)]) (st := []) (t_X12_rounded f790) (by decide +kernel) lk_RL_145 rfl ⟨by decide, fun q hq => by cases hq; rfl⟩ c789 (Nat.le_of_ble_eq_true rfl) ⟨Nat.le_of_ble_eq_true rfl, Nat.le_of_ble_eq_true rfl⟩ rfl ?_
  show RN G M_L_law 1286 [some (.ref v0), some (.ref v1), some (.ref v2), some (.ref v3), some (.int v4), some (.int x783)] [.long x792] σ791 _ _
  refine RN_lstore (pc := 1286) (i := 6) (ls2 := [some (.ref v0), some (.ref v1), some (.ref v2), some (.ref v3), some (.int v4), some (.int x783), some (.long x792), none]) (by decide +kernel) (by decide) rfl ?_
  refine RN_aload_n (pc := 1288) (k := 2) (by decide +kernel) rfl rfl ?_
  obtain ⟨c793, h⟩ := ck_el h
  obtain ⟨x795, f794, h⟩ := bp_el h
  refine RN_callV (M := M_L_law) (pc := 1289) (idx := 104) (as := []) (st := []) (t_X12_thrown f794) (by decide +kernel) lk_RL_104 rfl ⟨by decide, fun q hq => by cases hq; rfl⟩ c793 (Nat.le_of_ble_eq_true rfl) ⟨Nat.le_of_ble_eq_true rfl, Nat.le_of_ble_eq_true rfl⟩ rfl ?_
  show RN G M_L_law 1292 [some (.ref v0), some (.ref v1), some (.ref v2), some (.ref v3), some (.int v4), some (.int x783), some (.long x792), none] [.int x795] σ791 _ _
  refine RN_iload (pc := 1292) (i := 5) (by decide +kernel) rfl ?_
  refine RN_icmp_eq (pc := 1294) (off := 5) (tgt := 1299) (by decide +kernel) (by decide) (fun c796 => ?_) (fun c796 => ?_)
  · replace h := it_t c796 h
    refine RN_iload (pc := 1299) (i := 5) (by decide +kernel) rfl ?_
    refine RN_if_ne (pc := 1301) (off := 14) (tgt := 1315) (by decide +kernel) (by decide) (fun c797 => ?_) (fun c797 => ?_)
    · replace h := it_f c797 h
      exact RN_weak (l := [some (.ref v0), some (.ref v1), some (.ref v2), some (.ref v3), some (.int v4)]) (And.intro rfl (And.intro rfl (And.intro rfl (And.intro rfl (And.intro rfl trivial))))) (tb_L_law_1315 n v0 v1 v2 v3 v4 σ791 k23 hk23 h)
    · replace h := it_t c797 h
      refine RN_aload_n (pc := 1304) (k := 3) (by decide +kernel) rfl rfl ?_
      refine RN_iconst (pc := 1305) (n := 0) (v := 0) (by decide +kernel) (by decide) ?_
      obtain ⟨c798, h⟩ := ck_el h
      refine RN_lald (pc := 1306) (by decide +kernel) c798 ?_
      refine RN_lload (pc := 1307) (i := 6) (by decide +kernel) rfl ?_
      refine RN_lc_eq (pc := 1309) (off := 5) (tgt := 1315) (by decide +kernel) (by decide +kernel) (by decide) (fun c799 => ?_) (fun c799 => ?_)
      · replace h := it_t c799 h
        exact RN_weak (l := [some (.ref v0), some (.ref v1), some (.ref v2), some (.ref v3), some (.int v4)]) (And.intro rfl (And.intro rfl (And.intro rfl (And.intro rfl (And.intro rfl trivial))))) (tb_L_law_1315 n v0 v1 v2 v3 v4 σ791 k23 hk23 h)
      · replace h := it_f c799 h
        refine RN_iconst (pc := 1313) (n := 0) (v := 0) (by decide +kernel) (by decide) ?_
        obtain ⟨rfl, rfl⟩ := some_el2 h
        exact RN_zreturn (by decide +kernel) rfl (Or.inl rfl)
  · replace h := it_f c796 h
    refine RN_iconst (pc := 1297) (n := 0) (v := 0) (by decide +kernel) (by decide) ?_
    obtain ⟨rfl, rfl⟩ := some_el2 h
    exact RN_zreturn (by decide +kernel) rfl (Or.inl rfl)
def b_L_law_1318 (k23 : Int32 → Sg → Option (Int32 × Sg)) (n : Nat) (v0 : Nat) (v1 : Nat) (v2 : Nat) (v3 : Nat) (v4 : Int32) (σ : Sg) : Option (Int32 × Sg) :=
  ck (okA σ v0 13 (v4 + (1 : Int32))) <|
  ck (okA σ v0 13 (v4 + (2 : Int32))) <|
  ck (okA σ v0 13 (v4 + (3 : Int32))) <|
  ck (okO σ v1 10) <|
  bd (f_X11_tape n v1 (gI σ v0 (v4 + (1 : Int32)).toNatClampNeg) (gI σ v0 (v4 + (2 : Int32)).toNatClampNeg) (gI σ v0 (v4 + (3 : Int32)).toNatClampNeg) σ) fun x807 σ806 =>
  ck (okA σ806 v0 13 (v4 + (1 : Int32))) <|
  ck (okA σ806 v0 13 (v4 + (2 : Int32))) <|
  ck (okA σ806 v0 13 (v4 + (3 : Int32))) <|
  ck (okO σ806 v2 11) <|
  bd (f_X12_tape n v2 (gI σ806 v0 (v4 + (1 : Int32)).toNatClampNeg) (gI σ806 v0 (v4 + (2 : Int32)).toNatClampNeg) (gI σ806 v0 (v4 + (3 : Int32)).toNatClampNeg) σ806) fun x814 σ813 =>
  if x807 = x814 then (
    b_L_law_1762 k23 n v0 v1 v2 v3 v4 σ813)
  else (
    some ((0 : Int32), σ813))
set_option maxRecDepth 20000 in
theorem tb_L_law_1318 {G : Gl} {xr : Int32} {σr : Sg} (n : Nat) (v0 : Nat) (v1 : Nat) (v2 : Nat) (v3 : Nat) (v4 : Int32) (σ : Sg) (k23 : Int32 → Sg → Option (Int32 × Sg)) (hk23 : ∀ (c4 : Int32) (τ : Sg), k23 c4 τ = some (xr, σr) → RN G M_L_law 23 [some (.ref v0), some (.ref v1), some (.ref v2), some (.ref v3), some (.int c4)] [] τ (.inl (some (.int xr))) σr) (h : b_L_law_1318 k23 n v0 v1 v2 v3 v4 σ = some (xr, σr)) : RN G M_L_law 1318 [some (.ref v0), some (.ref v1), some (.ref v2), some (.ref v3), some (.int v4)] [] σ (.inl (some (.int xr))) σr := by
  unfold b_L_law_1318 at h
  refine RN_aload_n (pc := 1318) (k := 1) (by decide +kernel) rfl rfl ?_
  refine RN_aload_n (pc := 1319) (k := 0) (by decide +kernel) rfl rfl ?_
  refine RN_iload (pc := 1320) (i := 4) (by decide +kernel) rfl ?_
  refine RN_iconst (pc := 1322) (n := 1) (v := 1) (by decide +kernel) (by decide) ?_
  refine RN_iadd (pc := 1323) (by decide +kernel) ?_
  obtain ⟨c801, h⟩ := ck_el h
  refine RN_iald (pc := 1324) (by decide +kernel) c801 ?_
  refine RN_aload_n (pc := 1325) (k := 0) (by decide +kernel) rfl rfl ?_
  refine RN_iload (pc := 1326) (i := 4) (by decide +kernel) rfl ?_
  refine RN_iconst (pc := 1328) (n := 2) (v := 2) (by decide +kernel) (by decide) ?_
  refine RN_iadd (pc := 1329) (by decide +kernel) ?_
  obtain ⟨c802, h⟩ := ck_el h
  refine RN_iald (pc := 1330) (by decide +kernel) c802 ?_
  refine RN_aload_n (pc := 1331) (k := 0) (by decide +kernel) rfl rfl ?_
  refine RN_iload (pc := 1332) (i := 4) (by decide +kernel) rfl ?_
  refine RN_iconst (pc := 1334) (n := 3) (v := 3) (by decide +kernel) (by decide) ?_
  refine RN_iadd (pc := 1335) (by decide +kernel) ?_
  obtain ⟨c803, h⟩ := ck_el h
  refine RN_iald (pc := 1336) (by decide +kernel) c803 ?_
  obtain ⟨c804, h⟩ := ck_el h
  obtain ⟨x807, σ806, f805, h⟩ := bd_el h
  refine RN_callV (M := M_L_law) (pc := 1337) (idx := 146) (as := [.int (gI σ v0 (v4 + (1 : Int32)).toNatClampNeg), .int (gI σ v0 (v4 + (2 : Int32)).toNatClampNeg), .int (gI σ v0 (v4 + (3 : Int32)).toNatClampNeg)]) (st := []) (t_X11_tape f805) (by decide +kernel) lk_RL_146 rfl ⟨by decide, fun q hq => by cases hq; rfl⟩ c804 (Nat.le_of_ble_eq_true rfl) ⟨Nat.le_of_ble_eq_true rfl, Nat.le_of_ble_eq_true rfl⟩ rfl ?_
  show RN G M_L_law 1340 [some (.ref v0), some (.ref v1), some (.ref v2), some (.ref v3), some (.int v4)] [.int x807] σ806 _ _
  refine RN_aload_n (pc := 1340) (k := 2) (by decide +kernel) rfl rfl ?_
  refine RN_aload_n (pc := 1341) (k := 0) (by decide +kernel) rfl rfl ?_
  refine RN_iload (pc := 1342) (i := 4) (by decide +kernel) rfl ?_
  refine RN_iconst (pc := 1344) (n := 1) (v := 1) (by decide +kernel) (by decide) ?_
  refine RN_iadd (pc := 1345) (by decide +kernel) ?_
  obtain ⟨c808, h⟩ := ck_el h
  refine RN_iald (pc := 1346) (by decide +kernel) c808 ?_
  refine RN_aload_n (pc := 1347) (k := 0) (by decide +kernel) rfl rfl ?_
  refine RN_iload (pc := 1348) (i := 4) (by decide +kernel) rfl ?_
  refine RN_iconst (pc := 1350) (n := 2) (v := 2) (by decide +kernel) (by decide) ?_
  refine RN_iadd (pc := 1351) (by decide +kernel) ?_
  obtain ⟨c809, h⟩ := ck_el h
  refine RN_iald (pc := 1352) (by decide +kernel) c809 ?_
  refine RN_aload_n (pc := 1353) (k := 0) (by decide +kernel) rfl rfl ?_
  refine RN_iload (pc := 1354) (i := 4) (by decide +kernel) rfl ?_
  refine RN_iconst (pc := 1356) (n := 3) (v := 3) (by decide +kernel) (by decide) ?_
  refine RN_iadd (pc := 1357) (by decide +kernel) ?_
  obtain ⟨c810, h⟩ := ck_el h
  refine RN_iald (pc := 1358) (by decide +kernel) c810 ?_
  obtain ⟨c811, h⟩ := ck_el h
  obtain ⟨x814, σ813, f812, h⟩ := bd_el h
  refine RN_callV (M := M_L_law) (pc := 1359) (idx := 149) (as := [.int (gI σ806 v0 (v4 + (1 : Int32)).toNatClampNeg), .int (gI σ806 v0 (v4 + (2 : Int32)).toNatClampNeg), .int (gI σ806 v0 (v4 + (3 : Int32)).toNatClampNeg)]) (st := [.int x807]) (t_X12_tape f812) (by decide +kernel) lk_RL_149 rfl ⟨by decide, fun q hq => by cases hq; rfl⟩ c811 (Nat.le_of_ble_eq_true rfl) ⟨Nat.le_of_ble_eq_true rfl, Nat.le_of_ble_eq_true rfl⟩ rfl ?_
  show RN G M_L_law 1362 [some (.ref v0), some (.ref v1), some (.ref v2), some (.ref v3), some (.int v4)] [.int x814, .int x807] σ813 _ _
  refine RN_icmp_eq (pc := 1362) (off := 400) (tgt := 1762) (by decide +kernel) (by decide) (fun c815 => ?_) (fun c815 => ?_)
  · replace h := it_t c815 h
    exact RN_weak (l := [some (.ref v0), some (.ref v1), some (.ref v2), some (.ref v3), some (.int v4)]) (And.intro rfl (And.intro rfl (And.intro rfl (And.intro rfl (And.intro rfl trivial))))) (tb_L_law_1762 n v0 v1 v2 v3 v4 σ813 k23 hk23 h)
  · replace h := it_f c815 h
    refine RN_iconst (pc := 1365) (n := 0) (v := 0) (by decide +kernel) (by decide) ?_
    obtain ⟨rfl, rfl⟩ := some_el2 h
    exact RN_zreturn (by decide +kernel) rfl (Or.inl rfl)
def b_L_law_1367 (k23 : Int32 → Sg → Option (Int32 × Sg)) (n : Nat) (v0 : Nat) (v1 : Nat) (v2 : Nat) (v3 : Nat) (v4 : Int32) (σ : Sg) : Option (Int32 × Sg) :=
  ck (okA σ v0 13 (v4 + (1 : Int32))) <|
  ck (okO σ v1 10) <|
  bd (f_X11_image n v1 (gI σ v0 (v4 + (1 : Int32)).toNatClampNeg) σ) fun x821 σ820 =>
  ck (okA σ820 v0 13 (v4 + (1 : Int32))) <|
  ck (okO σ820 v2 11) <|
  bd (f_X12_image n v2 (gI σ820 v0 (v4 + (1 : Int32)).toNatClampNeg) σ820) fun x826 σ825 =>
  if x821 = x826 then (
    b_L_law_1762 k23 n v0 v1 v2 v3 v4 σ825)
  else (
    some ((0 : Int32), σ825))
set_option maxRecDepth 20000 in
theorem tb_L_law_1367 {G : Gl} {xr : Int32} {σr : Sg} (n : Nat) (v0 : Nat) (v1 : Nat) (v2 : Nat) (v3 : Nat) (v4 : Int32) (σ : Sg) (k23 : Int32 → Sg → Option (Int32 × Sg)) (hk23 : ∀ (c4 : Int32) (τ : Sg), k23 c4 τ = some (xr, σr) → RN G M_L_law 23 [some (.ref v0), some (.ref v1), some (.ref v2), some (.ref v3), some (.int c4)] [] τ (.inl (some (.int xr))) σr) (h : b_L_law_1367 k23 n v0 v1 v2 v3 v4 σ = some (xr, σr)) : RN G M_L_law 1367 [some (.ref v0), some (.ref v1), some (.ref v2), some (.ref v3), some (.int v4)] [] σ (.inl (some (.int xr))) σr := by
  unfold b_L_law_1367 at h
  refine RN_aload_n (pc := 1367) (k := 1) (by decide +kernel) rfl rfl ?_
  refine RN_aload_n (pc := 1368) (k := 0) (by decide +kernel) rfl rfl ?_
  refine RN_iload (pc := 1369) (i := 4) (by decide +kernel) rfl ?_
  refine RN_iconst (pc := 1371) (n := 1) (v := 1) (by decide +kernel) (by decide) ?_
  refine RN_iadd (pc := 1372) (by decide +kernel) ?_
  obtain ⟨c817, h⟩ := ck_el h
  refine RN_iald (pc := 1373) (by decide +kernel) c817 ?_
  obtain ⟨c818, h⟩ := ck_el h
  obtain ⟨x821, σ820, f819, h⟩ := bd_el h
  refine RN_callV (M := M_L_law) (pc := 1374) (idx := 150) (as := [.int (gI σ v0 (v4 + (1 : Int32)).toNatClampNeg)]) (st := []) (t_X11_image f819) (by decide +kernel) lk_RL_150 rfl ⟨by decide, fun q hq => by cases hq; rfl⟩ c818 (Nat.le_of_ble_eq_true rfl) ⟨Nat.le_of_ble_eq_true rfl, Nat.le_of_ble_eq_true rfl⟩ rfl ?_
  show RN G M_L_law 1377 [some (.ref v0), some (.ref v1), some (.ref v2), some (.ref v3), some (.int v4)] [.int x821] σ820 _ _
  refine RN_aload_n (pc := 1377) (k := 2) (by decide +kernel) rfl rfl ?_
  refine RN_aload_n (pc := 1378) (k := 0) (by decide +kernel) rfl rfl ?_
  refine RN_iload (pc := 1379) (i := 4) (by decide +kernel) rfl ?_
  refine RN_iconst (pc := 1381) (n := 1) (v := 1) (by decide +kernel) (by decide) ?_
  refine RN_iadd (pc := 1382) (by decide +kernel) ?_
  obtain ⟨c822, h⟩ := ck_el h
  refine RN_iald (pc := 1383) (by decide +kernel) c822 ?_
  obtain ⟨c823, h⟩ := ck_el h
  obtain ⟨x826, σ825, f824, h⟩ := bd_el h
  refine RN_callV (M := M_L_law) (pc := 1384) (idx := 153) (as := [.int (gI σ820 v0 (v4 + (1 : Int32)).toNatClampNeg)]) (st := [.int x821]) (t_X12_image f824) (by decide +kernel) lk_RL_153 rfl ⟨by decide, fun q hq => by cases hq; rfl⟩ c823 (Nat.le_of_ble_eq_true rfl) ⟨Nat.le_of_ble_eq_true rfl, Nat.le_of_ble_eq_true rfl⟩ rfl ?_
  show RN G M_L_law 1387 [some (.ref v0), some (.ref v1), some (.ref v2), some (.ref v3), some (.int v4)] [.int x826, .int x821] σ825 _ _
  refine RN_icmp_eq (pc := 1387) (off := 375) (tgt := 1762) (by decide +kernel) (by decide) (fun c827 => ?_) (fun c827 => ?_)
  · replace h := it_t c827 h
    exact RN_weak (l := [some (.ref v0), some (.ref v1), some (.ref v2), some (.ref v3), some (.int v4)]) (And.intro rfl (And.intro rfl (And.intro rfl (And.intro rfl (And.intro rfl trivial))))) (tb_L_law_1762 n v0 v1 v2 v3 v4 σ825 k23 hk23 h)
  · replace h := it_f c827 h
    refine RN_iconst (pc := 1390) (n := 0) (v := 0) (by decide +kernel) (by decide) ?_
    obtain ⟨rfl, rfl⟩ := some_el2 h
    exact RN_zreturn (by decide +kernel) rfl (Or.inl rfl)
def b_L_law_1392 (k23 : Int32 → Sg → Option (Int32 × Sg)) (n : Nat) (v0 : Nat) (v1 : Nat) (v2 : Nat) (v3 : Nat) (v4 : Int32) (σ : Sg) : Option (Int32 × Sg) :=
  ck (okA σ v0 13 (v4 + (1 : Int32))) <|
  ck (okO σ v1 10) <|
  bd (f_X11_back n v1 (gI σ v0 (v4 + (1 : Int32)).toNatClampNeg) σ) fun x833 σ832 =>
  ck (okA σ832 v0 13 (v4 + (1 : Int32))) <|
  ck (okO σ832 v2 11) <|
  bd (f_X12_back n v2 (gI σ832 v0 (v4 + (1 : Int32)).toNatClampNeg) σ832) fun x838 σ837 =>
  if x833 = x838 then (
    b_L_law_1762 k23 n v0 v1 v2 v3 v4 σ837)
  else (
    some ((0 : Int32), σ837))
set_option maxRecDepth 20000 in
theorem tb_L_law_1392 {G : Gl} {xr : Int32} {σr : Sg} (n : Nat) (v0 : Nat) (v1 : Nat) (v2 : Nat) (v3 : Nat) (v4 : Int32) (σ : Sg) (k23 : Int32 → Sg → Option (Int32 × Sg)) (hk23 : ∀ (c4 : Int32) (τ : Sg), k23 c4 τ = some (xr, σr) → RN G M_L_law 23 [some (.ref v0), some (.ref v1), some (.ref v2), some (.ref v3), some (.int c4)] [] τ (.inl (some (.int xr))) σr) (h : b_L_law_1392 k23 n v0 v1 v2 v3 v4 σ = some (xr, σr)) : RN G M_L_law 1392 [some (.ref v0), some (.ref v1), some (.ref v2), some (.ref v3), some (.int v4)] [] σ (.inl (some (.int xr))) σr := by
  unfold b_L_law_1392 at h
  refine RN_aload_n (pc := 1392) (k := 1) (by decide +kernel) rfl rfl ?_
  refine RN_aload_n (pc := 1393) (k := 0) (by decide +kernel) rfl rfl ?_
  refine RN_iload (pc := 1394) (i := 4) (by decide +kernel) rfl ?_
  refine RN_iconst (pc := 1396) (n := 1) (v := 1) (by decide +kernel) (by decide) ?_
  refine RN_iadd (pc := 1397) (by decide +kernel) ?_
  obtain ⟨c829, h⟩ := ck_el h
  refine RN_iald (pc := 1398) (by decide +kernel) c829 ?_
  obtain ⟨c830, h⟩ := ck_el h
  obtain ⟨x833, σ832, f831, h⟩ := bd_el h
  refine RN_callV (M := M_L_law) (pc := 1399) (idx := 154) (as := [.int (gI σ v0 (v4 + (1 : Int32)).toNatClampNeg)]) (st := []) (t_X11_back f831) (by decide +kernel) lk_RL_154 rfl ⟨by decide, fun q hq => by cases hq; rfl⟩ c830 (Nat.le_of_ble_eq_true rfl) ⟨Nat.le_of_ble_eq_true rfl, Nat.le_of_ble_eq_true rfl⟩ rfl ?_
  show RN G M_L_law 1402 [some (.ref v0), some (.ref v1), some (.ref v2), some (.ref v3), some (.int v4)] [.int x833] σ832 _ _
  refine RN_aload_n (pc := 1402) (k := 2) (by decide +kernel) rfl rfl ?_
  refine RN_aload_n (pc := 1403) (k := 0) (by decide +kernel) rfl rfl ?_
  refine RN_iload (pc := 1404) (i := 4) (by decide +kernel) rfl ?_
  refine RN_iconst (pc := 1406) (n := 1) (v := 1) (by decide +kernel) (by decide) ?_
  refine RN_iadd (pc := 1407) (by decide +kernel) ?_
  obtain ⟨c834, h⟩ := ck_el h
  refine RN_iald (pc := 1408) (by decide +kernel) c834 ?_
  obtain ⟨c835, h⟩ := ck_el h
  obtain ⟨x838, σ837, f836, h⟩ := bd_el h
  refine RN_callV (M := M_L_law) (pc := 1409) (idx := 157) (as := [.int (gI σ832 v0 (v4 + (1 : Int32)).toNatClampNeg)]) (st := [.int x833]) (t_X12_back f836) (by decide +kernel) lk_RL_157 rfl ⟨by decide, fun q hq => by cases hq; rfl⟩ c835 (Nat.le_of_ble_eq_true rfl) ⟨Nat.le_of_ble_eq_true rfl, Nat.le_of_ble_eq_true rfl⟩ rfl ?_
  show RN G M_L_law 1412 [some (.ref v0), some (.ref v1), some (.ref v2), some (.ref v3), some (.int v4)] [.int x838, .int x833] σ837 _ _
  refine RN_icmp_eq (pc := 1412) (off := 350) (tgt := 1762) (by decide +kernel) (by decide) (fun c839 => ?_) (fun c839 => ?_)
  · replace h := it_t c839 h
    exact RN_weak (l := [some (.ref v0), some (.ref v1), some (.ref v2), some (.ref v3), some (.int v4)]) (And.intro rfl (And.intro rfl (And.intro rfl (And.intro rfl (And.intro rfl trivial))))) (tb_L_law_1762 n v0 v1 v2 v3 v4 σ837 k23 hk23 h)
  · replace h := it_f c839 h
    refine RN_iconst (pc := 1415) (n := 0) (v := 0) (by decide +kernel) (by decide) ?_
    obtain ⟨rfl, rfl⟩ := some_el2 h
    exact RN_zreturn (by decide +kernel) rfl (Or.inl rfl)
def b_L_law_1417 (k23 : Int32 → Sg → Option (Int32 × Sg)) (n : Nat) (v0 : Nat) (v1 : Nat) (v2 : Nat) (v3 : Nat) (v4 : Int32) (σ : Sg) : Option (Int32 × Sg) :=
  ck (okA σ v0 13 (v4 + (1 : Int32))) <|
  ck (okO σ v1 10) <|
  bd (f_X11_toss v1 (gI σ v0 (v4 + (1 : Int32)).toNatClampNeg) σ) fun x845 σ844 =>
  ck (okA σ844 v0 13 (v4 + (1 : Int32))) <|
  ck (okO σ844 v2 11) <|
  bd (f_X12_toss v2 (gI σ844 v0 (v4 + (1 : Int32)).toNatClampNeg) σ844) fun x850 σ849 =>
  if x845 = x850 then (
    b_L_law_1762 k23 n v0 v1 v2 v3 v4 σ849)
  else (
    some ((0 : Int32), σ849))
set_option maxRecDepth 20000 in
theorem tb_L_law_1417 {G : Gl} {xr : Int32} {σr : Sg} (n : Nat) (v0 : Nat) (v1 : Nat) (v2 : Nat) (v3 : Nat) (v4 : Int32) (σ : Sg) (k23 : Int32 → Sg → Option (Int32 × Sg)) (hk23 : ∀ (c4 : Int32) (τ : Sg), k23 c4 τ = some (xr, σr) → RN G M_L_law 23 [some (.ref v0), some (.ref v1), some (.ref v2), some (.ref v3), some (.int c4)] [] τ (.inl (some (.int xr))) σr) (h : b_L_law_1417 k23 n v0 v1 v2 v3 v4 σ = some (xr, σr)) : RN G M_L_law 1417 [some (.ref v0), some (.ref v1), some (.ref v2), some (.ref v3), some (.int v4)] [] σ (.inl (some (.int xr))) σr := by
  unfold b_L_law_1417 at h
  refine RN_aload_n (pc := 1417) (k := 1) (by decide +kernel) rfl rfl ?_
  refine RN_aload_n (pc := 1418) (k := 0) (by decide +kernel) rfl rfl ?_
  refine RN_iload (pc := 1419) (i := 4) (by decide +kernel) rfl ?_
  refine RN_iconst (pc := 1421) (n := 1) (v := 1) (by decide +kernel) (by decide) ?_
  refine RN_iadd (pc := 1422) (by decide +kernel) ?_
  obtain ⟨c841, h⟩ := ck_el h
  refine RN_iald (pc := 1423) (by decide +kernel) c841 ?_
  obtain ⟨c842, h⟩ := ck_el h
  obtain ⟨x845, σ844, f843, h⟩ := bd_el h
  refine RN_callV (M := M_L_law) (pc := 1424) (idx := 158) (as := [.int (gI σ v0 (v4 + (1 : Int32)).toNatClampNeg)]) (st := []) (t_X11_toss f843) (by decide +kernel) lk_RL_158 rfl ⟨by decide, fun q hq => by cases hq; rfl⟩ c842 (Nat.le_of_ble_eq_true rfl) ⟨Nat.le_of_ble_eq_true rfl, Nat.le_of_ble_eq_true rfl⟩ rfl ?_
  show RN G M_L_law 1427 [some (.ref v0), some (.ref v1), some (.ref v2), some (.ref v3), some (.int v4)] [.int x845] σ844 _ _
  refine RN_aload_n (pc := 1427) (k := 2) (by decide +kernel) rfl rfl ?_
  refine RN_aload_n (pc := 1428) (k := 0) (by decide +kernel) rfl rfl ?_
  refine RN_iload (pc := 1429) (i := 4) (by decide +kernel) rfl ?_
  refine RN_iconst (pc := 1431) (n := 1) (v := 1) (by decide +kernel) (by decide) ?_
  refine RN_iadd (pc := 1432) (by decide +kernel) ?_
  obtain ⟨c846, h⟩ := ck_el h
  refine RN_iald (pc := 1433) (by decide +kernel) c846 ?_
  obtain ⟨c847, h⟩ := ck_el h
  obtain ⟨x850, σ849, f848, h⟩ := bd_el h
  refine RN_callV (M := M_L_law) (pc := 1434) (idx := 161) (as := [.int (gI σ844 v0 (v4 + (1 : Int32)).toNatClampNeg)]) (st := [.int x845]) (t_X12_toss f848) (by decide +kernel) lk_RL_161 rfl ⟨by decide, fun q hq => by cases hq; rfl⟩ c847 (Nat.le_of_ble_eq_true rfl) ⟨Nat.le_of_ble_eq_true rfl, Nat.le_of_ble_eq_true rfl⟩ rfl ?_
  show RN G M_L_law 1437 [some (.ref v0), some (.ref v1), some (.ref v2), some (.ref v3), some (.int v4)] [.int x850, .int x845] σ849 _ _
  refine RN_icmp_eq (pc := 1437) (off := 325) (tgt := 1762) (by decide +kernel) (by decide) (fun c851 => ?_) (fun c851 => ?_)
  · replace h := it_t c851 h
    exact RN_weak (l := [some (.ref v0), some (.ref v1), some (.ref v2), some (.ref v3), some (.int v4)]) (And.intro rfl (And.intro rfl (And.intro rfl (And.intro rfl (And.intro rfl trivial))))) (tb_L_law_1762 n v0 v1 v2 v3 v4 σ849 k23 hk23 h)
  · replace h := it_f c851 h
    refine RN_iconst (pc := 1440) (n := 0) (v := 0) (by decide +kernel) (by decide) ?_
    obtain ⟨rfl, rfl⟩ := some_el2 h
    exact RN_zreturn (by decide +kernel) rfl (Or.inl rfl)
def b_L_law_1442 (k23 : Int32 → Sg → Option (Int32 × Sg)) (n : Nat) (v0 : Nat) (v1 : Nat) (v2 : Nat) (v3 : Nat) (v4 : Int32) (σ : Sg) : Option (Int32 × Sg) :=
  ck (okA σ v0 13 (v4 + (1 : Int32))) <|
  ck (okA σ v0 13 (v4 + (2 : Int32))) <|
  ck (okA σ v0 13 (v4 + (3 : Int32))) <|
  ck (okO σ v1 10) <|
  bd (f_X11_load n v1 (gI σ v0 (v4 + (1 : Int32)).toNatClampNeg) (gI σ v0 (v4 + (2 : Int32)).toNatClampNeg) (gI σ v0 (v4 + (3 : Int32)).toNatClampNeg) σ) fun x859 σ858 =>
  ck (okA σ858 v0 13 (v4 + (1 : Int32))) <|
  ck (okA σ858 v0 13 (v4 + (2 : Int32))) <|
  ck (okA σ858 v0 13 (v4 + (3 : Int32))) <|
  ck (okO σ858 v2 11) <|
  bd (f_X12_load n v2 (gI σ858 v0 (v4 + (1 : Int32)).toNatClampNeg) (gI σ858 v0 (v4 + (2 : Int32)).toNatClampNeg) (gI σ858 v0 (v4 + (3 : Int32)).toNatClampNeg) σ858) fun x866 σ865 =>
  if x859 = x866 then (
    b_L_law_1762 k23 n v0 v1 v2 v3 v4 σ865)
  else (
    some ((0 : Int32), σ865))
set_option maxRecDepth 20000 in
theorem tb_L_law_1442 {G : Gl} {xr : Int32} {σr : Sg} (n : Nat) (v0 : Nat) (v1 : Nat) (v2 : Nat) (v3 : Nat) (v4 : Int32) (σ : Sg) (k23 : Int32 → Sg → Option (Int32 × Sg)) (hk23 : ∀ (c4 : Int32) (τ : Sg), k23 c4 τ = some (xr, σr) → RN G M_L_law 23 [some (.ref v0), some (.ref v1), some (.ref v2), some (.ref v3), some (.int c4)] [] τ (.inl (some (.int xr))) σr) (h : b_L_law_1442 k23 n v0 v1 v2 v3 v4 σ = some (xr, σr)) : RN G M_L_law 1442 [some (.ref v0), some (.ref v1), some (.ref v2), some (.ref v3), some (.int v4)] [] σ (.inl (some (.int xr))) σr := by
  unfold b_L_law_1442 at h
  refine RN_aload_n (pc := 1442) (k := 1) (by decide +kernel) rfl rfl ?_
  refine RN_aload_n (pc := 1443) (k := 0) (by decide +kernel) rfl rfl ?_
  refine RN_iload (pc := 1444) (i := 4) (by decide +kernel) rfl ?_
  refine RN_iconst (pc := 1446) (n := 1) (v := 1) (by decide +kernel) (by decide) ?_
  refine RN_iadd (pc := 1447) (by decide +kernel) ?_
  obtain ⟨c853, h⟩ := ck_el h
  refine RN_iald (pc := 1448) (by decide +kernel) c853 ?_
  refine RN_aload_n (pc := 1449) (k := 0) (by decide +kernel) rfl rfl ?_
  refine RN_iload (pc := 1450) (i := 4) (by decide +kernel) rfl ?_
  refine RN_iconst (pc := 1452) (n := 2) (v := 2) (by decide +kernel) (by decide) ?_
  refine RN_iadd (pc := 1453) (by decide +kernel) ?_
  obtain ⟨c854, h⟩ := ck_el h
  refine RN_iald (pc := 1454) (by decide +kernel) c854 ?_
  refine RN_aload_n (pc := 1455) (k := 0) (by decide +kernel) rfl rfl ?_
  refine RN_iload (pc := 1456) (i := 4) (by decide +kernel) rfl ?_
  refine RN_iconst (pc := 1458) (n := 3) (v := 3) (by decide +kernel) (by decide) ?_
  refine RN_iadd (pc := 1459) (by decide +kernel) ?_
  obtain ⟨c855, h⟩ := ck_el h
  refine RN_iald (pc := 1460) (by decide +kernel) c855 ?_
  obtain ⟨c856, h⟩ := ck_el h
  obtain ⟨x859, σ858, f857, h⟩ := bd_el h
  refine RN_callV (M := M_L_law) (pc := 1461) (idx := 162) (as := [.int (gI σ v0 (v4 + (1 : Int32)).toNatClampNeg), .int (gI σ v0 (v4 + (2 : Int32)).toNatClampNeg), .int (gI σ v0 (v4 + (3 : Int32)).toNatClampNeg)]) (st := []) (t_X11_load f857) (by decide +kernel) lk_RL_162 rfl ⟨by decide, fun q hq => by cases hq; rfl⟩ c856 (Nat.le_of_ble_eq_true rfl) ⟨Nat.le_of_ble_eq_true rfl, Nat.le_of_ble_eq_true rfl⟩ rfl ?_
  show RN G M_L_law 1464 [some (.ref v0), some (.ref v1), some (.ref v2), some (.ref v3), some (.int v4)] [.int x859] σ858 _ _
  refine RN_aload_n (pc := 1464) (k := 2) (by decide +kernel) rfl rfl ?_
  refine RN_aload_n (pc := 1465) (k := 0) (by decide +kernel) rfl rfl ?_
  refine RN_iload (pc := 1466) (i := 4) (by decide +kernel) rfl ?_
  refine RN_iconst (pc := 1468) (n := 1) (v := 1) (by decide +kernel) (by decide) ?_
  refine RN_iadd (pc := 1469) (by decide +kernel) ?_
  obtain ⟨c860, h⟩ := ck_el h
  refine RN_iald (pc := 1470) (by decide +kernel) c860 ?_
  refine RN_aload_n (pc := 1471) (k := 0) (by decide +kernel) rfl rfl ?_
  refine RN_iload (pc := 1472) (i := 4) (by decide +kernel) rfl ?_
  refine RN_iconst (pc := 1474) (n := 2) (v := 2) (by decide +kernel) (by decide) ?_
  refine RN_iadd (pc := 1475) (by decide +kernel) ?_
  obtain ⟨c861, h⟩ := ck_el h
  refine RN_iald (pc := 1476) (by decide +kernel) c861 ?_
  refine RN_aload_n (pc := 1477) (k := 0) (by decide +kernel) rfl rfl ?_
  refine RN_iload (pc := 1478) (i := 4) (by decide +kernel) rfl ?_
  refine RN_iconst (pc := 1480) (n := 3) (v := 3) (by decide +kernel) (by decide) ?_
  refine RN_iadd (pc := 1481) (by decide +kernel) ?_
  obtain ⟨c862, h⟩ := ck_el h
  refine RN_iald (pc := 1482) (by decide +kernel) c862 ?_
  obtain ⟨c863, h⟩ := ck_el h
  obtain ⟨x866, σ865, f864, h⟩ := bd_el h
  refine RN_callV (M := M_L_law) (pc := 1483) (idx := 165) (as := [.int (gI σ858 v0 (v4 + (1 : Int32)).toNatClampNeg), .int (gI σ858 v0 (v4 + (2 : Int32)).toNatClampNeg), .int (gI σ858 v0 (v4 + (3 : Int32)).toNatClampNeg)]) (st := [.int x859]) (t_X12_load f864) (by decide +kernel) lk_RL_165 rfl ⟨by decide, fun q hq => by cases hq; rfl⟩ c863 (Nat.le_of_ble_eq_true rfl) ⟨Nat.le_of_ble_eq_true rfl, Nat.le_of_ble_eq_true rfl⟩ rfl ?_
  show RN G M_L_law 1486 [some (.ref v0), some (.ref v1), some (.ref v2), some (.ref v3), some (.int v4)] [.int x866, .int x859] σ865 _ _
  refine RN_icmp_eq (pc := 1486) (off := 276) (tgt := 1762) (by decide +kernel) (by decide) (fun c867 => ?_) (fun c867 => ?_)
  · replace h := it_t c867 h
    exact RN_weak (l := [some (.ref v0), some (.ref v1), some (.ref v2), some (.ref v3), some (.int v4)]) (And.intro rfl (And.intro rfl (And.intro rfl (And.intro rfl (And.intro rfl trivial))))) (tb_L_law_1762 n v0 v1 v2 v3 v4 σ865 k23 hk23 h)
  · replace h := it_f c867 h
    refine RN_iconst (pc := 1489) (n := 0) (v := 0) (by decide +kernel) (by decide) ?_
    obtain ⟨rfl, rfl⟩ := some_el2 h
    exact RN_zreturn (by decide +kernel) rfl (Or.inl rfl)
def b_L_law_1491 (k23 : Int32 → Sg → Option (Int32 × Sg)) (n : Nat) (v0 : Nat) (v1 : Nat) (v2 : Nat) (v3 : Nat) (v4 : Int32) (σ : Sg) : Option (Int32 × Sg) :=
  ck (okA σ v0 13 (v4 + (1 : Int32))) <|
  ck (okO σ v1 10) <|
  bd (f_X11_clear v1 (gI σ v0 (v4 + (1 : Int32)).toNatClampNeg) σ) fun x873 σ872 =>
  ck (okA σ872 v0 13 (v4 + (1 : Int32))) <|
  ck (okO σ872 v2 11) <|
  bd (f_X12_clear v2 (gI σ872 v0 (v4 + (1 : Int32)).toNatClampNeg) σ872) fun x878 σ877 =>
  if x873 = x878 then (
    b_L_law_1762 k23 n v0 v1 v2 v3 v4 σ877)
  else (
    some ((0 : Int32), σ877))
set_option maxRecDepth 20000 in
theorem tb_L_law_1491 {G : Gl} {xr : Int32} {σr : Sg} (n : Nat) (v0 : Nat) (v1 : Nat) (v2 : Nat) (v3 : Nat) (v4 : Int32) (σ : Sg) (k23 : Int32 → Sg → Option (Int32 × Sg)) (hk23 : ∀ (c4 : Int32) (τ : Sg), k23 c4 τ = some (xr, σr) → RN G M_L_law 23 [some (.ref v0), some (.ref v1), some (.ref v2), some (.ref v3), some (.int c4)] [] τ (.inl (some (.int xr))) σr) (h : b_L_law_1491 k23 n v0 v1 v2 v3 v4 σ = some (xr, σr)) : RN G M_L_law 1491 [some (.ref v0), some (.ref v1), some (.ref v2), some (.ref v3), some (.int v4)] [] σ (.inl (some (.int xr))) σr := by
  unfold b_L_law_1491 at h
  refine RN_aload_n (pc := 1491) (k := 1) (by decide +kernel) rfl rfl ?_
  refine RN_aload_n (pc := 1492) (k := 0) (by decide +kernel) rfl rfl ?_
  refine RN_iload (pc := 1493) (i := 4) (by decide +kernel) rfl ?_
  refine RN_iconst (pc := 1495) (n := 1) (v := 1) (by decide +kernel) (by decide) ?_
  refine RN_iadd (pc := 1496) (by decide +kernel) ?_
  obtain ⟨c869, h⟩ := ck_el h
  refine RN_iald (pc := 1497) (by decide +kernel) c869 ?_
  obtain ⟨c870, h⟩ := ck_el h
  obtain ⟨x873, σ872, f871, h⟩ := bd_el h
  refine RN_callV (M := M_L_law) (pc := 1498) (idx := 166) (as := [.int (gI σ v0 (v4 + (1 : Int32)).toNatClampNeg)]) (st := []) (t_X11_clear f871) (by decide +kernel) lk_RL_166 rfl ⟨by decide, fun q hq => by cases hq; rfl⟩ c870 (Nat.le_of_ble_eq_true rfl) ⟨Nat.le_of_ble_eq_true rfl, Nat.le_of_ble_eq_true rfl⟩ rfl ?_
  show RN G M_L_law 1501 [some (.ref v0), some (.ref v1), some (.ref v2), some (.ref v3), some (.int v4)] [.int x873] σ872 _ _
  refine RN_aload_n (pc := 1501) (k := 2) (by decide +kernel) rfl rfl ?_
  refine RN_aload_n (pc := 1502) (k := 0) (by decide +kernel) rfl rfl ?_
  refine RN_iload (pc := 1503) (i := 4) (by decide +kernel) rfl ?_
  refine RN_iconst (pc := 1505) (n := 1) (v := 1) (by decide +kernel) (by decide) ?_
  refine RN_iadd (pc := 1506) (by decide +kernel) ?_
  obtain ⟨c874, h⟩ := ck_el h
  refine RN_iald (pc := 1507) (by decide +kernel) c874 ?_
  obtain ⟨c875, h⟩ := ck_el h
  obtain ⟨x878, σ877, f876, h⟩ := bd_el h
  refine RN_callV (M := M_L_law) (pc := 1508) (idx := 169) (as := [.int (gI σ872 v0 (v4 + (1 : Int32)).toNatClampNeg)]) (st := [.int x873]) (t_X12_clear f876) (by decide +kernel) lk_RL_169 rfl ⟨by decide, fun q hq => by cases hq; rfl⟩ c875 (Nat.le_of_ble_eq_true rfl) ⟨Nat.le_of_ble_eq_true rfl, Nat.le_of_ble_eq_true rfl⟩ rfl ?_
  show RN G M_L_law 1511 [some (.ref v0), some (.ref v1), some (.ref v2), some (.ref v3), some (.int v4)] [.int x878, .int x873] σ877 _ _
  refine RN_icmp_eq (pc := 1511) (off := 251) (tgt := 1762) (by decide +kernel) (by decide) (fun c879 => ?_) (fun c879 => ?_)
  · replace h := it_t c879 h
    exact RN_weak (l := [some (.ref v0), some (.ref v1), some (.ref v2), some (.ref v3), some (.int v4)]) (And.intro rfl (And.intro rfl (And.intro rfl (And.intro rfl (And.intro rfl trivial))))) (tb_L_law_1762 n v0 v1 v2 v3 v4 σ877 k23 hk23 h)
  · replace h := it_f c879 h
    refine RN_iconst (pc := 1514) (n := 0) (v := 0) (by decide +kernel) (by decide) ?_
    obtain ⟨rfl, rfl⟩ := some_el2 h
    exact RN_zreturn (by decide +kernel) rfl (Or.inl rfl)
def b_L_law_1516 (k23 : Int32 → Sg → Option (Int32 × Sg)) (n : Nat) (v0 : Nat) (v1 : Nat) (v2 : Nat) (v3 : Nat) (v4 : Int32) (σ : Sg) : Option (Int32 × Sg) :=
  ck (okA σ v0 13 (v4 + (1 : Int32))) <|
  ck (okA σ v0 13 (v4 + (2 : Int32))) <|
  ck (okA σ v0 13 (v4 + (3 : Int32))) <|
  ck (okA σ v0 13 (v4 + (4 : Int32))) <|
  ck (okO σ v1 10) <|
  bd (f_X11_put v1 (gI σ v0 (v4 + (1 : Int32)).toNatClampNeg) (gI σ v0 (v4 + (2 : Int32)).toNatClampNeg) ((((gI σ v0 (v4 + (3 : Int32)).toNatClampNeg).toInt64) <<< ((32 : Int32).toInt64 &&& 63)) ||| (((gI σ v0 (v4 + (4 : Int32)).toNatClampNeg).toInt64) &&& (4294967295 : Int64))) σ) fun x888 σ887 =>
  ck (okA σ887 v0 13 (v4 + (1 : Int32))) <|
  ck (okA σ887 v0 13 (v4 + (2 : Int32))) <|
  ck (okA σ887 v0 13 (v4 + (3 : Int32))) <|
  ck (okA σ887 v0 13 (v4 + (4 : Int32))) <|
  ck (okO σ887 v2 11) <|
  bd (f_X12_put v2 (gI σ887 v0 (v4 + (1 : Int32)).toNatClampNeg) (gI σ887 v0 (v4 + (2 : Int32)).toNatClampNeg) ((((gI σ887 v0 (v4 + (3 : Int32)).toNatClampNeg).toInt64) <<< ((32 : Int32).toInt64 &&& 63)) ||| (((gI σ887 v0 (v4 + (4 : Int32)).toNatClampNeg).toInt64) &&& (4294967295 : Int64))) σ887) fun x896 σ895 =>
  if x888 = x896 then (
    b_L_law_1762 k23 n v0 v1 v2 v3 v4 σ895)
  else (
    some ((0 : Int32), σ895))
set_option maxRecDepth 20000 in
theorem tb_L_law_1516 {G : Gl} {xr : Int32} {σr : Sg} (n : Nat) (v0 : Nat) (v1 : Nat) (v2 : Nat) (v3 : Nat) (v4 : Int32) (σ : Sg) (k23 : Int32 → Sg → Option (Int32 × Sg)) (hk23 : ∀ (c4 : Int32) (τ : Sg), k23 c4 τ = some (xr, σr) → RN G M_L_law 23 [some (.ref v0), some (.ref v1), some (.ref v2), some (.ref v3), some (.int c4)] [] τ (.inl (some (.int xr))) σr) (h : b_L_law_1516 k23 n v0 v1 v2 v3 v4 σ = some (xr, σr)) : RN G M_L_law 1516 [some (.ref v0), some (.ref v1), some (.ref v2), some (.ref v3), some (.int v4)] [] σ (.inl (some (.int xr))) σr := by
  unfold b_L_law_1516 at h
  refine RN_aload_n (pc := 1516) (k := 1) (by decide +kernel) rfl rfl ?_
  refine RN_aload_n (pc := 1517) (k := 0) (by decide +kernel) rfl rfl ?_
  refine RN_iload (pc := 1518) (i := 4) (by decide +kernel) rfl ?_
  refine RN_iconst (pc := 1520) (n := 1) (v := 1) (by decide +kernel) (by decide) ?_
  refine RN_iadd (pc := 1521) (by decide +kernel) ?_
  obtain ⟨c881, h⟩ := ck_el h
  refine RN_iald (pc := 1522) (by decide +kernel) c881 ?_
  refine RN_aload_n (pc := 1523) (k := 0) (by decide +kernel) rfl rfl ?_
  refine RN_iload (pc := 1524) (i := 4) (by decide +kernel) rfl ?_
  refine RN_iconst (pc := 1526) (n := 2) (v := 2) (by decide +kernel) (by decide) ?_
  refine RN_iadd (pc := 1527) (by decide +kernel) ?_
  obtain ⟨c882, h⟩ := ck_el h
  refine RN_iald (pc := 1528) (by decide +kernel) c882 ?_
  refine RN_aload_n (pc := 1529) (k := 0) (by decide +kernel) rfl rfl ?_
  refine RN_iload (pc := 1530) (i := 4) (by decide +kernel) rfl ?_
  refine RN_iconst (pc := 1532) (n := 3) (v := 3) (by decide +kernel) (by decide) ?_
  refine RN_iadd (pc := 1533) (by decide +kernel) ?_
  obtain ⟨c883, h⟩ := ck_el h
  refine RN_iald (pc := 1534) (by decide +kernel) c883 ?_
  refine RN_i2l (pc := 1535) (by decide +kernel) ?_
  refine RN_bipush (pc := 1536) (n := 32) (v := 32) (by decide +kernel) (by decide) ?_
  refine RN_lshl (pc := 1538) (by decide +kernel) ?_
  refine RN_aload_n (pc := 1539) (k := 0) (by decide +kernel) rfl rfl ?_
  refine RN_iload (pc := 1540) (i := 4) (by decide +kernel) rfl ?_
  refine RN_iconst (pc := 1542) (n := 4) (v := 4) (by decide +kernel) (by decide) ?_
  refine RN_iadd (pc := 1543) (by decide +kernel) ?_
  obtain ⟨c884, h⟩ := ck_el h
  refine RN_iald (pc := 1544) (by decide +kernel) c884 ?_
  refine RN_i2l (pc := 1545) (by decide +kernel) ?_
  refine RN_ldc2 (pc := 1546) (idx := 140) (v := 4294967295) (by decide +kernel) kc_RL_140 ?_
  refine RN_land (pc := 1549) (by decide +kernel) ?_
  refine RN_lor (pc := 1550) (by decide +kernel) ?_
  obtain ⟨c885, h⟩ := ck_el h
  obtain ⟨x888, σ887, f886, h⟩ := bd_el h
  refine RN_callV (M := M_L_law) (pc := 1551) (idx := 170) (as := [.int (gI σ v0 (v4 + (1 : Int32)).toNatClampNeg), .int (gI σ v0 (v4 + (2 : Int32)).toNatClampNeg), .long ((((gI σ v0 (v4 + (3 : Int32)).toNatClampNeg).toInt64) <<< ((32 : Int32).toInt64 &&& 63)) ||| (((gI σ v0 (v4 + (4 : Int32)).toNatClampNeg).toInt64) &&& (4294967295 : Int64)))]) (st := []) (t_X11_put f886) (by decide +kernel) lk_RL_170 rfl ⟨by decide, fun q hq => by cases hq; rfl⟩ c885 (Nat.le_of_ble_eq_true rfl) ⟨Nat.le_of_ble_eq_true rfl, Nat.le_of_ble_eq_true rfl⟩ rfl ?_
  show RN G M_L_law 1554 [some (.ref v0), some (.ref v1), some (.ref v2), some (.ref v3), some (.int v4)] [.int x888] σ887 _ _
  refine RN_aload_n (pc := 1554) (k := 2) (by decide +kernel) rfl rfl ?_
  refine RN_aload_n (pc := 1555) (k := 0) (by decide +kernel) rfl rfl ?_
  refine RN_iload (pc := 1556) (i := 4) (by decide +kernel) rfl ?_
  refine RN_iconst (pc := 1558) (n := 1) (v := 1) (by decide +kernel) (by decide) ?_
  refine RN_iadd (pc := 1559) (by decide +kernel) ?_
  obtain ⟨c889, h⟩ := ck_el h
  refine RN_iald (pc := 1560) (by decide +kernel) c889 ?_
  refine RN_aload_n (pc := 1561) (k := 0) (by decide +kernel) rfl rfl ?_
  refine RN_iload (pc := 1562) (i := 4) (by decide +kernel) rfl ?_
  refine RN_iconst (pc := 1564) (n := 2) (v := 2) (by decide +kernel) (by decide) ?_
  refine RN_iadd (pc := 1565) (by decide +kernel) ?_
  obtain ⟨c890, h⟩ := ck_el h
  refine RN_iald (pc := 1566) (by decide +kernel) c890 ?_
  refine RN_aload_n (pc := 1567) (k := 0) (by decide +kernel) rfl rfl ?_
  refine RN_iload (pc := 1568) (i := 4) (by decide +kernel) rfl ?_
  refine RN_iconst (pc := 1570) (n := 3) (v := 3) (by decide +kernel) (by decide) ?_
  refine RN_iadd (pc := 1571) (by decide +kernel) ?_
  obtain ⟨c891, h⟩ := ck_el h
  refine RN_iald (pc := 1572) (by decide +kernel) c891 ?_
  refine RN_i2l (pc := 1573) (by decide +kernel) ?_
  refine RN_bipush (pc := 1574) (n := 32) (v := 32) (by decide +kernel) (by decide) ?_
  refine RN_lshl (pc := 1576) (by decide +kernel) ?_
  refine RN_aload_n (pc := 1577) (k := 0) (by decide +kernel) rfl rfl ?_
  refine RN_iload (pc := 1578) (i := 4) (by decide +kernel) rfl ?_
  refine RN_iconst (pc := 1580) (n := 4) (v := 4) (by decide +kernel) (by decide) ?_
  refine RN_iadd (pc := 1581) (by decide +kernel) ?_
  obtain ⟨c892, h⟩ := ck_el h
  refine RN_iald (pc := 1582) (by decide +kernel) c892 ?_
  refine RN_i2l (pc := 1583) (by decide +kernel) ?_
  refine RN_ldc2 (pc := 1584) (idx := 140) (v := 4294967295) (by decide +kernel) kc_RL_140 ?_
  refine RN_land (pc := 1587) (by decide +kernel) ?_
  refine RN_lor (pc := 1588) (by decide +kernel) ?_
  obtain ⟨c893, h⟩ := ck_el h
  obtain ⟨x896, σ895, f894, h⟩ := bd_el h
  refine RN_callV (M := M_L_law) (pc := 1589) (idx := 174) (as := [.int (gI σ887 v0 (v4 + (1 : Int32)).toNatClampNeg), .int (gI σ887 v0 (v4 + (2 : Int32)).toNatClampNeg), .long ((((gI σ887 v0 (v4 + (3 : Int32)).toNatClampNeg).toInt64) <<< ((32 : Int32).toInt64 &&& 63)) ||| (((gI σ887 v0 (v4 + (4 : Int32)).toNatClampNeg).toInt64) &&& (4294967295 : Int64)))]) (st := [.int x888]) (t_X12_put f894) (by decide +kernel) lk_RL_174 rfl ⟨by decide, fun q hq => by cases hq; rfl⟩ c893 (Nat.le_of_ble_eq_true rfl) ⟨Nat.le_of_ble_eq_true rfl, Nat.le_of_ble_eq_true rfl⟩ rfl ?_
  show RN G M_L_law 1592 [some (.ref v0), some (.ref v1), some (.ref v2), some (.ref v3), some (.int v4)] [.int x896, .int x888] σ895 _ _
  refine RN_icmp_eq (pc := 1592) (off := 170) (tgt := 1762) (by decide +kernel) (by decide) (fun c897 => ?_) (fun c897 => ?_)
  · replace h := it_t c897 h
    exact RN_weak (l := [some (.ref v0), some (.ref v1), some (.ref v2), some (.ref v3), some (.int v4)]) (And.intro rfl (And.intro rfl (And.intro rfl (And.intro rfl (And.intro rfl trivial))))) (tb_L_law_1762 n v0 v1 v2 v3 v4 σ895 k23 hk23 h)
  · replace h := it_f c897 h
    refine RN_iconst (pc := 1595) (n := 0) (v := 0) (by decide +kernel) (by decide) ?_
    obtain ⟨rfl, rfl⟩ := some_el2 h
    exact RN_zreturn (by decide +kernel) rfl (Or.inl rfl)
def b_L_law_1661 (k23 : Int32 → Sg → Option (Int32 × Sg)) (n : Nat) (v0 : Nat) (v1 : Nat) (v2 : Nat) (v3 : Nat) (v4 : Int32) (σ : Sg) : Option (Int32 × Sg) :=
  b_L_law_1762 k23 n v0 v1 v2 v3 v4 σ
set_option maxRecDepth 20000 in
theorem tb_L_law_1661 {G : Gl} {xr : Int32} {σr : Sg} (n : Nat) (v0 : Nat) (v1 : Nat) (v2 : Nat) (v3 : Nat) (v4 : Int32) (σ : Sg) (k23 : Int32 → Sg → Option (Int32 × Sg)) (hk23 : ∀ (c4 : Int32) (τ : Sg), k23 c4 τ = some (xr, σr) → RN G M_L_law 23 [some (.ref v0), some (.ref v1), some (.ref v2), some (.ref v3), some (.int c4)] [] τ (.inl (some (.int xr))) σr) (h : b_L_law_1661 k23 n v0 v1 v2 v3 v4 σ = some (xr, σr)) : RN G M_L_law 1661 [some (.ref v0), some (.ref v1), some (.ref v2), some (.ref v3), some (.int v4)] [] σ (.inl (some (.int xr))) σr := by
  unfold b_L_law_1661 at h
  refine RN_goto (pc := 1661) (off := 101) (tgt := 1762) (by decide +kernel) (by decide) ?_
  exact RN_weak (l := [some (.ref v0), some (.ref v1), some (.ref v2), some (.ref v3), some (.int v4)]) (And.intro rfl (And.intro rfl (And.intro rfl (And.intro rfl (And.intro rfl trivial))))) (tb_L_law_1762 n v0 v1 v2 v3 v4 σ k23 hk23 h)
def b_L_law_1597 (k23 : Int32 → Sg → Option (Int32 × Sg)) (n : Nat) (v0 : Nat) (v1 : Nat) (v2 : Nat) (v3 : Nat) (v4 : Int32) (σ : Sg) : Option (Int32 × Sg) :=
  ck (okA σ v0 13 (v4 + (1 : Int32))) <|
  ck (okA σ v0 13 (v4 + (2 : Int32))) <|
  bd (f_L_at v1 (gI σ v0 (v4 + (1 : Int32)).toNatClampNeg) (gI σ v0 (v4 + (2 : Int32)).toNatClampNeg) v3 σ) fun x903 σ902 =>
  ck (okA σ902 v0 13 (v4 + (1 : Int32))) <|
  ck (okA σ902 v0 13 (v4 + (2 : Int32))) <|
  ck (okO σ902 v2 11) <|
  bd (f_X12_at v2 (gI σ902 v0 (v4 + (1 : Int32)).toNatClampNeg) (gI σ902 v0 (v4 + (2 : Int32)).toNatClampNeg) σ902) fun x909 σ908 =>
  ck (okO σ908 v2 11) <|
  bp (f_X12_thrown v2 σ908) fun x912 =>
  if x912 = x903 then (
    if x903 = 0 then (
      ck (okA σ908 v3 14 (0 : Int32)) <|
      if (gJ σ908 v3 (0 : Int32).toNatClampNeg) = x909 then (
        b_L_law_1661 k23 n v0 v1 v2 v3 v4 σ908)
      else (
        some ((0 : Int32), σ908)))
    else (
      b_L_law_1661 k23 n v0 v1 v2 v3 v4 σ908))
  else (
    some ((0 : Int32), σ908))
set_option maxRecDepth 20000 in
theorem tb_L_law_1597 {G : Gl} {xr : Int32} {σr : Sg} (n : Nat) (v0 : Nat) (v1 : Nat) (v2 : Nat) (v3 : Nat) (v4 : Int32) (σ : Sg) (k23 : Int32 → Sg → Option (Int32 × Sg)) (hk23 : ∀ (c4 : Int32) (τ : Sg), k23 c4 τ = some (xr, σr) → RN G M_L_law 23 [some (.ref v0), some (.ref v1), some (.ref v2), some (.ref v3), some (.int c4)] [] τ (.inl (some (.int xr))) σr) (h : b_L_law_1597 k23 n v0 v1 v2 v3 v4 σ = some (xr, σr)) : RN G M_L_law 1597 [some (.ref v0), some (.ref v1), some (.ref v2), some (.ref v3), some (.int v4)] [] σ (.inl (some (.int xr))) σr := by
  unfold b_L_law_1597 at h
  refine RN_aload_n (pc := 1597) (k := 1) (by decide +kernel) rfl rfl ?_
  refine RN_aload_n (pc := 1598) (k := 0) (by decide +kernel) rfl rfl ?_
  refine RN_iload (pc := 1599) (i := 4) (by decide +kernel) rfl ?_
  refine RN_iconst (pc := 1601) (n := 1) (v := 1) (by decide +kernel) (by decide) ?_
  refine RN_iadd (pc := 1602) (by decide +kernel) ?_
  obtain ⟨c899, h⟩ := ck_el h
  refine RN_iald (pc := 1603) (by decide +kernel) c899 ?_
  refine RN_aload_n (pc := 1604) (k := 0) (by decide +kernel) rfl rfl ?_
  refine RN_iload (pc := 1605) (i := 4) (by decide +kernel) rfl ?_
  refine RN_iconst (pc := 1607) (n := 2) (v := 2) (by decide +kernel) (by decide) ?_
  refine RN_iadd (pc := 1608) (by decide +kernel) ?_
  obtain ⟨c900, h⟩ := ck_el h
  refine RN_iald (pc := 1609) (by decide +kernel) c900 ?_
  refine RN_aload_n (pc := 1610) (k := 3) (by decide +kernel) rfl rfl ?_
  obtain ⟨x903, σ902, f901, h⟩ := bd_el h
  refine RN_callH (M := M_L_law) (M2 := M_L_at) (pc := 1611) (idx := 175) (n := 4) (as := [.ref v1, .int (gI σ v0 (v4 + (1 : Int32)).toNatClampNeg), .int (gI σ v0 (v4 + (2 : Int32)).toNatClampNeg), .ref v3]) (st := []) (t_L_at f901) (by decide +kernel) lk_RL_175_1 lk_RL_175_2 lk_RL_175_3 lk_RL_175_4 ⟨by decide, by decide, by decide +kernel⟩ rfl (Nat.le_of_ble_eq_true rfl) ⟨Nat.le_of_ble_eq_true rfl, Nat.le_of_ble_eq_true rfl⟩ rfl ?_
  show RN G M_L_law 1614 [some (.ref v0), some (.ref v1), some (.ref v2), some (.ref v3), some (.int v4)] [.int x903] σ902 _ _
  refine RN_istore (pc := 1614) (i := 5) (ls2 := [some (.ref v0), some (.ref v1), some (.ref v2), some (.ref v3), some (.int v4), some (.int x903)]) (by decide +kernel) (by decide) rfl ?_
  refine RN_aload_n (pc := 1616) (k := 2) (by decide +kernel) rfl rfl ?_
  refine RN_aload_n (pc := 1617) (k := 0) (by decide +kernel) rfl rfl ?_
  refine RN_iload (pc := 1618) (i := 4) (by decide +kernel) rfl ?_
  refine RN_iconst (pc := 1620) (n := 1) (v := 1) (by decide +kernel) (by decide) ?_
  refine RN_iadd (pc := 1621) (by decide +kernel) ?_
  obtain ⟨c904, h⟩ := ck_el h
  refine RN_iald (pc := 1622) (by decide +kernel) c904 ?_
  refine RN_aload_n (pc := 1623) (k := 0) (by decide +kernel) rfl rfl ?_
  refine RN_iload (pc := 1624) (i := 4) (by decide +kernel) rfl ?_
  refine RN_iconst (pc := 1626) (n := 2) (v := 2) (by decide +kernel) (by decide) ?_
  refine RN_iadd (pc := 1627) (by decide +kernel) ?_
  obtain ⟨c905, h⟩ := ck_el h
  refine RN_iald (pc := 1628) (by decide +kernel) c905 ?_
  obtain ⟨c906, h⟩ := ck_el h
  obtain ⟨x909, σ908, f907, h⟩ := bd_el h
  refine RN_callV (M := M_L_law) (pc := 1629) (idx := 177) (as := [.int (gI σ902 v0 (v4 + (1 : Int32)).toNatClampNeg), .int (gI σ902 v0 (v4 + (2 : Int32)).toNatClampNeg)]) (st := []) (t_X12_at f907) (by decide +kernel) lk_RL_177 rfl ⟨by decide, fun q hq => by cases hq; rfl⟩ c906 (Nat.le_of_ble_eq_true rfl) ⟨Nat.le_of_ble_eq_true rfl, Nat.le_of_ble_eq_true rfl⟩ rfl ?_
  show RN G M_L_law 1632 [some (.ref v0), some (.ref v1), some (.ref v2), some (.ref v3), some (.int v4), some (.int x903)] [.long x909] σ908 _ _
  refine RN_lstore (pc := 1632) (i := 6) (ls2 := [some (.ref v0), some (.ref v1), some (.ref v2), some (.ref v3), some (.int v4), some (.int x903), some (.long x909), none]) (by decide +kernel) (by decide) rfl ?_
  refine RN_aload_n (pc := 1634) (k := 2) (by decide +kernel) rfl rfl ?_
  obtain ⟨c910, h⟩ := ck_el h
  obtain ⟨x912, f911, h⟩ := bp_el h
  refine RN_callV (M := M_L_law) (pc := 1635) (idx := 104) (as := []) (st := []) (t_X12_thrown f911) (by decide +kernel) lk_RL_104 rfl ⟨by decide, fun q hq => by cases hq; rfl⟩ c910 (Nat.le_of_ble_eq_true rfl) ⟨Nat.le_of_ble_eq_true rfl, Nat.le_of_ble_eq_true rfl⟩ rfl ?_
  show RN G M_L_law 1638 [some (.ref v0), some (.ref v1), some (.ref v2), some (.ref v3), some (.int v4), some (.int x903), some (.long x909), none] [.int x912] σ908 _ _
  refine RN_iload (pc := 1638) (i := 5) (by decide +kernel) rfl ?_
  refine RN_icmp_eq (pc := 1640) (off := 5) (tgt := 1645) (by decide +kernel) (by decide) (fun c913 => ?_) (fun c913 => ?_)
  · replace h := it_t c913 h
    refine RN_iload (pc := 1645) (i := 5) (by decide +kernel) rfl ?_
    refine RN_if_ne (pc := 1647) (off := 14) (tgt := 1661) (by decide +kernel) (by decide) (fun c914 => ?_) (fun c914 => ?_)
    · replace h := it_f c914 h
      exact RN_weak (l := [some (.ref v0), some (.ref v1), some (.ref v2), some (.ref v3), some (.int v4)]) (And.intro rfl (And.intro rfl (And.intro rfl (And.intro rfl (And.intro rfl trivial))))) (tb_L_law_1661 n v0 v1 v2 v3 v4 σ908 k23 hk23 h)
    · replace h := it_t c914 h
      refine RN_aload_n (pc := 1650) (k := 3) (by decide +kernel) rfl rfl ?_
      refine RN_iconst (pc := 1651) (n := 0) (v := 0) (by decide +kernel) (by decide) ?_
      obtain ⟨c915, h⟩ := ck_el h
      refine RN_lald (pc := 1652) (by decide +kernel) c915 ?_
      refine RN_lload (pc := 1653) (i := 6) (by decide +kernel) rfl ?_
      refine RN_lc_eq (pc := 1655) (off := 5) (tgt := 1661) (by decide +kernel) (by decide +kernel) (by decide) (fun c916 => ?_) (fun c916 => ?_)
      · replace h := it_t c916 h
        exact RN_weak (l := [some (.ref v0), some (.ref v1), some (.ref v2), some (.ref v3), some (.int v4)]) (And.intro rfl (And.intro rfl (And.intro rfl (And.intro rfl (And.intro rfl trivial))))) (tb_L_law_1661 n v0 v1 v2 v3 v4 σ908 k23 hk23 h)
      · replace h := it_f c916 h
        refine RN_iconst (pc := 1659) (n := 0) (v := 0) (by decide +kernel) (by decide) ?_
        obtain ⟨rfl, rfl⟩ := some_el2 h
        exact RN_zreturn (by decide +kernel) rfl (Or.inl rfl)
  · replace h := it_f c913 h
    refine RN_iconst (pc := 1643) (n := 0) (v := 0) (by decide +kernel) (by decide) ?_
    obtain ⟨rfl, rfl⟩ := some_el2 h
    exact RN_zreturn (by decide +kernel) rfl (Or.inl rfl)
def b_L_law_1664 (k23 : Int32 → Sg → Option (Int32 × Sg)) (n : Nat) (v0 : Nat) (v1 : Nat) (v2 : Nat) (v3 : Nat) (v4 : Int32) (σ : Sg) : Option (Int32 × Sg) :=
  ck (okA σ v0 13 (v4 + (1 : Int32))) <|
  ck (okA σ v0 13 (v4 + (2 : Int32))) <|
  ck (okA σ v0 13 (v4 + (3 : Int32))) <|
  ck (okA σ v0 13 (v4 + (4 : Int32))) <|
  ck (okA σ v0 13 (v4 + (5 : Int32))) <|
  ck (okO σ v1 10) <|
  bd (f_X11_copy v1 (gI σ v0 (v4 + (1 : Int32)).toNatClampNeg) (gI σ v0 (v4 + (2 : Int32)).toNatClampNeg) (gI σ v0 (v4 + (3 : Int32)).toNatClampNeg) (gI σ v0 (v4 + (4 : Int32)).toNatClampNeg) (gI σ v0 (v4 + (5 : Int32)).toNatClampNeg) σ) fun x926 σ925 =>
  ck (okA σ925 v0 13 (v4 + (1 : Int32))) <|
  ck (okA σ925 v0 13 (v4 + (2 : Int32))) <|
  ck (okA σ925 v0 13 (v4 + (3 : Int32))) <|
  ck (okA σ925 v0 13 (v4 + (4 : Int32))) <|
  ck (okA σ925 v0 13 (v4 + (5 : Int32))) <|
  ck (okO σ925 v2 11) <|
  bd (f_X12_copy n v2 (gI σ925 v0 (v4 + (1 : Int32)).toNatClampNeg) (gI σ925 v0 (v4 + (2 : Int32)).toNatClampNeg) (gI σ925 v0 (v4 + (3 : Int32)).toNatClampNeg) (gI σ925 v0 (v4 + (4 : Int32)).toNatClampNeg) (gI σ925 v0 (v4 + (5 : Int32)).toNatClampNeg) σ925) fun x935 σ934 =>
  if x926 = x935 then (
    b_L_law_1762 k23 n v0 v1 v2 v3 v4 σ934)
  else (
    some ((0 : Int32), σ934))
set_option maxRecDepth 20000 in
theorem tb_L_law_1664 {G : Gl} {xr : Int32} {σr : Sg} (n : Nat) (v0 : Nat) (v1 : Nat) (v2 : Nat) (v3 : Nat) (v4 : Int32) (σ : Sg) (k23 : Int32 → Sg → Option (Int32 × Sg)) (hk23 : ∀ (c4 : Int32) (τ : Sg), k23 c4 τ = some (xr, σr) → RN G M_L_law 23 [some (.ref v0), some (.ref v1), some (.ref v2), some (.ref v3), some (.int c4)] [] τ (.inl (some (.int xr))) σr) (h : b_L_law_1664 k23 n v0 v1 v2 v3 v4 σ = some (xr, σr)) : RN G M_L_law 1664 [some (.ref v0), some (.ref v1), some (.ref v2), some (.ref v3), some (.int v4)] [] σ (.inl (some (.int xr))) σr := by
  unfold b_L_law_1664 at h
  refine RN_aload_n (pc := 1664) (k := 1) (by decide +kernel) rfl rfl ?_
  refine RN_aload_n (pc := 1665) (k := 0) (by decide +kernel) rfl rfl ?_
  refine RN_iload (pc := 1666) (i := 4) (by decide +kernel) rfl ?_
  refine RN_iconst (pc := 1668) (n := 1) (v := 1) (by decide +kernel) (by decide) ?_
  refine RN_iadd (pc := 1669) (by decide +kernel) ?_
  obtain ⟨c918, h⟩ := ck_el h
  refine RN_iald (pc := 1670) (by decide +kernel) c918 ?_
  refine RN_aload_n (pc := 1671) (k := 0) (by decide +kernel) rfl rfl ?_
  refine RN_iload (pc := 1672) (i := 4) (by decide +kernel) rfl ?_
  refine RN_iconst (pc := 1674) (n := 2) (v := 2) (by decide +kernel) (by decide) ?_
  refine RN_iadd (pc := 1675) (by decide +kernel) ?_
  obtain ⟨c919, h⟩ := ck_el h
  refine RN_iald (pc := 1676) (by decide +kernel) c919 ?_
  refine RN_aload_n (pc := 1677) (k := 0) (by decide +kernel) rfl rfl ?_
  refine RN_iload (pc := 1678) (i := 4) (by decide +kernel) rfl ?_
  refine RN_iconst (pc := 1680) (n := 3) (v := 3) (by decide +kernel) (by decide) ?_
  refine RN_iadd (pc := 1681) (by decide +kernel) ?_
  obtain ⟨c920, h⟩ := ck_el h
  refine RN_iald (pc := 1682) (by decide +kernel) c920 ?_
  refine RN_aload_n (pc := 1683) (k := 0) (by decide +kernel) rfl rfl ?_
  refine RN_iload (pc := 1684) (i := 4) (by decide +kernel) rfl ?_
  refine RN_iconst (pc := 1686) (n := 4) (v := 4) (by decide +kernel) (by decide) ?_
  refine RN_iadd (pc := 1687) (by decide +kernel) ?_
  obtain ⟨c921, h⟩ := ck_el h
  refine RN_iald (pc := 1688) (by decide +kernel) c921 ?_
  refine RN_aload_n (pc := 1689) (k := 0) (by decide +kernel) rfl rfl ?_
  refine RN_iload (pc := 1690) (i := 4) (by decide +kernel) rfl ?_
  refine RN_iconst (pc := 1692) (n := 5) (v := 5) (by decide +kernel) (by decide) ?_
  refine RN_iadd (pc := 1693) (by decide +kernel) ?_
  obtain ⟨c922, h⟩ := ck_el h
  refine RN_iald (pc := 1694) (by decide +kernel) c922 ?_
  obtain ⟨c923, h⟩ := ck_el h
  obtain ⟨x926, σ925, f924, h⟩ := bd_el h
  refine RN_callV (M := M_L_law) (pc := 1695) (idx := 178) (as := [.int (gI σ v0 (v4 + (1 : Int32)).toNatClampNeg), .int (gI σ v0 (v4 + (2 : Int32)).toNatClampNeg), .int (gI σ v0 (v4 + (3 : Int32)).toNatClampNeg), .int (gI σ v0 (v4 + (4 : Int32)).toNatClampNeg), .int (gI σ v0 (v4 + (5 : Int32)).toNatClampNeg)]) (st := []) (t_X11_copy f924) (by decide +kernel) lk_RL_178 rfl ⟨by decide, fun q hq => by cases hq; rfl⟩ c923 (Nat.le_of_ble_eq_true rfl) ⟨Nat.le_of_ble_eq_true rfl, Nat.le_of_ble_eq_true rfl⟩ rfl ?_
  show RN G M_L_law 1698 [some (.ref v0), some (.ref v1), some (.ref v2), some (.ref v3), some (.int v4)] [.int x926] σ925 _ _
  refine RN_aload_n (pc := 1698) (k := 2) (by decide +kernel) rfl rfl ?_
  refine RN_aload_n (pc := 1699) (k := 0) (by decide +kernel) rfl rfl ?_
  refine RN_iload (pc := 1700) (i := 4) (by decide +kernel) rfl ?_
  refine RN_iconst (pc := 1702) (n := 1) (v := 1) (by decide +kernel) (by decide) ?_
  refine RN_iadd (pc := 1703) (by decide +kernel) ?_
  obtain ⟨c927, h⟩ := ck_el h
  refine RN_iald (pc := 1704) (by decide +kernel) c927 ?_
  refine RN_aload_n (pc := 1705) (k := 0) (by decide +kernel) rfl rfl ?_
  refine RN_iload (pc := 1706) (i := 4) (by decide +kernel) rfl ?_
  refine RN_iconst (pc := 1708) (n := 2) (v := 2) (by decide +kernel) (by decide) ?_
  refine RN_iadd (pc := 1709) (by decide +kernel) ?_
  obtain ⟨c928, h⟩ := ck_el h
  refine RN_iald (pc := 1710) (by decide +kernel) c928 ?_
  refine RN_aload_n (pc := 1711) (k := 0) (by decide +kernel) rfl rfl ?_
  refine RN_iload (pc := 1712) (i := 4) (by decide +kernel) rfl ?_
  refine RN_iconst (pc := 1714) (n := 3) (v := 3) (by decide +kernel) (by decide) ?_
  refine RN_iadd (pc := 1715) (by decide +kernel) ?_
  obtain ⟨c929, h⟩ := ck_el h
  refine RN_iald (pc := 1716) (by decide +kernel) c929 ?_
  refine RN_aload_n (pc := 1717) (k := 0) (by decide +kernel) rfl rfl ?_
  refine RN_iload (pc := 1718) (i := 4) (by decide +kernel) rfl ?_
  refine RN_iconst (pc := 1720) (n := 4) (v := 4) (by decide +kernel) (by decide) ?_
  refine RN_iadd (pc := 1721) (by decide +kernel) ?_
  obtain ⟨c930, h⟩ := ck_el h
  refine RN_iald (pc := 1722) (by decide +kernel) c930 ?_
  refine RN_aload_n (pc := 1723) (k := 0) (by decide +kernel) rfl rfl ?_
  refine RN_iload (pc := 1724) (i := 4) (by decide +kernel) rfl ?_
  refine RN_iconst (pc := 1726) (n := 5) (v := 5) (by decide +kernel) (by decide) ?_
  refine RN_iadd (pc := 1727) (by decide +kernel) ?_
  obtain ⟨c931, h⟩ := ck_el h
  refine RN_iald (pc := 1728) (by decide +kernel) c931 ?_
  obtain ⟨c932, h⟩ := ck_el h
  obtain ⟨x935, σ934, f933, h⟩ := bd_el h
  refine RN_callV (M := M_L_law) (pc := 1729) (idx := 181) (as := [.int (gI σ925 v0 (v4 + (1 : Int32)).toNatClampNeg), .int (gI σ925 v0 (v4 + (2 : Int32)).toNatClampNeg), .int (gI σ925 v0 (v4 + (3 : Int32)).toNatClampNeg), .int (gI σ925 v0 (v4 + (4 : Int32)).toNatClampNeg), .int (gI σ925 v0 (v4 + (5 : Int32)).toNatClampNeg)]) (st := [.int x926]) (t_X12_copy f933) (by decide +kernel) lk_RL_181 rfl ⟨by decide, fun q hq => by cases hq; rfl⟩ c932 (Nat.le_of_ble_eq_true rfl) ⟨Nat.le_of_ble_eq_true rfl, Nat.le_of_ble_eq_true rfl⟩ rfl ?_
  show RN G M_L_law 1732 [some (.ref v0), some (.ref v1), some (.ref v2), some (.ref v3), some (.int v4)] [.int x935, .int x926] σ934 _ _
  refine RN_icmp_eq (pc := 1732) (off := 30) (tgt := 1762) (by decide +kernel) (by decide) (fun c936 => ?_) (fun c936 => ?_)
  · replace h := it_t c936 h
    exact RN_weak (l := [some (.ref v0), some (.ref v1), some (.ref v2), some (.ref v3), some (.int v4)]) (And.intro rfl (And.intro rfl (And.intro rfl (And.intro rfl (And.intro rfl trivial))))) (tb_L_law_1762 n v0 v1 v2 v3 v4 σ934 k23 hk23 h)
  · replace h := it_f c936 h
    refine RN_iconst (pc := 1735) (n := 0) (v := 0) (by decide +kernel) (by decide) ?_
    obtain ⟨rfl, rfl⟩ := some_el2 h
    exact RN_zreturn (by decide +kernel) rfl (Or.inl rfl)
def b_L_law_1737 (k23 : Int32 → Sg → Option (Int32 × Sg)) (n : Nat) (v0 : Nat) (v1 : Nat) (v2 : Nat) (v3 : Nat) (v4 : Int32) (σ : Sg) : Option (Int32 × Sg) :=
  ck (okA σ v0 13 (v4 + (1 : Int32))) <|
  ck (okO σ v1 10) <|
  bp (f_X11_count v1 (gI σ v0 (v4 + (1 : Int32)).toNatClampNeg) σ) fun x941 =>
  ck (okO σ v2 11) <|
  bp (f_X12_count v2 (gI σ v0 (v4 + (1 : Int32)).toNatClampNeg) σ) fun x944 =>
  if x941 = x944 then (
    b_L_law_1762 k23 n v0 v1 v2 v3 v4 σ)
  else (
    some ((0 : Int32), σ))
set_option maxRecDepth 20000 in
theorem tb_L_law_1737 {G : Gl} {xr : Int32} {σr : Sg} (n : Nat) (v0 : Nat) (v1 : Nat) (v2 : Nat) (v3 : Nat) (v4 : Int32) (σ : Sg) (k23 : Int32 → Sg → Option (Int32 × Sg)) (hk23 : ∀ (c4 : Int32) (τ : Sg), k23 c4 τ = some (xr, σr) → RN G M_L_law 23 [some (.ref v0), some (.ref v1), some (.ref v2), some (.ref v3), some (.int c4)] [] τ (.inl (some (.int xr))) σr) (h : b_L_law_1737 k23 n v0 v1 v2 v3 v4 σ = some (xr, σr)) : RN G M_L_law 1737 [some (.ref v0), some (.ref v1), some (.ref v2), some (.ref v3), some (.int v4)] [] σ (.inl (some (.int xr))) σr := by
  unfold b_L_law_1737 at h
  refine RN_aload_n (pc := 1737) (k := 1) (by decide +kernel) rfl rfl ?_
  refine RN_aload_n (pc := 1738) (k := 0) (by decide +kernel) rfl rfl ?_
  refine RN_iload (pc := 1739) (i := 4) (by decide +kernel) rfl ?_
  refine RN_iconst (pc := 1741) (n := 1) (v := 1) (by decide +kernel) (by decide) ?_
  refine RN_iadd (pc := 1742) (by decide +kernel) ?_
  obtain ⟨c938, h⟩ := ck_el h
  refine RN_iald (pc := 1743) (by decide +kernel) c938 ?_
  obtain ⟨c939, h⟩ := ck_el h
  obtain ⟨x941, f940, h⟩ := bp_el h
  refine RN_callV (M := M_L_law) (pc := 1744) (idx := 182) (as := [.int (gI σ v0 (v4 + (1 : Int32)).toNatClampNeg)]) (st := []) (t_X11_count f940) (by decide +kernel) lk_RL_182 rfl ⟨by decide, fun q hq => by cases hq; rfl⟩ c939 (Nat.le_of_ble_eq_true rfl) ⟨Nat.le_of_ble_eq_true rfl, Nat.le_of_ble_eq_true rfl⟩ rfl ?_
  show RN G M_L_law 1747 [some (.ref v0), some (.ref v1), some (.ref v2), some (.ref v3), some (.int v4)] [.int x941] σ _ _
  refine RN_aload_n (pc := 1747) (k := 2) (by decide +kernel) rfl rfl ?_
  refine RN_aload_n (pc := 1748) (k := 0) (by decide +kernel) rfl rfl ?_
  refine RN_iload (pc := 1749) (i := 4) (by decide +kernel) rfl ?_
  refine RN_iconst (pc := 1751) (n := 1) (v := 1) (by decide +kernel) (by decide) ?_
  refine RN_iadd (pc := 1752) (by decide +kernel) ?_
  refine RN_iald (pc := 1753) (by decide +kernel) c938 ?_
  obtain ⟨c942, h⟩ := ck_el h
  obtain ⟨x944, f943, h⟩ := bp_el h
  refine RN_callV (M := M_L_law) (pc := 1754) (idx := 185) (as := [.int (gI σ v0 (v4 + (1 : Int32)).toNatClampNeg)]) (st := [.int x941]) (t_X12_count f943) (by decide +kernel) lk_RL_185 rfl ⟨by decide, fun q hq => by cases hq; rfl⟩ c942 (Nat.le_of_ble_eq_true rfl) ⟨Nat.le_of_ble_eq_true rfl, Nat.le_of_ble_eq_true rfl⟩ rfl ?_
  show RN G M_L_law 1757 [some (.ref v0), some (.ref v1), some (.ref v2), some (.ref v3), some (.int v4)] [.int x944, .int x941] σ _ _
  refine RN_icmp_eq (pc := 1757) (off := 5) (tgt := 1762) (by decide +kernel) (by decide) (fun c945 => ?_) (fun c945 => ?_)
  · replace h := it_t c945 h
    exact RN_weak (l := [some (.ref v0), some (.ref v1), some (.ref v2), some (.ref v3), some (.int v4)]) (And.intro rfl (And.intro rfl (And.intro rfl (And.intro rfl (And.intro rfl trivial))))) (tb_L_law_1762 n v0 v1 v2 v3 v4 σ k23 hk23 h)
  · replace h := it_f c945 h
    refine RN_iconst (pc := 1760) (n := 0) (v := 0) (by decide +kernel) (by decide) ?_
    obtain ⟨rfl, rfl⟩ := some_el2 h
    exact RN_zreturn (by decide +kernel) rfl (Or.inl rfl)
def b_L_law_23 : Nat → Nat → Nat → Nat → Nat → Int32 → Sg → Option (Int32 × Sg)
  | 0, _, _, _, _, _, _ => none
  | n + 1, v0, v1, v2, v3, v4, σ =>
  ck (okL σ v0) <|
  if ((Int32.ofNat (sK σ v0).2) - (6 : Int32)) < v4 then (
    some ((1 : Int32), σ))
  else (
    ck (okA σ v0 13 v4) <|
    if ((gI σ v0 v4.toNatClampNeg) &&& (63 : Int32)) = 0 then (
      b_L_law_188 (fun c4 τ => b_L_law_23 n v0 v1 v2 v3 c4 τ) n v0 v1 v2 v3 v4 σ)
    else (
    if ((gI σ v0 v4.toNatClampNeg) &&& (63 : Int32)) = 1 then (
      b_L_law_201 (fun c4 τ => b_L_law_23 n v0 v1 v2 v3 c4 τ) n v0 v1 v2 v3 v4 σ)
    else (
    if ((gI σ v0 v4.toNatClampNeg) &&& (63 : Int32)) = 2 then (
      b_L_law_250 (fun c4 τ => b_L_law_23 n v0 v1 v2 v3 c4 τ) n v0 v1 v2 v3 v4 σ)
    else (
    if ((gI σ v0 v4.toNatClampNeg) &&& (63 : Int32)) = 3 then (
      b_L_law_275 (fun c4 τ => b_L_law_23 n v0 v1 v2 v3 c4 τ) n v0 v1 v2 v3 v4 σ)
    else (
    if ((gI σ v0 v4.toNatClampNeg) &&& (63 : Int32)) = 4 then (
      b_L_law_288 (fun c4 τ => b_L_law_23 n v0 v1 v2 v3 c4 τ) n v0 v1 v2 v3 v4 σ)
    else (
    if ((gI σ v0 v4.toNatClampNeg) &&& (63 : Int32)) = 5 then (
      b_L_law_325 (fun c4 τ => b_L_law_23 n v0 v1 v2 v3 c4 τ) n v0 v1 v2 v3 v4 σ)
    else (
    if ((gI σ v0 v4.toNatClampNeg) &&& (63 : Int32)) = 6 then (
      b_L_law_338 (fun c4 τ => b_L_law_23 n v0 v1 v2 v3 c4 τ) n v0 v1 v2 v3 v4 σ)
    else (
    if ((gI σ v0 v4.toNatClampNeg) &&& (63 : Int32)) = 7 then (
      b_L_law_411 (fun c4 τ => b_L_law_23 n v0 v1 v2 v3 c4 τ) n v0 v1 v2 v3 v4 σ)
    else (
    if ((gI σ v0 v4.toNatClampNeg) &&& (63 : Int32)) = 8 then (
      b_L_law_472 (fun c4 τ => b_L_law_23 n v0 v1 v2 v3 c4 τ) n v0 v1 v2 v3 v4 σ)
    else (
    if ((gI σ v0 v4.toNatClampNeg) &&& (63 : Int32)) = 9 then (
      b_L_law_521 (fun c4 τ => b_L_law_23 n v0 v1 v2 v3 c4 τ) n v0 v1 v2 v3 v4 σ)
    else (
    if ((gI σ v0 v4.toNatClampNeg) &&& (63 : Int32)) = 10 then (
      b_L_law_546 (fun c4 τ => b_L_law_23 n v0 v1 v2 v3 c4 τ) n v0 v1 v2 v3 v4 σ)
    else (
    if ((gI σ v0 v4.toNatClampNeg) &&& (63 : Int32)) = 11 then (
      b_L_law_583 (fun c4 τ => b_L_law_23 n v0 v1 v2 v3 c4 τ) n v0 v1 v2 v3 v4 σ)
    else (
    if ((gI σ v0 v4.toNatClampNeg) &&& (63 : Int32)) = 12 then (
      b_L_law_596 (fun c4 τ => b_L_law_23 n v0 v1 v2 v3 c4 τ) n v0 v1 v2 v3 v4 σ)
    else (
    if ((gI σ v0 v4.toNatClampNeg) &&& (63 : Int32)) = 13 then (
      b_L_law_651 (fun c4 τ => b_L_law_23 n v0 v1 v2 v3 c4 τ) n v0 v1 v2 v3 v4 σ)
    else (
    if ((gI σ v0 v4.toNatClampNeg) &&& (63 : Int32)) = 14 then (
      b_L_law_718 (fun c4 τ => b_L_law_23 n v0 v1 v2 v3 c4 τ) n v0 v1 v2 v3 v4 σ)
    else (
    if ((gI σ v0 v4.toNatClampNeg) &&& (63 : Int32)) = 15 then (
      b_L_law_773 (fun c4 τ => b_L_law_23 n v0 v1 v2 v3 c4 τ) n v0 v1 v2 v3 v4 σ)
    else (
    if ((gI σ v0 v4.toNatClampNeg) &&& (63 : Int32)) = 16 then (
      b_L_law_828 (fun c4 τ => b_L_law_23 n v0 v1 v2 v3 c4 τ) n v0 v1 v2 v3 v4 σ)
    else (
    if ((gI σ v0 v4.toNatClampNeg) &&& (63 : Int32)) = 17 then (
      b_L_law_895 (fun c4 τ => b_L_law_23 n v0 v1 v2 v3 c4 τ) n v0 v1 v2 v3 v4 σ)
    else (
    if ((gI σ v0 v4.toNatClampNeg) &&& (63 : Int32)) = 18 then (
      b_L_law_968 (fun c4 τ => b_L_law_23 n v0 v1 v2 v3 c4 τ) n v0 v1 v2 v3 v4 σ)
    else (
    if ((gI σ v0 v4.toNatClampNeg) &&& (63 : Int32)) = 19 then (
      b_L_law_993 (fun c4 τ => b_L_law_23 n v0 v1 v2 v3 c4 τ) n v0 v1 v2 v3 v4 σ)
    else (
    if ((gI σ v0 v4.toNatClampNeg) &&& (63 : Int32)) = 20 then (
      b_L_law_1097 (fun c4 τ => b_L_law_23 n v0 v1 v2 v3 c4 τ) n v0 v1 v2 v3 v4 σ)
    else (
    if ((gI σ v0 v4.toNatClampNeg) &&& (63 : Int32)) = 21 then (
      b_L_law_1158 (fun c4 τ => b_L_law_23 n v0 v1 v2 v3 c4 τ) n v0 v1 v2 v3 v4 σ)
    else (
    if ((gI σ v0 v4.toNatClampNeg) &&& (63 : Int32)) = 22 then (
      b_L_law_1195 (fun c4 τ => b_L_law_23 n v0 v1 v2 v3 c4 τ) n v0 v1 v2 v3 v4 σ)
    else (
    if ((gI σ v0 v4.toNatClampNeg) &&& (63 : Int32)) = 23 then (
      b_L_law_1318 (fun c4 τ => b_L_law_23 n v0 v1 v2 v3 c4 τ) n v0 v1 v2 v3 v4 σ)
    else (
    if ((gI σ v0 v4.toNatClampNeg) &&& (63 : Int32)) = 24 then (
      b_L_law_1367 (fun c4 τ => b_L_law_23 n v0 v1 v2 v3 c4 τ) n v0 v1 v2 v3 v4 σ)
    else (
    if ((gI σ v0 v4.toNatClampNeg) &&& (63 : Int32)) = 25 then (
      b_L_law_1392 (fun c4 τ => b_L_law_23 n v0 v1 v2 v3 c4 τ) n v0 v1 v2 v3 v4 σ)
    else (
    if ((gI σ v0 v4.toNatClampNeg) &&& (63 : Int32)) = 26 then (
      b_L_law_1417 (fun c4 τ => b_L_law_23 n v0 v1 v2 v3 c4 τ) n v0 v1 v2 v3 v4 σ)
    else (
    if ((gI σ v0 v4.toNatClampNeg) &&& (63 : Int32)) = 27 then (
      b_L_law_1442 (fun c4 τ => b_L_law_23 n v0 v1 v2 v3 c4 τ) n v0 v1 v2 v3 v4 σ)
    else (
    if ((gI σ v0 v4.toNatClampNeg) &&& (63 : Int32)) = 28 then (
      b_L_law_1491 (fun c4 τ => b_L_law_23 n v0 v1 v2 v3 c4 τ) n v0 v1 v2 v3 v4 σ)
    else (
    if ((gI σ v0 v4.toNatClampNeg) &&& (63 : Int32)) = 29 then (
      b_L_law_1516 (fun c4 τ => b_L_law_23 n v0 v1 v2 v3 c4 τ) n v0 v1 v2 v3 v4 σ)
    else (
    if ((gI σ v0 v4.toNatClampNeg) &&& (63 : Int32)) = 30 then (
      b_L_law_1597 (fun c4 τ => b_L_law_23 n v0 v1 v2 v3 c4 τ) n v0 v1 v2 v3 v4 σ)
    else (
    if ((gI σ v0 v4.toNatClampNeg) &&& (63 : Int32)) = 31 then (
      b_L_law_1664 (fun c4 τ => b_L_law_23 n v0 v1 v2 v3 c4 τ) n v0 v1 v2 v3 v4 σ)
    else (
    if ((gI σ v0 v4.toNatClampNeg) &&& (63 : Int32)) = 32 then (
      b_L_law_1737 (fun c4 τ => b_L_law_23 n v0 v1 v2 v3 c4 τ) n v0 v1 v2 v3 v4 σ)
    else (
      b_L_law_1762 (fun c4 τ => b_L_law_23 n v0 v1 v2 v3 c4 τ) n v0 v1 v2 v3 v4 σ))))))))))))))))))))))))))))))))))
set_option maxRecDepth 20000 in
theorem tb_L_law_23 {G : Gl} {xr : Int32} {σr : Sg} (v0 : Nat) (v1 : Nat) (v2 : Nat) (v3 : Nat) : ∀ (n : Nat) (v4 : Int32) (σ : Sg), b_L_law_23 n v0 v1 v2 v3 v4 σ = some (xr, σr) → RN G M_L_law 23 [some (.ref v0), some (.ref v1), some (.ref v2), some (.ref v3), some (.int v4)] [] σ (.inl (some (.int xr))) σr := by
  intro n
  induction n with
  | zero =>
    intro v4 σ h
    exact none_el h
  | succ n ih =>
    intro v4 σ h
    rw [b_L_law_23] at h
    refine RN_iload (pc := 23) (i := 4) (by decide +kernel) rfl ?_
    refine RN_aload_n (pc := 25) (k := 0) (by decide +kernel) rfl rfl ?_
    obtain ⟨c442, h⟩ := ck_el h
    refine RN_alen (pc := 26) (by decide +kernel) c442 ?_
    refine RN_bipush (pc := 27) (n := 6) (v := 6) (by decide +kernel) (by decide) ?_
    refine RN_isub (pc := 29) (by decide +kernel) ?_
    refine RN_icmp_gt (pc := 30) (off := 1738) (tgt := 1768) (by decide +kernel) (by decide) (fun c443 => ?_) (fun c443 => ?_)
    · replace h := it_t c443 h
      refine RN_iconst (pc := 1768) (n := 1) (v := 1) (by decide +kernel) (by decide) ?_
      obtain ⟨rfl, rfl⟩ := some_el2 h
      exact RN_zreturn (by decide +kernel) rfl (Or.inr rfl)
    · replace h := it_f c443 h
      refine RN_aload_n (pc := 33) (k := 0) (by decide +kernel) rfl rfl ?_
      refine RN_iload (pc := 34) (i := 4) (by decide +kernel) rfl ?_
      obtain ⟨c444, h⟩ := ck_el h
      refine RN_iald (pc := 36) (by decide +kernel) c444 ?_
      refine RN_bipush (pc := 37) (n := 63) (v := 63) (by decide +kernel) (by decide) ?_
      refine RN_iand (pc := 39) (by decide +kernel) ?_
      by_cases c445 : ((gI σ v0 v4.toNatClampNeg) &&& (63 : Int32)) = 0
      · replace h := it_t c445 h
        refine RN_tsw (pc := 40) (dflt := 1722) (lo := 0) (hi := 32) (offs := #[148, 161, 210, 235, 248, 285, 298, 371, 432, 481, 506, 543, 556, 611, 678, 733, 788, 855, 928, 953, 1057, 1118, 1155, 1278, 1327, 1352, 1377, 1402, 1451, 1476, 1557, 1624, 1697]) (len := 148) (v := 0) (off := 148) (tgt := 188) c445 (by decide +kernel) (by decide) (by decide) (by decide +kernel) (by decide) ?_
        exact RN_weak (l := [some (.ref v0), some (.ref v1), some (.ref v2), some (.ref v3), some (.int v4)]) (And.intro rfl (And.intro rfl (And.intro rfl (And.intro rfl (And.intro rfl trivial))))) (tb_L_law_188 n v0 v1 v2 v3 v4 σ _ (fun c4 τ h => ih c4 τ h) h)
      · replace h := it_f c445 h
        by_cases c456 : ((gI σ v0 v4.toNatClampNeg) &&& (63 : Int32)) = 1
        · replace h := it_t c456 h
          refine RN_tsw (pc := 40) (dflt := 1722) (lo := 0) (hi := 32) (offs := #[148, 161, 210, 235, 248, 285, 298, 371, 432, 481, 506, 543, 556, 611, 678, 733, 788, 855, 928, 953, 1057, 1118, 1155, 1278, 1327, 1352, 1377, 1402, 1451, 1476, 1557, 1624, 1697]) (len := 148) (v := 1) (off := 161) (tgt := 201) c456 (by decide +kernel) (by decide) (by decide) (by decide +kernel) (by decide) ?_
          exact RN_weak (l := [some (.ref v0), some (.ref v1), some (.ref v2), some (.ref v3), some (.int v4)]) (And.intro rfl (And.intro rfl (And.intro rfl (And.intro rfl (And.intro rfl trivial))))) (tb_L_law_201 n v0 v1 v2 v3 v4 σ _ (fun c4 τ h => ih c4 τ h) h)
        · replace h := it_f c456 h
          by_cases c472 : ((gI σ v0 v4.toNatClampNeg) &&& (63 : Int32)) = 2
          · replace h := it_t c472 h
            refine RN_tsw (pc := 40) (dflt := 1722) (lo := 0) (hi := 32) (offs := #[148, 161, 210, 235, 248, 285, 298, 371, 432, 481, 506, 543, 556, 611, 678, 733, 788, 855, 928, 953, 1057, 1118, 1155, 1278, 1327, 1352, 1377, 1402, 1451, 1476, 1557, 1624, 1697]) (len := 148) (v := 2) (off := 210) (tgt := 250) c472 (by decide +kernel) (by decide) (by decide) (by decide +kernel) (by decide) ?_
            exact RN_weak (l := [some (.ref v0), some (.ref v1), some (.ref v2), some (.ref v3), some (.int v4)]) (And.intro rfl (And.intro rfl (And.intro rfl (And.intro rfl (And.intro rfl trivial))))) (tb_L_law_250 n v0 v1 v2 v3 v4 σ _ (fun c4 τ h => ih c4 τ h) h)
          · replace h := it_f c472 h
            by_cases c484 : ((gI σ v0 v4.toNatClampNeg) &&& (63 : Int32)) = 3
            · replace h := it_t c484 h
              refine RN_tsw (pc := 40) (dflt := 1722) (lo := 0) (hi := 32) (offs := #[148, 161, 210, 235, 248, 285, 298, 371, 432, 481, 506, 543, 556, 611, 678, 733, 788, 855, 928, 953, 1057, 1118, 1155, 1278, 1327, 1352, 1377, 1402, 1451, 1476, 1557, 1624, 1697]) (len := 148) (v := 3) (off := 235) (tgt := 275) c484 (by decide +kernel) (by decide) (by decide) (by decide +kernel) (by decide) ?_
              exact RN_weak (l := [some (.ref v0), some (.ref v1), some (.ref v2), some (.ref v3), some (.int v4)]) (And.intro rfl (And.intro rfl (And.intro rfl (And.intro rfl (And.intro rfl trivial))))) (tb_L_law_275 n v0 v1 v2 v3 v4 σ _ (fun c4 τ h => ih c4 τ h) h)
            · replace h := it_f c484 h
              by_cases c494 : ((gI σ v0 v4.toNatClampNeg) &&& (63 : Int32)) = 4
              · replace h := it_t c494 h
                refine RN_tsw (pc := 40) (dflt := 1722) (lo := 0) (hi := 32) (offs := #[148, 161, 210, 235, 248, 285, 298, 371, 432, 481, 506, 543, 556, 611, 678, 733, 788, 855, 928, 953, 1057, 1118, 1155, 1278, 1327, 1352, 1377, 1402, 1451, 1476, 1557, 1624, 1697]) (len := 148) (v := 4) (off := 248) (tgt := 288) c494 (by decide +kernel) (by decide) (by decide) (by decide +kernel) (by decide) ?_
                exact RN_weak (l := [some (.ref v0), some (.ref v1), some (.ref v2), some (.ref v3), some (.int v4)]) (And.intro rfl (And.intro rfl (And.intro rfl (And.intro rfl (And.intro rfl trivial))))) (tb_L_law_288 n v0 v1 v2 v3 v4 σ _ (fun c4 τ h => ih c4 τ h) h)
              · replace h := it_f c494 h
                by_cases c508 : ((gI σ v0 v4.toNatClampNeg) &&& (63 : Int32)) = 5
                · replace h := it_t c508 h
                  refine RN_tsw (pc := 40) (dflt := 1722) (lo := 0) (hi := 32) (offs := #[148, 161, 210, 235, 248, 285, 298, 371, 432, 481, 506, 543, 556, 611, 678, 733, 788, 855, 928, 953, 1057, 1118, 1155, 1278, 1327, 1352, 1377, 1402, 1451, 1476, 1557, 1624, 1697]) (len := 148) (v := 5) (off := 285) (tgt := 325) c508 (by decide +kernel) (by decide) (by decide) (by decide +kernel) (by decide) ?_
                  exact RN_weak (l := [some (.ref v0), some (.ref v1), some (.ref v2), some (.ref v3), some (.int v4)]) (And.intro rfl (And.intro rfl (And.intro rfl (And.intro rfl (And.intro rfl trivial))))) (tb_L_law_325 n v0 v1 v2 v3 v4 σ _ (fun c4 τ h => ih c4 τ h) h)
                · replace h := it_f c508 h
                  by_cases c518 : ((gI σ v0 v4.toNatClampNeg) &&& (63 : Int32)) = 6
                  · replace h := it_t c518 h
                    refine RN_tsw (pc := 40) (dflt := 1722) (lo := 0) (hi := 32) (offs := #[148, 161, 210, 235, 248, 285, 298, 371, 432, 481, 506, 543, 556, 611, 678, 733, 788, 855, 928, 953, 1057, 1118, 1155, 1278, 1327, 1352, 1377, 1402, 1451, 1476, 1557, 1624, 1697]) (len := 148) (v := 6) (off := 298) (tgt := 338) c518 (by decide +kernel) (by decide) (by decide) (by decide +kernel) (by decide) ?_
                    exact RN_weak (l := [some (.ref v0), some (.ref v1), some (.ref v2), some (.ref v3), some (.int v4)]) (And.intro rfl (And.intro rfl (And.intro rfl (And.intro rfl (And.intro rfl trivial))))) (tb_L_law_338 n v0 v1 v2 v3 v4 σ _ (fun c4 τ h => ih c4 τ h) h)
                  · replace h := it_f c518 h
                    by_cases c538 : ((gI σ v0 v4.toNatClampNeg) &&& (63 : Int32)) = 7
                    · replace h := it_t c538 h
                      refine RN_tsw (pc := 40) (dflt := 1722) (lo := 0) (hi := 32) (offs := #[148, 161, 210, 235, 248, 285, 298, 371, 432, 481, 506, 543, 556, 611, 678, 733, 788, 855, 928, 953, 1057, 1118, 1155, 1278, 1327, 1352, 1377, 1402, 1451, 1476, 1557, 1624, 1697]) (len := 148) (v := 7) (off := 371) (tgt := 411) c538 (by decide +kernel) (by decide) (by decide) (by decide +kernel) (by decide) ?_
                      exact RN_weak (l := [some (.ref v0), some (.ref v1), some (.ref v2), some (.ref v3), some (.int v4)]) (And.intro rfl (And.intro rfl (And.intro rfl (And.intro rfl (And.intro rfl trivial))))) (tb_L_law_411 n v0 v1 v2 v3 v4 σ _ (fun c4 τ h => ih c4 τ h) h)
                    · replace h := it_f c538 h
                      by_cases c556 : ((gI σ v0 v4.toNatClampNeg) &&& (63 : Int32)) = 8
                      · replace h := it_t c556 h
                        refine RN_tsw (pc := 40) (dflt := 1722) (lo := 0) (hi := 32) (offs := #[148, 161, 210, 235, 248, 285, 298, 371, 432, 481, 506, 543, 556, 611, 678, 733, 788, 855, 928, 953, 1057, 1118, 1155, 1278, 1327, 1352, 1377, 1402, 1451, 1476, 1557, 1624, 1697]) (len := 148) (v := 8) (off := 432) (tgt := 472) c556 (by decide +kernel) (by decide) (by decide) (by decide +kernel) (by decide) ?_
                        exact RN_weak (l := [some (.ref v0), some (.ref v1), some (.ref v2), some (.ref v3), some (.int v4)]) (And.intro rfl (And.intro rfl (And.intro rfl (And.intro rfl (And.intro rfl trivial))))) (tb_L_law_472 n v0 v1 v2 v3 v4 σ _ (fun c4 τ h => ih c4 τ h) h)
                      · replace h := it_f c556 h
                        by_cases c567 : ((gI σ v0 v4.toNatClampNeg) &&& (63 : Int32)) = 9
                        · replace h := it_t c567 h
                          refine RN_tsw (pc := 40) (dflt := 1722) (lo := 0) (hi := 32) (offs := #[148, 161, 210, 235, 248, 285, 298, 371, 432, 481, 506, 543, 556, 611, 678, 733, 788, 855, 928, 953, 1057, 1118, 1155, 1278, 1327, 1352, 1377, 1402, 1451, 1476, 1557, 1624, 1697]) (len := 148) (v := 9) (off := 481) (tgt := 521) c567 (by decide +kernel) (by decide) (by decide) (by decide +kernel) (by decide) ?_
                          exact RN_weak (l := [some (.ref v0), some (.ref v1), some (.ref v2), some (.ref v3), some (.int v4)]) (And.intro rfl (And.intro rfl (And.intro rfl (And.intro rfl (And.intro rfl trivial))))) (tb_L_law_521 n v0 v1 v2 v3 v4 σ _ (fun c4 τ h => ih c4 τ h) h)
                        · replace h := it_f c567 h
                          by_cases c579 : ((gI σ v0 v4.toNatClampNeg) &&& (63 : Int32)) = 10
                          · replace h := it_t c579 h
                            refine RN_tsw (pc := 40) (dflt := 1722) (lo := 0) (hi := 32) (offs := #[148, 161, 210, 235, 248, 285, 298, 371, 432, 481, 506, 543, 556, 611, 678, 733, 788, 855, 928, 953, 1057, 1118, 1155, 1278, 1327, 1352, 1377, 1402, 1451, 1476, 1557, 1624, 1697]) (len := 148) (v := 10) (off := 506) (tgt := 546) c579 (by decide +kernel) (by decide) (by decide) (by decide +kernel) (by decide) ?_
                            exact RN_weak (l := [some (.ref v0), some (.ref v1), some (.ref v2), some (.ref v3), some (.int v4)]) (And.intro rfl (And.intro rfl (And.intro rfl (And.intro rfl (And.intro rfl trivial))))) (tb_L_law_546 n v0 v1 v2 v3 v4 σ _ (fun c4 τ h => ih c4 τ h) h)
                          · replace h := it_f c579 h
                            by_cases c593 : ((gI σ v0 v4.toNatClampNeg) &&& (63 : Int32)) = 11
                            · replace h := it_t c593 h
                              refine RN_tsw (pc := 40) (dflt := 1722) (lo := 0) (hi := 32) (offs := #[148, 161, 210, 235, 248, 285, 298, 371, 432, 481, 506, 543, 556, 611, 678, 733, 788, 855, 928, 953, 1057, 1118, 1155, 1278, 1327, 1352, 1377, 1402, 1451, 1476, 1557, 1624, 1697]) (len := 148) (v := 11) (off := 543) (tgt := 583) c593 (by decide +kernel) (by decide) (by decide) (by decide +kernel) (by decide) ?_
                              exact RN_weak (l := [some (.ref v0), some (.ref v1), some (.ref v2), some (.ref v3), some (.int v4)]) (And.intro rfl (And.intro rfl (And.intro rfl (And.intro rfl (And.intro rfl trivial))))) (tb_L_law_583 n v0 v1 v2 v3 v4 σ _ (fun c4 τ h => ih c4 τ h) h)
                            · replace h := it_f c593 h
                              by_cases c601 : ((gI σ v0 v4.toNatClampNeg) &&& (63 : Int32)) = 12
                              · replace h := it_t c601 h
                                refine RN_tsw (pc := 40) (dflt := 1722) (lo := 0) (hi := 32) (offs := #[148, 161, 210, 235, 248, 285, 298, 371, 432, 481, 506, 543, 556, 611, 678, 733, 788, 855, 928, 953, 1057, 1118, 1155, 1278, 1327, 1352, 1377, 1402, 1451, 1476, 1557, 1624, 1697]) (len := 148) (v := 12) (off := 556) (tgt := 596) c601 (by decide +kernel) (by decide) (by decide) (by decide +kernel) (by decide) ?_
                                exact RN_weak (l := [some (.ref v0), some (.ref v1), some (.ref v2), some (.ref v3), some (.int v4)]) (And.intro rfl (And.intro rfl (And.intro rfl (And.intro rfl (And.intro rfl trivial))))) (tb_L_law_596 n v0 v1 v2 v3 v4 σ _ (fun c4 τ h => ih c4 τ h) h)
                              · replace h := it_f c601 h
                                by_cases c618 : ((gI σ v0 v4.toNatClampNeg) &&& (63 : Int32)) = 13
                                · replace h := it_t c618 h
                                  refine RN_tsw (pc := 40) (dflt := 1722) (lo := 0) (hi := 32) (offs := #[148, 161, 210, 235, 248, 285, 298, 371, 432, 481, 506, 543, 556, 611, 678, 733, 788, 855, 928, 953, 1057, 1118, 1155, 1278, 1327, 1352, 1377, 1402, 1451, 1476, 1557, 1624, 1697]) (len := 148) (v := 13) (off := 611) (tgt := 651) c618 (by decide +kernel) (by decide) (by decide) (by decide +kernel) (by decide) ?_
                                  exact RN_weak (l := [some (.ref v0), some (.ref v1), some (.ref v2), some (.ref v3), some (.int v4)]) (And.intro rfl (And.intro rfl (And.intro rfl (And.intro rfl (And.intro rfl trivial))))) (tb_L_law_651 n v0 v1 v2 v3 v4 σ _ (fun c4 τ h => ih c4 τ h) h)
                                · replace h := it_f c618 h
                                  by_cases c637 : ((gI σ v0 v4.toNatClampNeg) &&& (63 : Int32)) = 14
                                  · replace h := it_t c637 h
                                    refine RN_tsw (pc := 40) (dflt := 1722) (lo := 0) (hi := 32) (offs := #[148, 161, 210, 235, 248, 285, 298, 371, 432, 481, 506, 543, 556, 611, 678, 733, 788, 855, 928, 953, 1057, 1118, 1155, 1278, 1327, 1352, 1377, 1402, 1451, 1476, 1557, 1624, 1697]) (len := 148) (v := 14) (off := 678) (tgt := 718) c637 (by decide +kernel) (by decide) (by decide) (by decide +kernel) (by decide) ?_
                                    exact RN_weak (l := [some (.ref v0), some (.ref v1), some (.ref v2), some (.ref v3), some (.int v4)]) (And.intro rfl (And.intro rfl (And.intro rfl (And.intro rfl (And.intro rfl trivial))))) (tb_L_law_718 n v0 v1 v2 v3 v4 σ _ (fun c4 τ h => ih c4 τ h) h)
                                  · replace h := it_f c637 h
                                    by_cases c654 : ((gI σ v0 v4.toNatClampNeg) &&& (63 : Int32)) = 15
                                    · replace h := it_t c654 h
                                      refine RN_tsw (pc := 40) (dflt := 1722) (lo := 0) (hi := 32) (offs := #[148, 161, 210, 235, 248, 285, 298, 371, 432, 481, 506, 543, 556, 611, 678, 733, 788, 855, 928, 953, 1057, 1118, 1155, 1278, 1327, 1352, 1377, 1402, 1451, 1476, 1557, 1624, 1697]) (len := 148) (v := 15) (off := 733) (tgt := 773) c654 (by decide +kernel) (by decide) (by decide) (by decide +kernel) (by decide) ?_
                                      exact RN_weak (l := [some (.ref v0), some (.ref v1), some (.ref v2), some (.ref v3), some (.int v4)]) (And.intro rfl (And.intro rfl (And.intro rfl (And.intro rfl (And.intro rfl trivial))))) (tb_L_law_773 n v0 v1 v2 v3 v4 σ _ (fun c4 τ h => ih c4 τ h) h)
                                    · replace h := it_f c654 h
                                      by_cases c671 : ((gI σ v0 v4.toNatClampNeg) &&& (63 : Int32)) = 16
                                      · replace h := it_t c671 h
                                        refine RN_tsw (pc := 40) (dflt := 1722) (lo := 0) (hi := 32) (offs := #[148, 161, 210, 235, 248, 285, 298, 371, 432, 481, 506, 543, 556, 611, 678, 733, 788, 855, 928, 953, 1057, 1118, 1155, 1278, 1327, 1352, 1377, 1402, 1451, 1476, 1557, 1624, 1697]) (len := 148) (v := 16) (off := 788) (tgt := 828) c671 (by decide +kernel) (by decide) (by decide) (by decide +kernel) (by decide) ?_
                                        exact RN_weak (l := [some (.ref v0), some (.ref v1), some (.ref v2), some (.ref v3), some (.int v4)]) (And.intro rfl (And.intro rfl (And.intro rfl (And.intro rfl (And.intro rfl trivial))))) (tb_L_law_828 n v0 v1 v2 v3 v4 σ _ (fun c4 τ h => ih c4 τ h) h)
                                      · replace h := it_f c671 h
                                        by_cases c690 : ((gI σ v0 v4.toNatClampNeg) &&& (63 : Int32)) = 17
                                        · replace h := it_t c690 h
                                          refine RN_tsw (pc := 40) (dflt := 1722) (lo := 0) (hi := 32) (offs := #[148, 161, 210, 235, 248, 285, 298, 371, 432, 481, 506, 543, 556, 611, 678, 733, 788, 855, 928, 953, 1057, 1118, 1155, 1278, 1327, 1352, 1377, 1402, 1451, 1476, 1557, 1624, 1697]) (len := 148) (v := 17) (off := 855) (tgt := 895) c690 (by decide +kernel) (by decide) (by decide) (by decide +kernel) (by decide) ?_
                                          exact RN_weak (l := [some (.ref v0), some (.ref v1), some (.ref v2), some (.ref v3), some (.int v4)]) (And.intro rfl (And.intro rfl (And.intro rfl (And.intro rfl (And.intro rfl trivial))))) (tb_L_law_895 n v0 v1 v2 v3 v4 σ _ (fun c4 τ h => ih c4 τ h) h)
                                        · replace h := it_f c690 h
                                          by_cases c710 : ((gI σ v0 v4.toNatClampNeg) &&& (63 : Int32)) = 18
                                          · replace h := it_t c710 h
                                            refine RN_tsw (pc := 40) (dflt := 1722) (lo := 0) (hi := 32) (offs := #[148, 161, 210, 235, 248, 285, 298, 371, 432, 481, 506, 543, 556, 611, 678, 733, 788, 855, 928, 953, 1057, 1118, 1155, 1278, 1327, 1352, 1377, 1402, 1451, 1476, 1557, 1624, 1697]) (len := 148) (v := 18) (off := 928) (tgt := 968) c710 (by decide +kernel) (by decide) (by decide) (by decide +kernel) (by decide) ?_
                                            exact RN_weak (l := [some (.ref v0), some (.ref v1), some (.ref v2), some (.ref v3), some (.int v4)]) (And.intro rfl (And.intro rfl (And.intro rfl (And.intro rfl (And.intro rfl trivial))))) (tb_L_law_968 n v0 v1 v2 v3 v4 σ _ (fun c4 τ h => ih c4 τ h) h)
                                          · replace h := it_f c710 h
                                            by_cases c722 : ((gI σ v0 v4.toNatClampNeg) &&& (63 : Int32)) = 19
                                            · replace h := it_t c722 h
                                              refine RN_tsw (pc := 40) (dflt := 1722) (lo := 0) (hi := 32) (offs := #[148, 161, 210, 235, 248, 285, 298, 371, 432, 481, 506, 543, 556, 611, 678, 733, 788, 855, 928, 953, 1057, 1118, 1155, 1278, 1327, 1352, 1377, 1402, 1451, 1476, 1557, 1624, 1697]) (len := 148) (v := 19) (off := 953) (tgt := 993) c722 (by decide +kernel) (by decide) (by decide) (by decide +kernel) (by decide) ?_
                                              exact RN_weak (l := [some (.ref v0), some (.ref v1), some (.ref v2), some (.ref v3), some (.int v4)]) (And.intro rfl (And.intro rfl (And.intro rfl (And.intro rfl (And.intro rfl trivial))))) (tb_L_law_993 n v0 v1 v2 v3 v4 σ _ (fun c4 τ h => ih c4 τ h) h)
                                            · replace h := it_f c722 h
                                              by_cases c747 : ((gI σ v0 v4.toNatClampNeg) &&& (63 : Int32)) = 20
                                              · replace h := it_t c747 h
                                                refine RN_tsw (pc := 40) (dflt := 1722) (lo := 0) (hi := 32) (offs := #[148, 161, 210, 235, 248, 285, 298, 371, 432, 481, 506, 543, 556, 611, 678, 733, 788, 855, 928, 953, 1057, 1118, 1155, 1278, 1327, 1352, 1377, 1402, 1451, 1476, 1557, 1624, 1697]) (len := 148) (v := 20) (off := 1057) (tgt := 1097) c747 (by decide +kernel) (by decide) (by decide) (by decide +kernel) (by decide) ?_
                                                exact RN_weak (l := [some (.ref v0), some (.ref v1), some (.ref v2), some (.ref v3), some (.int v4)]) (And.intro rfl (And.intro rfl (And.intro rfl (And.intro rfl (And.intro rfl trivial))))) (tb_L_law_1097 n v0 v1 v2 v3 v4 σ _ (fun c4 τ h => ih c4 τ h) h)
                                              · replace h := it_f c747 h
                                                by_cases c765 : ((gI σ v0 v4.toNatClampNeg) &&& (63 : Int32)) = 21
                                                · replace h := it_t c765 h
                                                  refine RN_tsw (pc := 40) (dflt := 1722) (lo := 0) (hi := 32) (offs := #[148, 161, 210, 235, 248, 285, 298, 371, 432, 481, 506, 543, 556, 611, 678, 733, 788, 855, 928, 953, 1057, 1118, 1155, 1278, 1327, 1352, 1377, 1402, 1451, 1476, 1557, 1624, 1697]) (len := 148) (v := 21) (off := 1118) (tgt := 1158) c765 (by decide +kernel) (by decide) (by decide) (by decide +kernel) (by decide) ?_
                                                  exact RN_weak (l := [some (.ref v0), some (.ref v1), some (.ref v2), some (.ref v3), some (.int v4)]) (And.intro rfl (And.intro rfl (And.intro rfl (And.intro rfl (And.intro rfl trivial))))) (tb_L_law_1158 n v0 v1 v2 v3 v4 σ _ (fun c4 τ h => ih c4 τ h) h)
                                                · replace h := it_f c765 h
                                                  by_cases c775 : ((gI σ v0 v4.toNatClampNeg) &&& (63 : Int32)) = 22
                                                  · replace h := it_t c775 h
                                                    refine RN_tsw (pc := 40) (dflt := 1722) (lo := 0) (hi := 32) (offs := #[148, 161, 210, 235, 248, 285, 298, 371, 432, 481, 506, 543, 556, 611, 678, 733, 788, 855, 928, 953, 1057, 1118, 1155, 1278, 1327, 1352, 1377, 1402, 1451, 1476, 1557, 1624, 1697]) (len := 148) (v := 22) (off := 1155) (tgt := 1195) c775 (by decide +kernel) (by decide) (by decide) (by decide +kernel) (by decide) ?_
                                                    exact RN_weak (l := [some (.ref v0), some (.ref v1), some (.ref v2), some (.ref v3), some (.int v4)]) (And.intro rfl (And.intro rfl (And.intro rfl (And.intro rfl (And.intro rfl trivial))))) (tb_L_law_1195 n v0 v1 v2 v3 v4 σ _ (fun c4 τ h => ih c4 τ h) h)
                                                  · replace h := it_f c775 h
                                                    by_cases c800 : ((gI σ v0 v4.toNatClampNeg) &&& (63 : Int32)) = 23
                                                    · replace h := it_t c800 h
                                                      refine RN_tsw (pc := 40) (dflt := 1722) (lo := 0) (hi := 32) (offs := #[148, 161, 210, 235, 248, 285, 298, 371, 432, 481, 506, 543, 556, 611, 678, 733, 788, 855, 928, 953, 1057, 1118, 1155, 1278, 1327, 1352, 1377, 1402, 1451, 1476, 1557, 1624, 1697]) (len := 148) (v := 23) (off := 1278) (tgt := 1318) c800 (by decide +kernel) (by decide) (by decide) (by decide +kernel) (by decide) ?_
                                                      exact RN_weak (l := [some (.ref v0), some (.ref v1), some (.ref v2), some (.ref v3), some (.int v4)]) (And.intro rfl (And.intro rfl (And.intro rfl (And.intro rfl (And.intro rfl trivial))))) (tb_L_law_1318 n v0 v1 v2 v3 v4 σ _ (fun c4 τ h => ih c4 τ h) h)
                                                    · replace h := it_f c800 h
                                                      by_cases c816 : ((gI σ v0 v4.toNatClampNeg) &&& (63 : Int32)) = 24
                                                      · replace h := it_t c816 h
                                                        refine RN_tsw (pc := 40) (dflt := 1722) (lo := 0) (hi := 32) (offs := #[148, 161, 210, 235, 248, 285, 298, 371, 432, 481, 506, 543, 556, 611, 678, 733, 788, 855, 928, 953, 1057, 1118, 1155, 1278, 1327, 1352, 1377, 1402, 1451, 1476, 1557, 1624, 1697]) (len := 148) (v := 24) (off := 1327) (tgt := 1367) c816 (by decide +kernel) (by decide) (by decide) (by decide +kernel) (by decide) ?_
                                                        exact RN_weak (l := [some (.ref v0), some (.ref v1), some (.ref v2), some (.ref v3), some (.int v4)]) (And.intro rfl (And.intro rfl (And.intro rfl (And.intro rfl (And.intro rfl trivial))))) (tb_L_law_1367 n v0 v1 v2 v3 v4 σ _ (fun c4 τ h => ih c4 τ h) h)
                                                      · replace h := it_f c816 h
                                                        by_cases c828 : ((gI σ v0 v4.toNatClampNeg) &&& (63 : Int32)) = 25
                                                        · replace h := it_t c828 h
                                                          refine RN_tsw (pc := 40) (dflt := 1722) (lo := 0) (hi := 32) (offs := #[148, 161, 210, 235, 248, 285, 298, 371, 432, 481, 506, 543, 556, 611, 678, 733, 788, 855, 928, 953, 1057, 1118, 1155, 1278, 1327, 1352, 1377, 1402, 1451, 1476, 1557, 1624, 1697]) (len := 148) (v := 25) (off := 1352) (tgt := 1392) c828 (by decide +kernel) (by decide) (by decide) (by decide +kernel) (by decide) ?_
                                                          exact RN_weak (l := [some (.ref v0), some (.ref v1), some (.ref v2), some (.ref v3), some (.int v4)]) (And.intro rfl (And.intro rfl (And.intro rfl (And.intro rfl (And.intro rfl trivial))))) (tb_L_law_1392 n v0 v1 v2 v3 v4 σ _ (fun c4 τ h => ih c4 τ h) h)
                                                        · replace h := it_f c828 h
                                                          by_cases c840 : ((gI σ v0 v4.toNatClampNeg) &&& (63 : Int32)) = 26
                                                          · replace h := it_t c840 h
                                                            refine RN_tsw (pc := 40) (dflt := 1722) (lo := 0) (hi := 32) (offs := #[148, 161, 210, 235, 248, 285, 298, 371, 432, 481, 506, 543, 556, 611, 678, 733, 788, 855, 928, 953, 1057, 1118, 1155, 1278, 1327, 1352, 1377, 1402, 1451, 1476, 1557, 1624, 1697]) (len := 148) (v := 26) (off := 1377) (tgt := 1417) c840 (by decide +kernel) (by decide) (by decide) (by decide +kernel) (by decide) ?_
                                                            exact RN_weak (l := [some (.ref v0), some (.ref v1), some (.ref v2), some (.ref v3), some (.int v4)]) (And.intro rfl (And.intro rfl (And.intro rfl (And.intro rfl (And.intro rfl trivial))))) (tb_L_law_1417 n v0 v1 v2 v3 v4 σ _ (fun c4 τ h => ih c4 τ h) h)
                                                          · replace h := it_f c840 h
                                                            by_cases c852 : ((gI σ v0 v4.toNatClampNeg) &&& (63 : Int32)) = 27
                                                            · replace h := it_t c852 h
                                                              refine RN_tsw (pc := 40) (dflt := 1722) (lo := 0) (hi := 32) (offs := #[148, 161, 210, 235, 248, 285, 298, 371, 432, 481, 506, 543, 556, 611, 678, 733, 788, 855, 928, 953, 1057, 1118, 1155, 1278, 1327, 1352, 1377, 1402, 1451, 1476, 1557, 1624, 1697]) (len := 148) (v := 27) (off := 1402) (tgt := 1442) c852 (by decide +kernel) (by decide) (by decide) (by decide +kernel) (by decide) ?_
                                                              exact RN_weak (l := [some (.ref v0), some (.ref v1), some (.ref v2), some (.ref v3), some (.int v4)]) (And.intro rfl (And.intro rfl (And.intro rfl (And.intro rfl (And.intro rfl trivial))))) (tb_L_law_1442 n v0 v1 v2 v3 v4 σ _ (fun c4 τ h => ih c4 τ h) h)
                                                            · replace h := it_f c852 h
                                                              by_cases c868 : ((gI σ v0 v4.toNatClampNeg) &&& (63 : Int32)) = 28
                                                              · replace h := it_t c868 h
                                                                refine RN_tsw (pc := 40) (dflt := 1722) (lo := 0) (hi := 32) (offs := #[148, 161, 210, 235, 248, 285, 298, 371, 432, 481, 506, 543, 556, 611, 678, 733, 788, 855, 928, 953, 1057, 1118, 1155, 1278, 1327, 1352, 1377, 1402, 1451, 1476, 1557, 1624, 1697]) (len := 148) (v := 28) (off := 1451) (tgt := 1491) c868 (by decide +kernel) (by decide) (by decide) (by decide +kernel) (by decide) ?_
                                                                exact RN_weak (l := [some (.ref v0), some (.ref v1), some (.ref v2), some (.ref v3), some (.int v4)]) (And.intro rfl (And.intro rfl (And.intro rfl (And.intro rfl (And.intro rfl trivial))))) (tb_L_law_1491 n v0 v1 v2 v3 v4 σ _ (fun c4 τ h => ih c4 τ h) h)
                                                              · replace h := it_f c868 h
                                                                by_cases c880 : ((gI σ v0 v4.toNatClampNeg) &&& (63 : Int32)) = 29
                                                                · replace h := it_t c880 h
                                                                  refine RN_tsw (pc := 40) (dflt := 1722) (lo := 0) (hi := 32) (offs := #[148, 161, 210, 235, 248, 285, 298, 371, 432, 481, 506, 543, 556, 611, 678, 733, 788, 855, 928, 953, 1057, 1118, 1155, 1278, 1327, 1352, 1377, 1402, 1451, 1476, 1557, 1624, 1697]) (len := 148) (v := 29) (off := 1476) (tgt := 1516) c880 (by decide +kernel) (by decide) (by decide) (by decide +kernel) (by decide) ?_
                                                                  exact RN_weak (l := [some (.ref v0), some (.ref v1), some (.ref v2), some (.ref v3), some (.int v4)]) (And.intro rfl (And.intro rfl (And.intro rfl (And.intro rfl (And.intro rfl trivial))))) (tb_L_law_1516 n v0 v1 v2 v3 v4 σ _ (fun c4 τ h => ih c4 τ h) h)
                                                                · replace h := it_f c880 h
                                                                  by_cases c898 : ((gI σ v0 v4.toNatClampNeg) &&& (63 : Int32)) = 30
                                                                  · replace h := it_t c898 h
                                                                    refine RN_tsw (pc := 40) (dflt := 1722) (lo := 0) (hi := 32) (offs := #[148, 161, 210, 235, 248, 285, 298, 371, 432, 481, 506, 543, 556, 611, 678, 733, 788, 855, 928, 953, 1057, 1118, 1155, 1278, 1327, 1352, 1377, 1402, 1451, 1476, 1557, 1624, 1697]) (len := 148) (v := 30) (off := 1557) (tgt := 1597) c898 (by decide +kernel) (by decide) (by decide) (by decide +kernel) (by decide) ?_
                                                                    exact RN_weak (l := [some (.ref v0), some (.ref v1), some (.ref v2), some (.ref v3), some (.int v4)]) (And.intro rfl (And.intro rfl (And.intro rfl (And.intro rfl (And.intro rfl trivial))))) (tb_L_law_1597 n v0 v1 v2 v3 v4 σ _ (fun c4 τ h => ih c4 τ h) h)
                                                                  · replace h := it_f c898 h
                                                                    by_cases c917 : ((gI σ v0 v4.toNatClampNeg) &&& (63 : Int32)) = 31
                                                                    · replace h := it_t c917 h
                                                                      refine RN_tsw (pc := 40) (dflt := 1722) (lo := 0) (hi := 32) (offs := #[148, 161, 210, 235, 248, 285, 298, 371, 432, 481, 506, 543, 556, 611, 678, 733, 788, 855, 928, 953, 1057, 1118, 1155, 1278, 1327, 1352, 1377, 1402, 1451, 1476, 1557, 1624, 1697]) (len := 148) (v := 31) (off := 1624) (tgt := 1664) c917 (by decide +kernel) (by decide) (by decide) (by decide +kernel) (by decide) ?_
                                                                      exact RN_weak (l := [some (.ref v0), some (.ref v1), some (.ref v2), some (.ref v3), some (.int v4)]) (And.intro rfl (And.intro rfl (And.intro rfl (And.intro rfl (And.intro rfl trivial))))) (tb_L_law_1664 n v0 v1 v2 v3 v4 σ _ (fun c4 τ h => ih c4 τ h) h)
                                                                    · replace h := it_f c917 h
                                                                      by_cases c937 : ((gI σ v0 v4.toNatClampNeg) &&& (63 : Int32)) = 32
                                                                      · replace h := it_t c937 h
                                                                        refine RN_tsw (pc := 40) (dflt := 1722) (lo := 0) (hi := 32) (offs := #[148, 161, 210, 235, 248, 285, 298, 371, 432, 481, 506, 543, 556, 611, 678, 733, 788, 855, 928, 953, 1057, 1118, 1155, 1278, 1327, 1352, 1377, 1402, 1451, 1476, 1557, 1624, 1697]) (len := 148) (v := 32) (off := 1697) (tgt := 1737) c937 (by decide +kernel) (by decide) (by decide) (by decide +kernel) (by decide) ?_
                                                                        exact RN_weak (l := [some (.ref v0), some (.ref v1), some (.ref v2), some (.ref v3), some (.int v4)]) (And.intro rfl (And.intro rfl (And.intro rfl (And.intro rfl (And.intro rfl trivial))))) (tb_L_law_1737 n v0 v1 v2 v3 v4 σ _ (fun c4 τ h => ih c4 τ h) h)
                                                                      · replace h := it_f c937 h
                                                                        refine RN_tableOut (pc := 40) (dflt := 1722) (lo := 0) (hi := 32) (offs := #[148, 161, 210, 235, 248, 285, 298, 371, 432, 481, 506, 543, 556, 611, 678, 733, 788, 855, 928, 953, 1057, 1118, 1155, 1278, 1327, 1352, 1377, 1402, 1451, 1476, 1557, 1624, 1697]) (len := 148) (tgt := 1762) (by decide +kernel) (tsw_s (hi := 31) (hi' := 32) (tsw_s (hi := 30) (hi' := 31) (tsw_s (hi := 29) (hi' := 30) (tsw_s (hi := 28) (hi' := 29) (tsw_s (hi := 27) (hi' := 28) (tsw_s (hi := 26) (hi' := 27) (tsw_s (hi := 25) (hi' := 26) (tsw_s (hi := 24) (hi' := 25) (tsw_s (hi := 23) (hi' := 24) (tsw_s (hi := 22) (hi' := 23) (tsw_s (hi := 21) (hi' := 22) (tsw_s (hi := 20) (hi' := 21) (tsw_s (hi := 19) (hi' := 20) (tsw_s (hi := 18) (hi' := 19) (tsw_s (hi := 17) (hi' := 18) (tsw_s (hi := 16) (hi' := 17) (tsw_s (hi := 15) (hi' := 16) (tsw_s (hi := 14) (hi' := 15) (tsw_s (hi := 13) (hi' := 14) (tsw_s (hi := 12) (hi' := 13) (tsw_s (hi := 11) (hi' := 12) (tsw_s (hi := 10) (hi' := 11) (tsw_s (hi := 9) (hi' := 10) (tsw_s (hi := 8) (hi' := 9) (tsw_s (hi := 7) (hi' := 8) (tsw_s (hi := 6) (hi' := 7) (tsw_s (hi := 5) (hi' := 6) (tsw_s (hi := 4) (hi' := 5) (tsw_s (hi := 3) (hi' := 4) (tsw_s (hi := 2) (hi' := 3) (tsw_s (hi := 1) (hi' := 2) (tsw_s (hi := 0) (hi' := 1) (tsw_s (hi := -1) (hi' := 0) (tsw_0 (0)) (by decide) (by decide) c445) (by decide) (by decide) c456) (by decide) (by decide) c472) (by decide) (by decide) c484) (by decide) (by decide) c494) (by decide) (by decide) c508) (by decide) (by decide) c518) (by decide) (by decide) c538) (by decide) (by decide) c556) (by decide) (by decide) c567) (by decide) (by decide) c579) (by decide) (by decide) c593) (by decide) (by decide) c601) (by decide) (by decide) c618) (by decide) (by decide) c637) (by decide) (by decide) c654) (by decide) (by decide) c671) (by decide) (by decide) c690) (by decide) (by decide) c710) (by decide) (by decide) c722) (by decide) (by decide) c747) (by decide) (by decide) c765) (by decide) (by decide) c775) (by decide) (by decide) c800) (by decide) (by decide) c816) (by decide) (by decide) c828) (by decide) (by decide) c840) (by decide) (by decide) c852) (by decide) (by decide) c868) (by decide) (by decide) c880) (by decide) (by decide) c898) (by decide) (by decide) c917) (by decide) (by decide) c937) (by decide) ?_
                                                                        exact RN_weak (l := [some (.ref v0), some (.ref v1), some (.ref v2), some (.ref v3), some (.int v4)]) (And.intro rfl (And.intro rfl (And.intro rfl (And.intro rfl (And.intro rfl trivial))))) (tb_L_law_1762 n v0 v1 v2 v3 v4 σ _ (fun c4 τ h => ih c4 τ h) h)
def f_L_law (n : Nat) (v0 : Nat) (σ : Sg) : Option (Int32 × Sg) :=
  nm (sN σ) fun r432 =>
  nm (nw σ 10 10) fun σ433 =>
  bp (f_X11_init n r432 σ433) fun σ435 =>
  nm (sN σ435) fun r436 =>
  nm (nw σ435 11 52) fun σ437 =>
  bp (f_X12_init n r436 σ437) fun σ439 =>
  nm (sN σ439) fun r440 =>
  nm (nw σ439 14 1) fun σ441 =>
  b_L_law_23 n v0 r432 r436 r440 (0 : Int32) σ441
set_option maxRecDepth 20000 in
theorem t_L_law {G : Gl} {xr : Int32} {σr : Sg} {n : Nat} {v0 : Nat} {σ : Sg} (h : f_L_law n v0 σ = some (xr, σr)) : RN G M_L_law 0 [some (.ref v0)] [] σ (.inl (some (.int xr))) σr := by
  unfold f_L_law at h
  refine RN_new (pc := 0) (idx := 8) (ci := 10) (N := 10) (by decide +kernel) ln_RL_8 ?_
  obtain ⟨r432, er432, h⟩ := nm_el h
  refine RN_nmR er432 ?_
  obtain ⟨σ433, eσ433, h⟩ := nm_el h
  refine RN_nmS eσ433 ?_
  refine RN_dup (pc := 3) (by decide +kernel) rfl ?_
  obtain ⟨σ435, f434, h⟩ := bp_el h
  refine RN_callI (M := M_L_law) (pc := 4) (idx := 41) (as := []) (st := [.ref r432]) (t_X11_init f434) (by decide +kernel) lk_RL_41 rfl (Nat.le_of_ble_eq_true rfl) ⟨Nat.le_of_ble_eq_true rfl, Nat.le_of_ble_eq_true rfl⟩ rfl ?_
  show RN G M_L_law 7 [some (.ref v0)] [.ref r432] σ435 _ _
  refine RN_astore_n (pc := 7) (k := 1) (ls2 := [some (.ref v0), some (.ref r432)]) (by decide +kernel) rfl (by decide) rfl ?_
  refine RN_new (pc := 8) (idx := 42) (ci := 11) (N := 52) (by decide +kernel) ln_RL_42 ?_
  obtain ⟨r436, er436, h⟩ := nm_el h
  refine RN_nmR er436 ?_
  obtain ⟨σ437, eσ437, h⟩ := nm_el h
  refine RN_nmS eσ437 ?_
  refine RN_dup (pc := 11) (by decide +kernel) rfl ?_
  obtain ⟨σ439, f438, h⟩ := bp_el h
  refine RN_callI (M := M_L_law) (pc := 12) (idx := 44) (as := []) (st := [.ref r436]) (t_X12_init f438) (by decide +kernel) lk_RL_44 rfl (Nat.le_of_ble_eq_true rfl) ⟨Nat.le_of_ble_eq_true rfl, Nat.le_of_ble_eq_true rfl⟩ rfl ?_
  show RN G M_L_law 15 [some (.ref v0), some (.ref r432)] [.ref r436] σ439 _ _
  refine RN_astore_n (pc := 15) (k := 2) (ls2 := [some (.ref v0), some (.ref r432), some (.ref r436)]) (by decide +kernel) rfl (by decide) rfl ?_
  refine RN_iconst (pc := 16) (n := 1) (v := 1) (by decide +kernel) (by decide) ?_
  refine RN_newa (pc := 17) (atype := .long) (N := 1) (t := 14) (by decide +kernel) ⟨by decide, by decide, rfl⟩ ac_14 (by decide) (by decide) (by decide) ?_
  obtain ⟨r440, er440, h⟩ := nm_el h
  refine RN_nmR er440 ?_
  obtain ⟨σ441, eσ441, h⟩ := nm_el h
  refine RN_nmS eσ441 ?_
  refine RN_astore_n (pc := 19) (k := 3) (ls2 := [some (.ref v0), some (.ref r432), some (.ref r436), some (.ref r440)]) (by decide +kernel) rfl (by decide) rfl ?_
  refine RN_iconst (pc := 20) (n := 0) (v := 0) (by decide +kernel) (by decide) ?_
  refine RN_istore (pc := 21) (i := 4) (ls2 := [some (.ref v0), some (.ref r432), some (.ref r436), some (.ref r440), some (.int (0 : Int32))]) (by decide +kernel) (by decide) rfl ?_
  exact RN_weak (l := [some (.ref v0), some (.ref r432), some (.ref r436), some (.ref r440), some (.int (0 : Int32))]) (And.intro rfl (And.intro rfl (And.intro rfl (And.intro rfl (And.intro rfl trivial))))) (tb_L_law_23 v0 r432 r436 r440 n (0 : Int32) σ441 h)
