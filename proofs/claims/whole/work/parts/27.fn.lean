def b_X11_init_115 : Nat → Nat → Int32 → Sg → Option Sg
  | 0, _, _, _ => none
  | n + 1, v0, v1, σ =>
  if (6 : Int32) ≤ v1 then (
    some σ)
  else (
    ck (okO σ v0 10) <|
    ck (¬ gR σ v0 4 = 0) <|
    nm (gR σ v0 4) fun r131 =>
    nm (sN σ) fun r132 =>
    nm (nw σ 8 7) fun σ133 =>
    bp (f_X9_init r132 σ133) fun σ135 =>
    ck (okW σ135 r131 17 v1) <|
    ck (okO σ135 r132 8) <|
    nm (pR σ135 r131 v1.toNatClampNeg r132) fun σ138 =>
    nm (v1 + (1 : Int32)) fun x139 =>
    b_X11_init_115 n v0 x139 σ138)
set_option maxRecDepth 20000 in
theorem tb_X11_init_115 {G : Gl} {σr : Sg} (v0 : Nat) : ∀ (n : Nat) (v1 : Int32) (σ : Sg), b_X11_init_115 n v0 v1 σ = some σr → RN G M_X11_init 115 [some (.ref v0), some (.int v1)] [] σ (.inl none) σr := by
  intro n
  induction n with
  | zero =>
    intro v1 σ h
    exact none_el h
  | succ n ih =>
    intro v1 σ h
    rw [b_X11_init_115] at h
    refine RN_iload_n (pc := 115) (k := 1) (by decide +kernel) rfl rfl ?_
    refine RN_bipush (pc := 116) (n := 6) (v := 6) (by decide +kernel) (by decide) ?_
    refine RN_icmp_ge (pc := 118) (off := 22) (tgt := 140) (by decide +kernel) (by decide) (fun c128 => ?_) (fun c128 => ?_)
    · replace h := it_t c128 h
      obtain rfl := some_el h
      exact RN_return (by decide +kernel) rfl
    · replace h := it_f c128 h
      refine RN_aload_n (pc := 121) (k := 0) (by decide +kernel) rfl rfl ?_
      obtain ⟨c129, h⟩ := ck_el h
      obtain ⟨c130, h⟩ := ck_el h
      refine RN_getR (pc := 122) (idx := 38) (ci := 10) (k := 4) (by decide +kernel) lf_RX11_38 rfl c129 c130 ?_
      obtain ⟨r131, er131, h⟩ := nm_el h
      refine RN_nmR er131 ?_
      refine RN_iload_n (pc := 125) (k := 1) (by decide +kernel) rfl rfl ?_
      refine RN_new (pc := 126) (idx := 36) (ci := 8) (N := 7) (by decide +kernel) ln_RX11_36 ?_
      obtain ⟨r132, er132, h⟩ := nm_el h
      refine RN_nmR er132 ?_
      obtain ⟨σ133, eσ133, h⟩ := nm_el h
      refine RN_nmS eσ133 ?_
      refine RN_dup (pc := 129) (by decide +kernel) rfl ?_
      obtain ⟨σ135, f134, h⟩ := bp_el h
      refine RN_callN (M := M_X11_init) (pc := 130) (idx := 64) (as := []) (st := [.ref r132, .int v1, .ref r131]) (t_X9_init f134) (by decide +kernel) lk_RX11_64 rfl (Nat.le_of_ble_eq_true rfl) ⟨Nat.le_of_ble_eq_true rfl, Nat.le_of_ble_eq_true rfl⟩ rfl ?_
      show RN G M_X11_init 133 [some (.ref v0), some (.int v1)] [.ref r132, .int v1, .ref r131] σ135 _ _
      obtain ⟨c136, h⟩ := ck_el h
      obtain ⟨c137, h⟩ := ck_el h
      refine RN_aast (pc := 133) (ci := 8) (t := 17) (by decide +kernel) (Or.inr ⟨rfl, rfl⟩) c136 c137 ?_
      obtain ⟨σ138, eσ138, h⟩ := nm_el h
      refine RN_nmS eσ138 ?_
      obtain ⟨x139, ex139, h⟩ := nm_el h
      refine RN_iinc (pc := 134) (i := 1) (n := 1) (v := x139) (ls2 := [some (.ref v0), some (.int x139)]) (by decide +kernel) rfl (by rw [ex139]; rfl) (by decide) rfl ?_
      refine RN_goto (pc := 137) (off := -22) (tgt := 115) (by decide +kernel) (by decide) ?_
      exact RN_weak (l := [some (.ref v0), some (.int x139)]) (And.intro rfl (And.intro rfl trivial)) (ih x139 σ138 h)
def b_X11_init_113 (n : Nat) (v0 : Nat) (σ : Sg) : Option Sg :=
  b_X11_init_115 n v0 (0 : Int32) σ
set_option maxRecDepth 20000 in
theorem tb_X11_init_113 {G : Gl} {σr : Sg} (n : Nat) (v0 : Nat) (σ : Sg) (h : b_X11_init_113 n v0 σ = some σr) : RN G M_X11_init 113 [some (.ref v0)] [] σ (.inl none) σr := by
  unfold b_X11_init_113 at h
  refine RN_iconst (pc := 113) (n := 0) (v := 0) (by decide +kernel) (by decide) ?_
  refine RN_istore_n (pc := 114) (k := 1) (ls2 := [some (.ref v0), some (.int (0 : Int32))]) (by decide +kernel) rfl (by decide) rfl ?_
  exact RN_weak (l := [some (.ref v0), some (.int (0 : Int32))]) (And.intro rfl (And.intro rfl trivial)) (tb_X11_init_115 v0 n (0 : Int32) σ h)
def b_X11_init_89 : Nat → Nat → Int32 → Sg → Option Sg
  | 0, _, _, _ => none
  | n + 1, v0, v1, σ =>
  if (4 : Int32) ≤ v1 then (
    b_X11_init_113 n v0 σ)
  else (
    ck (okO σ v0 10) <|
    ck (¬ gR σ v0 3 = 0) <|
    nm (gR σ v0 3) fun r142 =>
    nm (sN σ) fun r143 =>
    nm (nw σ 5 7) fun σ144 =>
    bp (f_X6_init r143 σ144) fun σ146 =>
    ck (okW σ146 r142 16 v1) <|
    ck (okO σ146 r143 5) <|
    nm (pR σ146 r142 v1.toNatClampNeg r143) fun σ149 =>
    nm (v1 + (1 : Int32)) fun x150 =>
    b_X11_init_89 n v0 x150 σ149)
set_option maxRecDepth 20000 in
theorem tb_X11_init_89 {G : Gl} {σr : Sg} (v0 : Nat) : ∀ (n : Nat) (v1 : Int32) (σ : Sg), b_X11_init_89 n v0 v1 σ = some σr → RN G M_X11_init 89 [some (.ref v0), some (.int v1)] [] σ (.inl none) σr := by
  intro n
  induction n with
  | zero =>
    intro v1 σ h
    exact none_el h
  | succ n ih =>
    intro v1 σ h
    rw [b_X11_init_89] at h
    refine RN_iload_n (pc := 89) (k := 1) (by decide +kernel) rfl rfl ?_
    refine RN_iconst (pc := 90) (n := 4) (v := 4) (by decide +kernel) (by decide) ?_
    refine RN_icmp_ge (pc := 91) (off := 22) (tgt := 113) (by decide +kernel) (by decide) (fun c127 => ?_) (fun c127 => ?_)
    · replace h := it_t c127 h
      exact RN_weak (l := [some (.ref v0)]) (And.intro rfl trivial) (tb_X11_init_113 n v0 σ h)
    · replace h := it_f c127 h
      refine RN_aload_n (pc := 94) (k := 0) (by decide +kernel) rfl rfl ?_
      obtain ⟨c140, h⟩ := ck_el h
      obtain ⟨c141, h⟩ := ck_el h
      refine RN_getR (pc := 95) (idx := 32) (ci := 10) (k := 3) (by decide +kernel) lf_RX11_32 rfl c140 c141 ?_
      obtain ⟨r142, er142, h⟩ := nm_el h
      refine RN_nmR er142 ?_
      refine RN_iload_n (pc := 98) (k := 1) (by decide +kernel) rfl rfl ?_
      refine RN_new (pc := 99) (idx := 30) (ci := 5) (N := 7) (by decide +kernel) ln_RX11_30 ?_
      obtain ⟨r143, er143, h⟩ := nm_el h
      refine RN_nmR er143 ?_
      obtain ⟨σ144, eσ144, h⟩ := nm_el h
      refine RN_nmS eσ144 ?_
      refine RN_dup (pc := 102) (by decide +kernel) rfl ?_
      obtain ⟨σ146, f145, h⟩ := bp_el h
      refine RN_callN (M := M_X11_init) (pc := 103) (idx := 63) (as := []) (st := [.ref r143, .int v1, .ref r142]) (t_X6_init f145) (by decide +kernel) lk_RX11_63 rfl (Nat.le_of_ble_eq_true rfl) ⟨Nat.le_of_ble_eq_true rfl, Nat.le_of_ble_eq_true rfl⟩ rfl ?_
      show RN G M_X11_init 106 [some (.ref v0), some (.int v1)] [.ref r143, .int v1, .ref r142] σ146 _ _
      obtain ⟨c147, h⟩ := ck_el h
      obtain ⟨c148, h⟩ := ck_el h
      refine RN_aast (pc := 106) (ci := 5) (t := 16) (by decide +kernel) (Or.inl ⟨rfl, rfl⟩) c147 c148 ?_
      obtain ⟨σ149, eσ149, h⟩ := nm_el h
      refine RN_nmS eσ149 ?_
      obtain ⟨x150, ex150, h⟩ := nm_el h
      refine RN_iinc (pc := 107) (i := 1) (n := 1) (v := x150) (ls2 := [some (.ref v0), some (.int x150)]) (by decide +kernel) rfl (by rw [ex150]; rfl) (by decide) rfl ?_
      refine RN_goto (pc := 110) (off := -21) (tgt := 89) (by decide +kernel) (by decide) ?_
      exact RN_weak (l := [some (.ref v0), some (.int x150)]) (And.intro rfl (And.intro rfl trivial)) (ih x150 σ149 h)
def f_X11_init (n : Nat) (v0 : Nat) (σ : Sg) : Option Sg :=
  nm (sN σ) fun r75 =>
  nm (nw σ 7 4) fun σ76 =>
  bp (f_X8_init n r75 σ76) fun σ78 =>
  ck (okO σ78 v0 10) <|
  ck (¬ r75 = 0) <|
  nm (pR σ78 v0 0 r75) fun σ81 =>
  nm (sN σ81) fun r82 =>
  nm (nw σ81 0 2) fun σ83 =>
  bp (f_X0_init r82 σ83) fun σ85 =>
  ck (okO σ85 v0 10) <|
  ck (¬ r82 = 0) <|
  nm (pR σ85 v0 1 r82) fun σ88 =>
  nm (sN σ88) fun r89 =>
  nm (nw σ88 3 2) fun σ90 =>
  bp (f_X4_init r89 σ90) fun σ92 =>
  ck (okO σ92 v0 10) <|
  ck (¬ r89 = 0) <|
  nm (pR σ92 v0 2 r89) fun σ95 =>
  nm (sN σ95) fun r96 =>
  nm (nw σ95 16 4) fun σ97 =>
  ck (okO σ97 v0 10) <|
  ck (¬ r96 = 0) <|
  nm (pR σ97 v0 3 r96) fun σ100 =>
  nm (sN σ100) fun r101 =>
  nm (nw σ100 17 6) fun σ102 =>
  ck (okO σ102 v0 10) <|
  ck (¬ r101 = 0) <|
  nm (pR σ102 v0 4 r101) fun σ105 =>
  nm (sN σ105) fun r106 =>
  nm (nw σ105 4 11) fun σ107 =>
  bp (f_X5_init n r106 σ107) fun σ109 =>
  ck (okO σ109 v0 10) <|
  ck (¬ r106 = 0) <|
  nm (pR σ109 v0 5 r106) fun σ112 =>
  nm (sN σ112) fun r113 =>
  nm (nw σ112 9 4) fun σ114 =>
  bp (f_X10_init n r113 σ114) fun σ116 =>
  ck (okO σ116 v0 10) <|
  ck (¬ r113 = 0) <|
  nm (pR σ116 v0 6 r113) fun σ119 =>
  nm (sN σ119) fun r120 =>
  nm (nw σ119 1 6) fun σ121 =>
  bp (f_X1_init r120 σ121) fun σ123 =>
  ck (okO σ123 v0 10) <|
  ck (¬ r120 = 0) <|
  nm (pR σ123 v0 7 r120) fun σ126 =>
  b_X11_init_89 n v0 (0 : Int32) σ126
set_option maxRecDepth 20000 in
theorem t_X11_init {G : Gl} {σr : Sg} {n : Nat} {v0 : Nat} {σ : Sg} (h : f_X11_init n v0 σ = some σr) : MT G M_X11_init [.ref v0] σ none σr := by
  refine MT_of rfl rfl (Nat.le_of_ble_eq_true rfl) ?_
  show RN G M_X11_init 0 [some (.ref v0)] [] σ (.inl none) σr
  unfold f_X11_init at h
  refine RN_aload_n (pc := 0) (k := 0) (by decide +kernel) rfl rfl ?_
  refine RN_objInit (pc := 1) (idx := 1) (by decide +kernel) oi_RX11_1 oi_b oi_c (by decide) (by decide) (Nat.le_of_ble_eq_true rfl) ?_
  refine RN_aload_n (pc := 4) (k := 0) (by decide +kernel) rfl rfl ?_
  refine RN_new (pc := 5) (idx := 7) (ci := 7) (N := 4) (by decide +kernel) ln_RX11_7 ?_
  obtain ⟨r75, er75, h⟩ := nm_el h
  refine RN_nmR er75 ?_
  obtain ⟨σ76, eσ76, h⟩ := nm_el h
  refine RN_nmS eσ76 ?_
  refine RN_dup (pc := 8) (by decide +kernel) rfl ?_
  obtain ⟨σ78, f77, h⟩ := bp_el h
  refine RN_callI (M := M_X11_init) (pc := 9) (idx := 9) (as := []) (st := [.ref r75, .ref v0]) (t_X8_init f77) (by decide +kernel) lk_RX11_9 rfl (Nat.le_of_ble_eq_true rfl) ⟨Nat.le_of_ble_eq_true rfl, Nat.le_of_ble_eq_true rfl⟩ rfl ?_
  show RN G M_X11_init 12 [some (.ref v0)] [.ref r75, .ref v0] σ78 _ _
  obtain ⟨c79, h⟩ := ck_el h
  obtain ⟨c80, h⟩ := ck_el h
  refine RN_putR (pc := 12) (idx := 10) (ci := 10) (k := 0) (by decide +kernel) lf_RX11_10 rfl (fun q hq => by cases hq; exact Or.inr ⟨rfl, rfl, rfl⟩) c80 c79 ?_
  obtain ⟨σ81, eσ81, h⟩ := nm_el h
  refine RN_nmS eσ81 ?_
  refine RN_aload_n (pc := 15) (k := 0) (by decide +kernel) rfl rfl ?_
  refine RN_new (pc := 16) (idx := 16) (ci := 0) (N := 2) (by decide +kernel) ln_RX11_16 ?_
  obtain ⟨r82, er82, h⟩ := nm_el h
  refine RN_nmR er82 ?_
  obtain ⟨σ83, eσ83, h⟩ := nm_el h
  refine RN_nmS eσ83 ?_
  refine RN_dup (pc := 19) (by decide +kernel) rfl ?_
  obtain ⟨σ85, f84, h⟩ := bp_el h
  refine RN_callN (M := M_X11_init) (pc := 20) (idx := 18) (as := []) (st := [.ref r82, .ref v0]) (t_X0_init f84) (by decide +kernel) lk_RX11_18 rfl (Nat.le_of_ble_eq_true rfl) ⟨Nat.le_of_ble_eq_true rfl, Nat.le_of_ble_eq_true rfl⟩ rfl ?_
  show RN G M_X11_init 23 [some (.ref v0)] [.ref r82, .ref v0] σ85 _ _
  obtain ⟨c86, h⟩ := ck_el h
  obtain ⟨c87, h⟩ := ck_el h
  refine RN_putR (pc := 23) (idx := 19) (ci := 10) (k := 1) (by decide +kernel) lf_RX11_19 rfl (fun q hq => by cases hq; exact Or.inr ⟨rfl, rfl, rfl⟩) c87 c86 ?_
  obtain ⟨σ88, eσ88, h⟩ := nm_el h
  refine RN_nmS eσ88 ?_
  refine RN_aload_n (pc := 26) (k := 0) (by decide +kernel) rfl rfl ?_
  refine RN_new (pc := 27) (idx := 23) (ci := 3) (N := 2) (by decide +kernel) ln_RX11_23 ?_
  obtain ⟨r89, er89, h⟩ := nm_el h
  refine RN_nmR er89 ?_
  obtain ⟨σ90, eσ90, h⟩ := nm_el h
  refine RN_nmS eσ90 ?_
  refine RN_dup (pc := 30) (by decide +kernel) rfl ?_
  obtain ⟨σ92, f91, h⟩ := bp_el h
  refine RN_callN (M := M_X11_init) (pc := 31) (idx := 25) (as := []) (st := [.ref r89, .ref v0]) (t_X4_init f91) (by decide +kernel) lk_RX11_25 rfl (Nat.le_of_ble_eq_true rfl) ⟨Nat.le_of_ble_eq_true rfl, Nat.le_of_ble_eq_true rfl⟩ rfl ?_
  show RN G M_X11_init 34 [some (.ref v0)] [.ref r89, .ref v0] σ92 _ _
  obtain ⟨c93, h⟩ := ck_el h
  obtain ⟨c94, h⟩ := ck_el h
  refine RN_putR (pc := 34) (idx := 26) (ci := 10) (k := 2) (by decide +kernel) lf_RX11_26 rfl (fun q hq => by cases hq; exact Or.inr ⟨rfl, rfl, rfl⟩) c94 c93 ?_
  obtain ⟨σ95, eσ95, h⟩ := nm_el h
  refine RN_nmS eσ95 ?_
  refine RN_aload_n (pc := 37) (k := 0) (by decide +kernel) rfl rfl ?_
  refine RN_iconst (pc := 38) (n := 4) (v := 4) (by decide +kernel) (by decide) ?_
  refine RN_anew (pc := 39) (idx := 30) (N := 4) (t := 16) (by decide +kernel) (Or.inl rfl) ka_RX11_30 (by decide) (by decide) (by decide) ?_
  obtain ⟨r96, er96, h⟩ := nm_el h
  refine RN_nmR er96 ?_
  obtain ⟨σ97, eσ97, h⟩ := nm_el h
  refine RN_nmS eσ97 ?_
  obtain ⟨c98, h⟩ := ck_el h
  obtain ⟨c99, h⟩ := ck_el h
  refine RN_putR (pc := 42) (idx := 32) (ci := 10) (k := 3) (by decide +kernel) lf_RX11_32 rfl (fun q hq => by cases hq; exact Or.inr ⟨rfl, rfl, rfl⟩) c99 c98 ?_
  obtain ⟨σ100, eσ100, h⟩ := nm_el h
  refine RN_nmS eσ100 ?_
  refine RN_aload_n (pc := 45) (k := 0) (by decide +kernel) rfl rfl ?_
  refine RN_bipush (pc := 46) (n := 6) (v := 6) (by decide +kernel) (by decide) ?_
  refine RN_anew (pc := 48) (idx := 36) (N := 6) (t := 17) (by decide +kernel) (Or.inr rfl) ka_RX11_36 (by decide) (by decide) (by decide) ?_
  obtain ⟨r101, er101, h⟩ := nm_el h
  refine RN_nmR er101 ?_
  obtain ⟨σ102, eσ102, h⟩ := nm_el h
  refine RN_nmS eσ102 ?_
  obtain ⟨c103, h⟩ := ck_el h
  obtain ⟨c104, h⟩ := ck_el h
  refine RN_putR (pc := 51) (idx := 38) (ci := 10) (k := 4) (by decide +kernel) lf_RX11_38 rfl (fun q hq => by cases hq; exact Or.inr ⟨rfl, rfl, rfl⟩) c104 c103 ?_
  obtain ⟨σ105, eσ105, h⟩ := nm_el h
  refine RN_nmS eσ105 ?_
  refine RN_aload_n (pc := 54) (k := 0) (by decide +kernel) rfl rfl ?_
  refine RN_new (pc := 55) (idx := 42) (ci := 4) (N := 11) (by decide +kernel) ln_RX11_42 ?_
  obtain ⟨r106, er106, h⟩ := nm_el h
  refine RN_nmR er106 ?_
  obtain ⟨σ107, eσ107, h⟩ := nm_el h
  refine RN_nmS eσ107 ?_
  refine RN_dup (pc := 58) (by decide +kernel) rfl ?_
  obtain ⟨σ109, f108, h⟩ := bp_el h
  refine RN_callI (M := M_X11_init) (pc := 59) (idx := 44) (as := []) (st := [.ref r106, .ref v0]) (t_X5_init f108) (by decide +kernel) lk_RX11_44 rfl (Nat.le_of_ble_eq_true rfl) ⟨Nat.le_of_ble_eq_true rfl, Nat.le_of_ble_eq_true rfl⟩ rfl ?_
  show RN G M_X11_init 62 [some (.ref v0)] [.ref r106, .ref v0] σ109 _ _
  obtain ⟨c110, h⟩ := ck_el h
  obtain ⟨c111, h⟩ := ck_el h
  refine RN_putR (pc := 62) (idx := 45) (ci := 10) (k := 5) (by decide +kernel) lf_RX11_45 rfl (fun q hq => by cases hq; exact Or.inr ⟨rfl, rfl, rfl⟩) c111 c110 ?_
  obtain ⟨σ112, eσ112, h⟩ := nm_el h
  refine RN_nmS eσ112 ?_
  refine RN_aload_n (pc := 65) (k := 0) (by decide +kernel) rfl rfl ?_
  refine RN_new (pc := 66) (idx := 49) (ci := 9) (N := 4) (by decide +kernel) ln_RX11_49 ?_
  obtain ⟨r113, er113, h⟩ := nm_el h
  refine RN_nmR er113 ?_
  obtain ⟨σ114, eσ114, h⟩ := nm_el h
  refine RN_nmS eσ114 ?_
  refine RN_dup (pc := 69) (by decide +kernel) rfl ?_
  obtain ⟨σ116, f115, h⟩ := bp_el h
  refine RN_callN (M := M_X11_init) (pc := 70) (idx := 51) (as := []) (st := [.ref r113, .ref v0]) (t_X10_init f115) (by decide +kernel) lk_RX11_51 rfl (Nat.le_of_ble_eq_true rfl) ⟨Nat.le_of_ble_eq_true rfl, Nat.le_of_ble_eq_true rfl⟩ rfl ?_
  show RN G M_X11_init 73 [some (.ref v0)] [.ref r113, .ref v0] σ116 _ _
  obtain ⟨c117, h⟩ := ck_el h
  obtain ⟨c118, h⟩ := ck_el h
  refine RN_putR (pc := 73) (idx := 52) (ci := 10) (k := 6) (by decide +kernel) lf_RX11_52 rfl (fun q hq => by cases hq; exact Or.inr ⟨rfl, rfl, rfl⟩) c118 c117 ?_
  obtain ⟨σ119, eσ119, h⟩ := nm_el h
  refine RN_nmS eσ119 ?_
  refine RN_aload_n (pc := 76) (k := 0) (by decide +kernel) rfl rfl ?_
  refine RN_new (pc := 77) (idx := 56) (ci := 1) (N := 6) (by decide +kernel) ln_RX11_56 ?_
  obtain ⟨r120, er120, h⟩ := nm_el h
  refine RN_nmR er120 ?_
  obtain ⟨σ121, eσ121, h⟩ := nm_el h
  refine RN_nmS eσ121 ?_
  refine RN_dup (pc := 80) (by decide +kernel) rfl ?_
  obtain ⟨σ123, f122, h⟩ := bp_el h
  refine RN_callN (M := M_X11_init) (pc := 81) (idx := 58) (as := []) (st := [.ref r120, .ref v0]) (t_X1_init f122) (by decide +kernel) lk_RX11_58 rfl (Nat.le_of_ble_eq_true rfl) ⟨Nat.le_of_ble_eq_true rfl, Nat.le_of_ble_eq_true rfl⟩ rfl ?_
  show RN G M_X11_init 84 [some (.ref v0)] [.ref r120, .ref v0] σ123 _ _
  obtain ⟨c124, h⟩ := ck_el h
  obtain ⟨c125, h⟩ := ck_el h
  refine RN_putR (pc := 84) (idx := 59) (ci := 10) (k := 7) (by decide +kernel) lf_RX11_59 rfl (fun q hq => by cases hq; exact Or.inr ⟨rfl, rfl, rfl⟩) c125 c124 ?_
  obtain ⟨σ126, eσ126, h⟩ := nm_el h
  refine RN_nmS eσ126 ?_
  refine RN_iconst (pc := 87) (n := 0) (v := 0) (by decide +kernel) (by decide) ?_
  refine RN_istore_n (pc := 88) (k := 1) (ls2 := [some (.ref v0), some (.int (0 : Int32))]) (by decide +kernel) rfl (by decide) rfl ?_
  exact RN_weak (l := [some (.ref v0), some (.int (0 : Int32))]) (And.intro rfl (And.intro rfl trivial)) (tb_X11_init_89 v0 n (0 : Int32) σ126 h)
def f_X11_begin (n : Nat) (v0 : Nat) (σ : Sg) : Option (Int32 × Sg) :=
  ck (okO σ v0 10) <|
  nm (pI σ v0 8 (0 : Int32)) fun σ29 =>
  ck (okO σ29 v0 10) <|
  nm (pI σ29 v0 9 (0 : Int32)) fun σ31 =>
  ck (okO σ31 v0 10) <|
  ck (¬ gR σ31 v0 1 = 0) <|
  nm (gR σ31 v0 1) fun r34 =>
  ck (okO σ31 r34 0) <|
  nm (pI σ31 r34 1 (0 : Int32)) fun σ36 =>
  ck (okO σ36 v0 10) <|
  ck (¬ gR σ36 v0 0 = 0) <|
  nm (gR σ36 v0 0) fun r39 =>
  ck (okO σ36 r39 7) <|
  bp (f_X8_reset n r39 σ36) fun σ42 =>
  ck (okO σ42 v0 10) <|
  ck (¬ gR σ42 v0 2 = 0) <|
  nm (gR σ42 v0 2) fun r45 =>
  ck (okO σ42 r45 3) <|
  bp (f_X4_reset n r45 σ42) fun σ48 =>
  ck (okO σ48 v0 10) <|
  ck (¬ gR σ48 v0 5 = 0) <|
  nm (gR σ48 v0 5) fun r51 =>
  ck (okO σ48 r51 4) <|
  bp (f_X5_wipe n r51 σ48) fun σ54 =>
  some ((0 : Int32), σ54)
set_option maxRecDepth 20000 in
theorem t_X11_begin {G : Gl} {xr : Int32} {σr : Sg} {n : Nat} {v0 : Nat} {σ : Sg} (h : f_X11_begin n v0 σ = some (xr, σr)) : MT G M_X11_begin [.ref v0] σ (some (.int xr)) σr := by
  refine MT_of rfl rfl (Nat.le_of_ble_eq_true rfl) ?_
  show RN G M_X11_begin 0 [some (.ref v0)] [] σ (.inl (some (.int xr))) σr
  unfold f_X11_begin at h
  refine RN_aload_n (pc := 0) (k := 0) (by decide +kernel) rfl rfl ?_
  refine RN_iconst (pc := 1) (n := 0) (v := 0) (by decide +kernel) (by decide) ?_
  obtain ⟨c28, h⟩ := ck_el h
  refine RN_putI (pc := 2) (idx := 65) (ci := 10) (k := 8) (by decide +kernel) lf_RX11_65 rfl (fun q hq => by cases hq; exact Or.inl rfl) c28 ?_
  obtain ⟨σ29, eσ29, h⟩ := nm_el h
  refine RN_nmS eσ29 ?_
  refine RN_aload_n (pc := 5) (k := 0) (by decide +kernel) rfl rfl ?_
  refine RN_iconst (pc := 6) (n := 0) (v := 0) (by decide +kernel) (by decide) ?_
  obtain ⟨c30, h⟩ := ck_el h
  refine RN_putI (pc := 7) (idx := 69) (ci := 10) (k := 9) (by decide +kernel) lf_RX11_69 rfl (fun q hq => by cases hq; exact Or.inl rfl) c30 ?_
  obtain ⟨σ31, eσ31, h⟩ := nm_el h
  refine RN_nmS eσ31 ?_
  refine RN_aload_n (pc := 10) (k := 0) (by decide +kernel) rfl rfl ?_
  obtain ⟨c32, h⟩ := ck_el h
  obtain ⟨c33, h⟩ := ck_el h
  refine RN_getR (pc := 11) (idx := 19) (ci := 10) (k := 1) (by decide +kernel) lf_RX11_19 rfl c32 c33 ?_
  obtain ⟨r34, er34, h⟩ := nm_el h
  refine RN_nmR er34 ?_
  refine RN_iconst (pc := 14) (n := 0) (v := 0) (by decide +kernel) (by decide) ?_
  obtain ⟨c35, h⟩ := ck_el h
  refine RN_putI (pc := 15) (idx := 72) (ci := 0) (k := 1) (by decide +kernel) lf_RX11_72 rfl (fun q hq => by cases hq; exact Or.inl rfl) c35 ?_
  obtain ⟨σ36, eσ36, h⟩ := nm_el h
  refine RN_nmS eσ36 ?_
  refine RN_aload_n (pc := 18) (k := 0) (by decide +kernel) rfl rfl ?_
  obtain ⟨c37, h⟩ := ck_el h
  obtain ⟨c38, h⟩ := ck_el h
  refine RN_getR (pc := 19) (idx := 10) (ci := 10) (k := 0) (by decide +kernel) lf_RX11_10 rfl c37 c38 ?_
  obtain ⟨r39, er39, h⟩ := nm_el h
  refine RN_nmR er39 ?_
  obtain ⟨c40, h⟩ := ck_el h
  obtain ⟨σ42, f41, h⟩ := bp_el h
  refine RN_callV (M := M_X11_begin) (pc := 22) (idx := 75) (as := []) (st := []) (t_X8_reset f41) (by decide +kernel) lk_RX11_75 rfl ⟨by decide, fun q hq => by cases hq; rfl⟩ c40 (Nat.le_of_ble_eq_true rfl) ⟨Nat.le_of_ble_eq_true rfl, Nat.le_of_ble_eq_true rfl⟩ rfl ?_
  show RN G M_X11_begin 25 [some (.ref v0)] [] σ42 _ _
  refine RN_aload_n (pc := 25) (k := 0) (by decide +kernel) rfl rfl ?_
  obtain ⟨c43, h⟩ := ck_el h
  obtain ⟨c44, h⟩ := ck_el h
  refine RN_getR (pc := 26) (idx := 26) (ci := 10) (k := 2) (by decide +kernel) lf_RX11_26 rfl c43 c44 ?_
  obtain ⟨r45, er45, h⟩ := nm_el h
  refine RN_nmR er45 ?_
  obtain ⟨c46, h⟩ := ck_el h
  obtain ⟨σ48, f47, h⟩ := bp_el h
  refine RN_callV (M := M_X11_begin) (pc := 29) (idx := 78) (as := []) (st := []) (t_X4_reset f47) (by decide +kernel) lk_RX11_78 rfl ⟨by decide, fun q hq => by cases hq; rfl⟩ c46 (Nat.le_of_ble_eq_true rfl) ⟨Nat.le_of_ble_eq_true rfl, Nat.le_of_ble_eq_true rfl⟩ rfl ?_
  show RN G M_X11_begin 32 [some (.ref v0)] [] σ48 _ _
  refine RN_aload_n (pc := 32) (k := 0) (by decide +kernel) rfl rfl ?_
  obtain ⟨c49, h⟩ := ck_el h
  obtain ⟨c50, h⟩ := ck_el h
  refine RN_getR (pc := 33) (idx := 45) (ci := 10) (k := 5) (by decide +kernel) lf_RX11_45 rfl c49 c50 ?_
  obtain ⟨r51, er51, h⟩ := nm_el h
  refine RN_nmR er51 ?_
  obtain ⟨c52, h⟩ := ck_el h
  obtain ⟨σ54, f53, h⟩ := bp_el h
  refine RN_callV (M := M_X11_begin) (pc := 36) (idx := 79) (as := []) (st := []) (t_X5_wipe f53) (by decide +kernel) lk_RX11_79 rfl ⟨by decide, fun q hq => by cases hq; rfl⟩ c52 (Nat.le_of_ble_eq_true rfl) ⟨Nat.le_of_ble_eq_true rfl, Nat.le_of_ble_eq_true rfl⟩ rfl ?_
  show RN G M_X11_begin 39 [some (.ref v0)] [] σ54 _ _
  refine RN_iconst (pc := 39) (n := 0) (v := 0) (by decide +kernel) (by decide) ?_
  obtain ⟨rfl, rfl⟩ := some_el2 h
  exact RN_ireturn (by decide +kernel) rfl
def b_X11_isRate_14 : Option Int32 :=
  some (0 : Int32)
set_option maxRecDepth 20000 in
theorem tb_X11_isRate_14 {G : Gl} {xr : Int32} {σ : Sg} (h : b_X11_isRate_14 = some xr) : RN G M_X11_isRate 14 [] [] σ (.inl (some (.int xr))) σ := by
  unfold b_X11_isRate_14 at h
  refine RN_iconst (pc := 14) (n := 0) (v := 0) (by decide +kernel) (by decide) ?_
  obtain rfl := some_el h
  exact RN_zreturn (by decide +kernel) rfl (Or.inl rfl)
def f_X11_isRate (v0 : Int32) : Option Int32 :=
  if v0 < 0 then (
    b_X11_isRate_14)
  else (
    if (8 : Int32) ≤ v0 then (
      b_X11_isRate_14)
    else (
      some (1 : Int32)))
set_option maxRecDepth 20000 in
theorem t_X11_isRate {G : Gl} {xr : Int32} {v0 : Int32} {σ : Sg} (h : f_X11_isRate v0 = some xr) : MT G M_X11_isRate [.int v0] σ (some (.int xr)) σ := by
  refine MT_of rfl rfl (Nat.le_of_ble_eq_true rfl) ?_
  show RN G M_X11_isRate 0 [some (.int v0)] [] σ (.inl (some (.int xr))) σ
  unfold f_X11_isRate at h
  refine RN_iload_n (pc := 0) (k := 0) (by decide +kernel) rfl rfl ?_
  refine RN_if_lt (pc := 1) (off := 13) (tgt := 14) (by decide +kernel) (by decide) (fun c1 => ?_) (fun c1 => ?_)
  · replace h := it_t c1 h
    exact RN_weak (l := []) trivial (tb_X11_isRate_14  h)
  · replace h := it_f c1 h
    refine RN_iload_n (pc := 4) (k := 0) (by decide +kernel) rfl rfl ?_
    refine RN_bipush (pc := 5) (n := 8) (v := 8) (by decide +kernel) (by decide) ?_
    refine RN_icmp_ge (pc := 7) (off := 7) (tgt := 14) (by decide +kernel) (by decide) (fun c2 => ?_) (fun c2 => ?_)
    · replace h := it_t c2 h
      exact RN_weak (l := []) trivial (tb_X11_isRate_14  h)
    · replace h := it_f c2 h
      refine RN_iconst (pc := 10) (n := 1) (v := 1) (by decide +kernel) (by decide) ?_
      refine RN_goto (pc := 11) (off := 4) (tgt := 15) (by decide +kernel) (by decide) ?_
      obtain rfl := some_el h
      exact RN_zreturn (by decide +kernel) rfl (Or.inr rfl)
def f_X11_rate (v0 : Nat) (v1 : Int32) (v2 : Int32) (v3 : Int32) (σ : Sg) : Option (Int32 × Sg) :=
  bp (f_X11_isRate v1) fun x20 =>
  if x20 = 0 then (
    some ((-1 : Int32), σ))
  else (
    if v2 < 0 then (
      some ((-1 : Int32), σ))
    else (
      if (10000 : Int32) < v2 then (
        some ((-1 : Int32), σ))
      else (
        if v3 < (1 : Int32) then (
          some ((-1 : Int32), σ))
        else (
          if v3 ≤ (1000 : Int32) then (
            ck (okO σ v0 10) <|
            ck (¬ gR σ v0 0 = 0) <|
            nm (gR σ v0 0) fun r28 =>
            ck (okO σ r28 7) <|
            ck (¬ gR σ r28 0 = 0) <|
            nm (gR σ r28 0) fun r31 =>
            ck (okW σ r31 13 v1) <|
            nm (pI σ r31 v1.toNatClampNeg v2) fun σ33 =>
            ck (okO σ33 v0 10) <|
            ck (¬ gR σ33 v0 0 = 0) <|
            nm (gR σ33 v0 0) fun r36 =>
            ck (okO σ33 r36 7) <|
            ck (¬ gR σ33 r36 1 = 0) <|
            nm (gR σ33 r36 1) fun r39 =>
            ck (okW σ33 r39 13 v1) <|
            nm (pI σ33 r39 v1.toNatClampNeg v3) fun σ41 =>
            some ((0 : Int32), σ41))
          else (
            some ((-1 : Int32), σ))))))
set_option maxRecDepth 20000 in
theorem t_X11_rate {G : Gl} {xr : Int32} {σr : Sg} {v0 : Nat} {v1 : Int32} {v2 : Int32} {v3 : Int32} {σ : Sg} (h : f_X11_rate v0 v1 v2 v3 σ = some (xr, σr)) : MT G M_X11_rate [.ref v0, .int v1, .int v2, .int v3] σ (some (.int xr)) σr := by
  refine MT_of rfl rfl (Nat.le_of_ble_eq_true rfl) ?_
  show RN G M_X11_rate 0 [some (.ref v0), some (.int v1), some (.int v2), some (.int v3)] [] σ (.inl (some (.int xr))) σr
  unfold f_X11_rate at h
  refine RN_iload_n (pc := 0) (k := 1) (by decide +kernel) rfl rfl ?_
  obtain ⟨x20, f19, h⟩ := bp_el h
  refine RN_callS (M := M_X11_rate) (pc := 1) (idx := 82) (as := [.int v1]) (st := []) (t_X11_isRate f19) (by decide +kernel) lk_RX11_82 rfl (Nat.le_of_ble_eq_true rfl) ⟨Nat.le_of_ble_eq_true rfl, Nat.le_of_ble_eq_true rfl⟩ rfl ?_
  show RN G M_X11_rate 4 [some (.ref v0), some (.int v1), some (.int v2), some (.int v3)] [.int x20] σ _ _
  refine RN_if_eq (pc := 4) (off := 26) (tgt := 30) (by decide +kernel) (by decide) (fun c21 => ?_) (fun c21 => ?_)
  · replace h := it_t c21 h
    refine RN_iconst (pc := 30) (n := -1) (v := -1) (by decide +kernel) (by decide) ?_
    obtain ⟨rfl, rfl⟩ := some_el2 h
    exact RN_ireturn (by decide +kernel) rfl
  · replace h := it_f c21 h
    refine RN_iload_n (pc := 7) (k := 2) (by decide +kernel) rfl rfl ?_
    refine RN_if_lt (pc := 8) (off := 22) (tgt := 30) (by decide +kernel) (by decide) (fun c22 => ?_) (fun c22 => ?_)
    · replace h := it_t c22 h
      refine RN_iconst (pc := 30) (n := -1) (v := -1) (by decide +kernel) (by decide) ?_
      obtain ⟨rfl, rfl⟩ := some_el2 h
      exact RN_ireturn (by decide +kernel) rfl
    · replace h := it_f c22 h
      refine RN_iload_n (pc := 11) (k := 2) (by decide +kernel) rfl rfl ?_
      refine RN_sipush (pc := 12) (n := 10000) (v := 10000) (by decide +kernel) (by decide) ?_
      refine RN_icmp_gt (pc := 15) (off := 15) (tgt := 30) (by decide +kernel) (by decide) (fun c23 => ?_) (fun c23 => ?_)
      · replace h := it_t c23 h
        refine RN_iconst (pc := 30) (n := -1) (v := -1) (by decide +kernel) (by decide) ?_
        obtain ⟨rfl, rfl⟩ := some_el2 h
        exact RN_ireturn (by decide +kernel) rfl
      · replace h := it_f c23 h
        refine RN_iload_n (pc := 18) (k := 3) (by decide +kernel) rfl rfl ?_
        refine RN_iconst (pc := 19) (n := 1) (v := 1) (by decide +kernel) (by decide) ?_
        refine RN_icmp_lt (pc := 20) (off := 10) (tgt := 30) (by decide +kernel) (by decide) (fun c24 => ?_) (fun c24 => ?_)
        · replace h := it_t c24 h
          refine RN_iconst (pc := 30) (n := -1) (v := -1) (by decide +kernel) (by decide) ?_
          obtain ⟨rfl, rfl⟩ := some_el2 h
          exact RN_ireturn (by decide +kernel) rfl
        · replace h := it_f c24 h
          refine RN_iload_n (pc := 23) (k := 3) (by decide +kernel) rfl rfl ?_
          refine RN_sipush (pc := 24) (n := 1000) (v := 1000) (by decide +kernel) (by decide) ?_
          refine RN_icmp_le (pc := 27) (off := 5) (tgt := 32) (by decide +kernel) (by decide) (fun c25 => ?_) (fun c25 => ?_)
          · replace h := it_t c25 h
            refine RN_aload_n (pc := 32) (k := 0) (by decide +kernel) rfl rfl ?_
            obtain ⟨c26, h⟩ := ck_el h
            obtain ⟨c27, h⟩ := ck_el h
            refine RN_getR (pc := 33) (idx := 10) (ci := 10) (k := 0) (by decide +kernel) lf_RX11_10 rfl c26 c27 ?_
            obtain ⟨r28, er28, h⟩ := nm_el h
            refine RN_nmR er28 ?_
            obtain ⟨c29, h⟩ := ck_el h
            obtain ⟨c30, h⟩ := ck_el h
            refine RN_getR (pc := 36) (idx := 86) (ci := 7) (k := 0) (by decide +kernel) lf_RX11_86 rfl c29 c30 ?_
            obtain ⟨r31, er31, h⟩ := nm_el h
            refine RN_nmR er31 ?_
            refine RN_iload_n (pc := 39) (k := 1) (by decide +kernel) rfl rfl ?_
            refine RN_iload_n (pc := 40) (k := 2) (by decide +kernel) rfl rfl ?_
            obtain ⟨c32, h⟩ := ck_el h
            refine RN_iast (pc := 41) (by decide +kernel) c32 ?_
            obtain ⟨σ33, eσ33, h⟩ := nm_el h
            refine RN_nmS eσ33 ?_
            refine RN_aload_n (pc := 42) (k := 0) (by decide +kernel) rfl rfl ?_
            obtain ⟨c34, h⟩ := ck_el h
            obtain ⟨c35, h⟩ := ck_el h
            refine RN_getR (pc := 43) (idx := 10) (ci := 10) (k := 0) (by decide +kernel) lf_RX11_10 rfl c34 c35 ?_
            obtain ⟨r36, er36, h⟩ := nm_el h
            refine RN_nmR er36 ?_
            obtain ⟨c37, h⟩ := ck_el h
            obtain ⟨c38, h⟩ := ck_el h
            refine RN_getR (pc := 46) (idx := 90) (ci := 7) (k := 1) (by decide +kernel) lf_RX11_90 rfl c37 c38 ?_
            obtain ⟨r39, er39, h⟩ := nm_el h
            refine RN_nmR er39 ?_
            refine RN_iload_n (pc := 49) (k := 1) (by decide +kernel) rfl rfl ?_
            refine RN_iload_n (pc := 50) (k := 3) (by decide +kernel) rfl rfl ?_
            obtain ⟨c40, h⟩ := ck_el h
            refine RN_iast (pc := 51) (by decide +kernel) c40 ?_
            obtain ⟨σ41, eσ41, h⟩ := nm_el h
            refine RN_nmS eσ41 ?_
            refine RN_iconst (pc := 52) (n := 0) (v := 0) (by decide +kernel) (by decide) ?_
            obtain ⟨rfl, rfl⟩ := some_el2 h
            exact RN_ireturn (by decide +kernel) rfl
          · replace h := it_f c25 h
            refine RN_iconst (pc := 30) (n := -1) (v := -1) (by decide +kernel) (by decide) ?_
            obtain ⟨rfl, rfl⟩ := some_el2 h
            exact RN_ireturn (by decide +kernel) rfl
def b_X11_isLine_20 : Option Int32 :=
  some (0 : Int32)
set_option maxRecDepth 20000 in
theorem tb_X11_isLine_20 {G : Gl} {xr : Int32} {σ : Sg} (h : b_X11_isLine_20 = some xr) : RN G M_X11_isLine 20 [] [] σ (.inl (some (.int xr))) σ := by
  unfold b_X11_isLine_20 at h
  refine RN_iconst (pc := 20) (n := 0) (v := 0) (by decide +kernel) (by decide) ?_
  obtain rfl := some_el h
  exact RN_zreturn (by decide +kernel) rfl (Or.inl rfl)
def f_X11_isLine (v0 : Int64) : Option Int32 :=
  if v0 < (-1000000 : Int64) then (
    b_X11_isLine_20)
  else (
    if (1000000 : Int64) < v0 then (
      b_X11_isLine_20)
    else (
      some (1 : Int32)))
set_option maxRecDepth 20000 in
theorem t_X11_isLine {G : Gl} {xr : Int32} {v0 : Int64} {σ : Sg} (h : f_X11_isLine v0 = some xr) : MT G M_X11_isLine [.long v0] σ (some (.int xr)) σ := by
  refine MT_of rfl rfl (Nat.le_of_ble_eq_true rfl) ?_
  show RN G M_X11_isLine 0 [some (.long v0), none] [] σ (.inl (some (.int xr))) σ
  unfold f_X11_isLine at h
  refine RN_lload_n (pc := 0) (k := 0) (by decide +kernel) rfl rfl ?_
  refine RN_ldc2 (pc := 1) (idx := 319) (v := -1000000) (by decide +kernel) kc_RX11_319 ?_
  refine RN_lc_lt (pc := 4) (off := 15) (tgt := 20) (by decide +kernel) (by decide +kernel) (by decide) (fun c1 => ?_) (fun c1 => ?_)
  · replace h := it_t c1 h
    exact RN_weak (l := []) trivial (tb_X11_isLine_20  h)
  · replace h := it_f c1 h
    refine RN_lload_n (pc := 8) (k := 0) (by decide +kernel) rfl rfl ?_
    refine RN_ldc2 (pc := 9) (idx := 321) (v := 1000000) (by decide +kernel) kc_RX11_321 ?_
    refine RN_lc_gt (pc := 12) (off := 7) (tgt := 20) (by decide +kernel) (by decide +kernel) (by decide) (fun c2 => ?_) (fun c2 => ?_)
    · replace h := it_t c2 h
      exact RN_weak (l := []) trivial (tb_X11_isLine_20  h)
    · replace h := it_f c2 h
      refine RN_iconst (pc := 16) (n := 1) (v := 1) (by decide +kernel) (by decide) ?_
      refine RN_goto (pc := 17) (off := 4) (tgt := 21) (by decide +kernel) (by decide) ?_
      obtain rfl := some_el h
      exact RN_zreturn (by decide +kernel) rfl (Or.inr rfl)
def f_X11_line (v0 : Nat) (v1 : Int32) (σ : Sg) : Option (Int32 × Sg) :=
  bp (f_X11_isLine (v1.toInt64)) fun x27 =>
  if x27 = 0 then (
    some ((-1 : Int32), σ))
  else (
    ck (okO σ v0 10) <|
    ck (¬ gR σ v0 1 = 0) <|
    nm (gR σ v0 1) fun r31 =>
    ck (okO σ r31 0) <|
    if (gI σ r31 1) < (12 : Int32) then (
      nm (gR σ v0 1) fun r34 =>
      ck (okO σ r34 0) <|
      ck (¬ gR σ r34 0 = 0) <|
      nm (gR σ r34 0) fun r37 =>
      nm (gR σ v0 1) fun r38 =>
      ck (okO σ r38 0) <|
      ck (okW σ r37 13 (gI σ r38 1)) <|
      nm (pI σ r37 (gI σ r38 1).toNatClampNeg v1) fun σ41 =>
      ck (okO σ41 v0 10) <|
      ck (¬ gR σ41 v0 1 = 0) <|
      nm (gR σ41 v0 1) fun r44 =>
      ck (okO σ41 r44 0) <|
      nm (pI σ41 r44 1 ((gI σ41 r44 1) + (1 : Int32))) fun σ46 =>
      ck (okO σ46 v0 10) <|
      ck (¬ gR σ46 v0 1 = 0) <|
      nm (gR σ46 v0 1) fun r49 =>
      ck (okO σ46 r49 0) <|
      some (gI σ46 r49 1, σ46))
    else (
      some ((-2 : Int32), σ)))
set_option maxRecDepth 20000 in
theorem t_X11_line {G : Gl} {xr : Int32} {σr : Sg} {v0 : Nat} {v1 : Int32} {σ : Sg} (h : f_X11_line v0 v1 σ = some (xr, σr)) : MT G M_X11_line [.ref v0, .int v1] σ (some (.int xr)) σr := by
  refine MT_of rfl rfl (Nat.le_of_ble_eq_true rfl) ?_
  show RN G M_X11_line 0 [some (.ref v0), some (.int v1)] [] σ (.inl (some (.int xr))) σr
  unfold f_X11_line at h
  refine RN_iload_n (pc := 0) (k := 1) (by decide +kernel) rfl rfl ?_
  refine RN_i2l (pc := 1) (by decide +kernel) ?_
  obtain ⟨x27, f26, h⟩ := bp_el h
  refine RN_callS (M := M_X11_line) (pc := 2) (idx := 93) (as := [.long (v1.toInt64)]) (st := []) (t_X11_isLine f26) (by decide +kernel) lk_RX11_93 rfl (Nat.le_of_ble_eq_true rfl) ⟨Nat.le_of_ble_eq_true rfl, Nat.le_of_ble_eq_true rfl⟩ rfl ?_
  show RN G M_X11_line 5 [some (.ref v0), some (.int v1)] [.int x27] σ _ _
  refine RN_if_ne (pc := 5) (off := 5) (tgt := 10) (by decide +kernel) (by decide) (fun c28 => ?_) (fun c28 => ?_)
  · replace h := it_f c28 h
    refine RN_aload_n (pc := 10) (k := 0) (by decide +kernel) rfl rfl ?_
    obtain ⟨c29, h⟩ := ck_el h
    obtain ⟨c30, h⟩ := ck_el h
    refine RN_getR (pc := 11) (idx := 19) (ci := 10) (k := 1) (by decide +kernel) lf_RX11_19 rfl c29 c30 ?_
    obtain ⟨r31, er31, h⟩ := nm_el h
    refine RN_nmR er31 ?_
    obtain ⟨c32, h⟩ := ck_el h
    refine RN_getI (pc := 14) (idx := 72) (ci := 0) (k := 1) (by decide +kernel) lf_RX11_72 (Or.inl rfl) c32 ?_
    refine RN_bipush (pc := 17) (n := 12) (v := 12) (by decide +kernel) (by decide) ?_
    refine RN_icmp_lt (pc := 19) (off := 6) (tgt := 25) (by decide +kernel) (by decide) (fun c33 => ?_) (fun c33 => ?_)
    · replace h := it_t c33 h
      refine RN_aload_n (pc := 25) (k := 0) (by decide +kernel) rfl rfl ?_
      refine RN_getR (pc := 26) (idx := 19) (ci := 10) (k := 1) (by decide +kernel) lf_RX11_19 rfl c29 c30 ?_
      obtain ⟨r34, er34, h⟩ := nm_el h
      refine RN_nmR er34 ?_
      obtain ⟨c35, h⟩ := ck_el h
      obtain ⟨c36, h⟩ := ck_el h
      refine RN_getR (pc := 29) (idx := 97) (ci := 0) (k := 0) (by decide +kernel) lf_RX11_97 rfl c35 c36 ?_
      obtain ⟨r37, er37, h⟩ := nm_el h
      refine RN_nmR er37 ?_
      refine RN_aload_n (pc := 32) (k := 0) (by decide +kernel) rfl rfl ?_
      refine RN_getR (pc := 33) (idx := 19) (ci := 10) (k := 1) (by decide +kernel) lf_RX11_19 rfl c29 c30 ?_
      obtain ⟨r38, er38, h⟩ := nm_el h
      refine RN_nmR er38 ?_
      obtain ⟨c39, h⟩ := ck_el h
      refine RN_getI (pc := 36) (idx := 72) (ci := 0) (k := 1) (by decide +kernel) lf_RX11_72 (Or.inl rfl) c39 ?_
      refine RN_iload_n (pc := 39) (k := 1) (by decide +kernel) rfl rfl ?_
      obtain ⟨c40, h⟩ := ck_el h
      refine RN_iast (pc := 40) (by decide +kernel) c40 ?_
      obtain ⟨σ41, eσ41, h⟩ := nm_el h
      refine RN_nmS eσ41 ?_
      refine RN_aload_n (pc := 41) (k := 0) (by decide +kernel) rfl rfl ?_
      obtain ⟨c42, h⟩ := ck_el h
      obtain ⟨c43, h⟩ := ck_el h
      refine RN_getR (pc := 42) (idx := 19) (ci := 10) (k := 1) (by decide +kernel) lf_RX11_19 rfl c42 c43 ?_
      obtain ⟨r44, er44, h⟩ := nm_el h
      refine RN_nmR er44 ?_
      refine RN_dup (pc := 45) (by decide +kernel) rfl ?_
      obtain ⟨c45, h⟩ := ck_el h
      refine RN_getI (pc := 46) (idx := 72) (ci := 0) (k := 1) (by decide +kernel) lf_RX11_72 (Or.inl rfl) c45 ?_
      refine RN_iconst (pc := 49) (n := 1) (v := 1) (by decide +kernel) (by decide) ?_
      refine RN_iadd (pc := 50) (by decide +kernel) ?_
      refine RN_putI (pc := 51) (idx := 72) (ci := 0) (k := 1) (by decide +kernel) lf_RX11_72 rfl (fun q hq => by cases hq; exact Or.inl rfl) c45 ?_
      obtain ⟨σ46, eσ46, h⟩ := nm_el h
      refine RN_nmS eσ46 ?_
      refine RN_aload_n (pc := 54) (k := 0) (by decide +kernel) rfl rfl ?_
      obtain ⟨c47, h⟩ := ck_el h
      obtain ⟨c48, h⟩ := ck_el h
      refine RN_getR (pc := 55) (idx := 19) (ci := 10) (k := 1) (by decide +kernel) lf_RX11_19 rfl c47 c48 ?_
      obtain ⟨r49, er49, h⟩ := nm_el h
      refine RN_nmR er49 ?_
      obtain ⟨c50, h⟩ := ck_el h
      refine RN_getI (pc := 58) (idx := 72) (ci := 0) (k := 1) (by decide +kernel) lf_RX11_72 (Or.inl rfl) c50 ?_
      obtain ⟨rfl, rfl⟩ := some_el2 h
      exact RN_ireturn (by decide +kernel) rfl
    · replace h := it_f c33 h
      refine RN_bipush (pc := 22) (n := -2) (v := -2) (by decide +kernel) (by decide) ?_
      obtain ⟨rfl, rfl⟩ := some_el2 h
      exact RN_ireturn (by decide +kernel) rfl
  · replace h := it_t c28 h
    refine RN_iconst (pc := 8) (n := -1) (v := -1) (by decide +kernel) (by decide) ?_
    obtain ⟨rfl, rfl⟩ := some_el2 h
    exact RN_ireturn (by decide +kernel) rfl
def f_X11_bare (v0 : Nat) (σ : Sg) : Option (Int32 × Sg) :=
  ck (okO σ v0 10) <|
  ck (¬ gR σ v0 1 = 0) <|
  nm (gR σ v0 1) fun r11 =>
  ck (okO σ r11 0) <|
  nm (gI σ r11 1) fun x13 =>
  nm (gR σ v0 1) fun r14 =>
  ck (okO σ r14 0) <|
  nm (pI σ r14 1 (0 : Int32)) fun σ16 =>
  some (x13, σ16)
set_option maxRecDepth 20000 in
theorem t_X11_bare {G : Gl} {xr : Int32} {σr : Sg} {v0 : Nat} {σ : Sg} (h : f_X11_bare v0 σ = some (xr, σr)) : MT G M_X11_bare [.ref v0] σ (some (.int xr)) σr := by
  refine MT_of rfl rfl (Nat.le_of_ble_eq_true rfl) ?_
  show RN G M_X11_bare 0 [some (.ref v0)] [] σ (.inl (some (.int xr))) σr
  unfold f_X11_bare at h
  refine RN_aload_n (pc := 0) (k := 0) (by decide +kernel) rfl rfl ?_
  obtain ⟨c9, h⟩ := ck_el h
  obtain ⟨c10, h⟩ := ck_el h
  refine RN_getR (pc := 1) (idx := 19) (ci := 10) (k := 1) (by decide +kernel) lf_RX11_19 rfl c9 c10 ?_
  obtain ⟨r11, er11, h⟩ := nm_el h
  refine RN_nmR er11 ?_
  obtain ⟨c12, h⟩ := ck_el h
  refine RN_getI (pc := 4) (idx := 72) (ci := 0) (k := 1) (by decide +kernel) lf_RX11_72 (Or.inl rfl) c12 ?_
  obtain ⟨x13, ex13, h⟩ := nm_el h
  refine RN_nmI ex13 ?_
  refine RN_istore_n (pc := 7) (k := 1) (ls2 := [some (.ref v0), some (.int x13)]) (by decide +kernel) rfl (by decide) rfl ?_
  refine RN_aload_n (pc := 8) (k := 0) (by decide +kernel) rfl rfl ?_
  refine RN_getR (pc := 9) (idx := 19) (ci := 10) (k := 1) (by decide +kernel) lf_RX11_19 rfl c9 c10 ?_
  obtain ⟨r14, er14, h⟩ := nm_el h
  refine RN_nmR er14 ?_
  refine RN_iconst (pc := 12) (n := 0) (v := 0) (by decide +kernel) (by decide) ?_
  obtain ⟨c15, h⟩ := ck_el h
  refine RN_putI (pc := 13) (idx := 72) (ci := 0) (k := 1) (by decide +kernel) lf_RX11_72 rfl (fun q hq => by cases hq; exact Or.inl rfl) c15 ?_
  obtain ⟨σ16, eσ16, h⟩ := nm_el h
  refine RN_nmS eσ16 ?_
  refine RN_iload_n (pc := 16) (k := 1) (by decide +kernel) rfl rfl ?_
  obtain ⟨rfl, rfl⟩ := some_el2 h
  exact RN_ireturn (by decide +kernel) rfl
def f_X11_weight (v0 : Nat) (v1 : Int32) (v2 : Int32) (σ : Sg) : Option (Int32 × Sg) :=
  if v1 < 0 then (
    some ((-1 : Int32), σ))
  else (
    if (4 : Int32) ≤ v1 then (
      some ((-1 : Int32), σ))
    else (
      if v2 < (-1 : Int32) then (
        some ((-1 : Int32), σ))
      else (
        if v2 ≤ (1000 : Int32) then (
          if v2 = (-1 : Int32) then (
            ck (okO σ v0 10) <|
            ck (¬ gR σ v0 0 = 0) <|
            nm (gR σ v0 0) fun r93 =>
            ck (okO σ r93 7) <|
            ck (¬ gR σ r93 3 = 0) <|
            nm (gR σ r93 3) fun r96 =>
            ck (okW σ r96 13 v1) <|
            nm (pI σ r96 v1.toNatClampNeg (0 : Int32)) fun σ98 =>
            some ((0 : Int32), σ98))
          else (
            ck (okO σ v0 10) <|
            ck (¬ gR σ v0 0 = 0) <|
            nm (gR σ v0 0) fun r55 =>
            ck (okO σ r55 7) <|
            ck (¬ gR σ r55 3 = 0) <|
            nm (gR σ r55 3) fun r58 =>
            ck (okA σ r58 13 v1) <|
            if (gI σ r58 v1.toNatClampNeg) < (8 : Int32) then (
              nm (gR σ v0 0) fun r61 =>
              ck (okO σ r61 7) <|
              ck (¬ gR σ r61 2 = 0) <|
              nm (gR σ r61 2) fun r64 =>
              ck (okA σ r64 18 v1) <|
              ck (¬ gR σ r64 v1.toNatClampNeg = 0) <|
              nm (gR σ r64 v1.toNatClampNeg) fun r67 =>
              nm (gR σ v0 0) fun r68 =>
              ck (okO σ r68 7) <|
              ck (¬ gR σ r68 3 = 0) <|
              nm (gR σ r68 3) fun r71 =>
              ck (okA σ r71 13 v1) <|
              ck (okW σ r67 13 (gI σ r71 v1.toNatClampNeg)) <|
              nm (pI σ r67 (gI σ r71 v1.toNatClampNeg).toNatClampNeg v2) fun σ74 =>
              ck (okO σ74 v0 10) <|
              ck (¬ gR σ74 v0 0 = 0) <|
              nm (gR σ74 v0 0) fun r77 =>
              ck (okO σ74 r77 7) <|
              ck (¬ gR σ74 r77 3 = 0) <|
              nm (gR σ74 r77 3) fun r80 =>
              ck (okA σ74 r80 13 v1) <|
              ck (okW σ74 r80 13 v1) <|
              nm (pI σ74 r80 v1.toNatClampNeg ((gI σ74 r80 v1.toNatClampNeg) + (1 : Int32))) fun σ83 =>
              ck (okO σ83 v0 10) <|
              ck (¬ gR σ83 v0 0 = 0) <|
              nm (gR σ83 v0 0) fun r86 =>
              ck (okO σ83 r86 7) <|
              ck (¬ gR σ83 r86 3 = 0) <|
              nm (gR σ83 r86 3) fun r89 =>
              ck (okA σ83 r89 13 v1) <|
              some (gI σ83 r89 v1.toNatClampNeg, σ83))
            else (
              some ((-2 : Int32), σ))))
        else (
          some ((-1 : Int32), σ)))))
set_option maxRecDepth 20000 in
theorem t_X11_weight {G : Gl} {xr : Int32} {σr : Sg} {v0 : Nat} {v1 : Int32} {v2 : Int32} {σ : Sg} (h : f_X11_weight v0 v1 v2 σ = some (xr, σr)) : MT G M_X11_weight [.ref v0, .int v1, .int v2] σ (some (.int xr)) σr := by
  refine MT_of rfl rfl (Nat.le_of_ble_eq_true rfl) ?_
  show RN G M_X11_weight 0 [some (.ref v0), some (.int v1), some (.int v2)] [] σ (.inl (some (.int xr))) σr
  unfold f_X11_weight at h
  refine RN_iload_n (pc := 0) (k := 1) (by decide +kernel) rfl rfl ?_
  refine RN_if_lt (pc := 1) (off := 20) (tgt := 21) (by decide +kernel) (by decide) (fun c48 => ?_) (fun c48 => ?_)
  · replace h := it_t c48 h
    refine RN_iconst (pc := 21) (n := -1) (v := -1) (by decide +kernel) (by decide) ?_
    obtain ⟨rfl, rfl⟩ := some_el2 h
    exact RN_ireturn (by decide +kernel) rfl
  · replace h := it_f c48 h
    refine RN_iload_n (pc := 4) (k := 1) (by decide +kernel) rfl rfl ?_
    refine RN_iconst (pc := 5) (n := 4) (v := 4) (by decide +kernel) (by decide) ?_
    refine RN_icmp_ge (pc := 6) (off := 15) (tgt := 21) (by decide +kernel) (by decide) (fun c49 => ?_) (fun c49 => ?_)
    · replace h := it_t c49 h
      refine RN_iconst (pc := 21) (n := -1) (v := -1) (by decide +kernel) (by decide) ?_
      obtain ⟨rfl, rfl⟩ := some_el2 h
      exact RN_ireturn (by decide +kernel) rfl
    · replace h := it_f c49 h
      refine RN_iload_n (pc := 9) (k := 2) (by decide +kernel) rfl rfl ?_
      refine RN_iconst (pc := 10) (n := -1) (v := -1) (by decide +kernel) (by decide) ?_
      refine RN_icmp_lt (pc := 11) (off := 10) (tgt := 21) (by decide +kernel) (by decide) (fun c50 => ?_) (fun c50 => ?_)
      · replace h := it_t c50 h
        refine RN_iconst (pc := 21) (n := -1) (v := -1) (by decide +kernel) (by decide) ?_
        obtain ⟨rfl, rfl⟩ := some_el2 h
        exact RN_ireturn (by decide +kernel) rfl
      · replace h := it_f c50 h
        refine RN_iload_n (pc := 14) (k := 2) (by decide +kernel) rfl rfl ?_
        refine RN_sipush (pc := 15) (n := 1000) (v := 1000) (by decide +kernel) (by decide) ?_
        refine RN_icmp_le (pc := 18) (off := 5) (tgt := 23) (by decide +kernel) (by decide) (fun c51 => ?_) (fun c51 => ?_)
        · replace h := it_t c51 h
          refine RN_iload_n (pc := 23) (k := 2) (by decide +kernel) rfl rfl ?_
          refine RN_iconst (pc := 24) (n := -1) (v := -1) (by decide +kernel) (by decide) ?_
          refine RN_icmp_ne (pc := 25) (off := 15) (tgt := 40) (by decide +kernel) (by decide) (fun c52 => ?_) (fun c52 => ?_)
          · replace h := it_f c52 h
            refine RN_aload_n (pc := 40) (k := 0) (by decide +kernel) rfl rfl ?_
            obtain ⟨c53, h⟩ := ck_el h
            obtain ⟨c54, h⟩ := ck_el h
            refine RN_getR (pc := 41) (idx := 10) (ci := 10) (k := 0) (by decide +kernel) lf_RX11_10 rfl c53 c54 ?_
            obtain ⟨r55, er55, h⟩ := nm_el h
            refine RN_nmR er55 ?_
            obtain ⟨c56, h⟩ := ck_el h
            obtain ⟨c57, h⟩ := ck_el h
            refine RN_getR (pc := 44) (idx := 100) (ci := 7) (k := 3) (by decide +kernel) lf_RX11_100 rfl c56 c57 ?_
            obtain ⟨r58, er58, h⟩ := nm_el h
            refine RN_nmR er58 ?_
            refine RN_iload_n (pc := 47) (k := 1) (by decide +kernel) rfl rfl ?_
            obtain ⟨c59, h⟩ := ck_el h
            refine RN_iald (pc := 48) (by decide +kernel) c59 ?_
            refine RN_bipush (pc := 49) (n := 8) (v := 8) (by decide +kernel) (by decide) ?_
            refine RN_icmp_lt (pc := 51) (off := 6) (tgt := 57) (by decide +kernel) (by decide) (fun c60 => ?_) (fun c60 => ?_)
            · replace h := it_t c60 h
              refine RN_aload_n (pc := 57) (k := 0) (by decide +kernel) rfl rfl ?_
              refine RN_getR (pc := 58) (idx := 10) (ci := 10) (k := 0) (by decide +kernel) lf_RX11_10 rfl c53 c54 ?_
              obtain ⟨r61, er61, h⟩ := nm_el h
              refine RN_nmR er61 ?_
              obtain ⟨c62, h⟩ := ck_el h
              obtain ⟨c63, h⟩ := ck_el h
              refine RN_getR (pc := 61) (idx := 103) (ci := 7) (k := 2) (by decide +kernel) lf_RX11_103 rfl c62 c63 ?_
              obtain ⟨r64, er64, h⟩ := nm_el h
              refine RN_nmR er64 ?_
              refine RN_iload_n (pc := 64) (k := 1) (by decide +kernel) rfl rfl ?_
              obtain ⟨c65, h⟩ := ck_el h
              obtain ⟨c66, h⟩ := ck_el h
              refine RN_aald18 (pc := 65) (by decide +kernel) c65 c66 ?_
              obtain ⟨r67, er67, h⟩ := nm_el h
              refine RN_nmR er67 ?_
              refine RN_aload_n (pc := 66) (k := 0) (by decide +kernel) rfl rfl ?_
              refine RN_getR (pc := 67) (idx := 10) (ci := 10) (k := 0) (by decide +kernel) lf_RX11_10 rfl c53 c54 ?_
              obtain ⟨r68, er68, h⟩ := nm_el h
              refine RN_nmR er68 ?_
              obtain ⟨c69, h⟩ := ck_el h
              obtain ⟨c70, h⟩ := ck_el h
              refine RN_getR (pc := 70) (idx := 100) (ci := 7) (k := 3) (by decide +kernel) lf_RX11_100 rfl c69 c70 ?_
              obtain ⟨r71, er71, h⟩ := nm_el h
              refine RN_nmR er71 ?_
              refine RN_iload_n (pc := 73) (k := 1) (by decide +kernel) rfl rfl ?_
              obtain ⟨c72, h⟩ := ck_el h
              refine RN_iald (pc := 74) (by decide +kernel) c72 ?_
              refine RN_iload_n (pc := 75) (k := 2) (by decide +kernel) rfl rfl ?_
              obtain ⟨c73, h⟩ := ck_el h
              refine RN_iast (pc := 76) (by decide +kernel) c73 ?_
              obtain ⟨σ74, eσ74, h⟩ := nm_el h
              refine RN_nmS eσ74 ?_
              refine RN_aload_n (pc := 77) (k := 0) (by decide +kernel) rfl rfl ?_
              obtain ⟨c75, h⟩ := ck_el h
              obtain ⟨c76, h⟩ := ck_el h
              refine RN_getR (pc := 78) (idx := 10) (ci := 10) (k := 0) (by decide +kernel) lf_RX11_10 rfl c75 c76 ?_
              obtain ⟨r77, er77, h⟩ := nm_el h
              refine RN_nmR er77 ?_
              obtain ⟨c78, h⟩ := ck_el h
              obtain ⟨c79, h⟩ := ck_el h
              refine RN_getR (pc := 81) (idx := 100) (ci := 7) (k := 3) (by decide +kernel) lf_RX11_100 rfl c78 c79 ?_
              obtain ⟨r80, er80, h⟩ := nm_el h
              refine RN_nmR er80 ?_
              refine RN_iload_n (pc := 84) (k := 1) (by decide +kernel) rfl rfl ?_
              refine RN_dup2_11 (pc := 85) (by decide +kernel) rfl rfl ?_
              obtain ⟨c81, h⟩ := ck_el h
              refine RN_iald (pc := 86) (by decide +kernel) c81 ?_
              refine RN_iconst (pc := 87) (n := 1) (v := 1) (by decide +kernel) (by decide) ?_
              refine RN_iadd (pc := 88) (by decide +kernel) ?_
              obtain ⟨c82, h⟩ := ck_el h
              refine RN_iast (pc := 89) (by decide +kernel) c82 ?_
              obtain ⟨σ83, eσ83, h⟩ := nm_el h
              refine RN_nmS eσ83 ?_
              refine RN_aload_n (pc := 90) (k := 0) (by decide +kernel) rfl rfl ?_
              obtain ⟨c84, h⟩ := ck_el h
              obtain ⟨c85, h⟩ := ck_el h
              refine RN_getR (pc := 91) (idx := 10) (ci := 10) (k := 0) (by decide +kernel) lf_RX11_10 rfl c84 c85 ?_
              obtain ⟨r86, er86, h⟩ := nm_el h
              refine RN_nmR er86 ?_
              obtain ⟨c87, h⟩ := ck_el h
              obtain ⟨c88, h⟩ := ck_el h
              refine RN_getR (pc := 94) (idx := 100) (ci := 7) (k := 3) (by decide +kernel) lf_RX11_100 rfl c87 c88 ?_
              obtain ⟨r89, er89, h⟩ := nm_el h
              refine RN_nmR er89 ?_
              refine RN_iload_n (pc := 97) (k := 1) (by decide +kernel) rfl rfl ?_
              obtain ⟨c90, h⟩ := ck_el h
              refine RN_iald (pc := 98) (by decide +kernel) c90 ?_
              obtain ⟨rfl, rfl⟩ := some_el2 h
              exact RN_ireturn (by decide +kernel) rfl
            · replace h := it_f c60 h
              refine RN_bipush (pc := 54) (n := -2) (v := -2) (by decide +kernel) (by decide) ?_
              obtain ⟨rfl, rfl⟩ := some_el2 h
              exact RN_ireturn (by decide +kernel) rfl
          · replace h := it_t c52 h
            refine RN_aload_n (pc := 28) (k := 0) (by decide +kernel) rfl rfl ?_
            obtain ⟨c91, h⟩ := ck_el h
            obtain ⟨c92, h⟩ := ck_el h
            refine RN_getR (pc := 29) (idx := 10) (ci := 10) (k := 0) (by decide +kernel) lf_RX11_10 rfl c91 c92 ?_
            obtain ⟨r93, er93, h⟩ := nm_el h
            refine RN_nmR er93 ?_
            obtain ⟨c94, h⟩ := ck_el h
            obtain ⟨c95, h⟩ := ck_el h
            refine RN_getR (pc := 32) (idx := 100) (ci := 7) (k := 3) (by decide +kernel) lf_RX11_100 rfl c94 c95 ?_
            obtain ⟨r96, er96, h⟩ := nm_el h
            refine RN_nmR er96 ?_
            refine RN_iload_n (pc := 35) (k := 1) (by decide +kernel) rfl rfl ?_
            refine RN_iconst (pc := 36) (n := 0) (v := 0) (by decide +kernel) (by decide) ?_
            obtain ⟨c97, h⟩ := ck_el h
            refine RN_iast (pc := 37) (by decide +kernel) c97 ?_
            obtain ⟨σ98, eσ98, h⟩ := nm_el h
            refine RN_nmS eσ98 ?_
            refine RN_iconst (pc := 38) (n := 0) (v := 0) (by decide +kernel) (by decide) ?_
            obtain ⟨rfl, rfl⟩ := some_el2 h
            exact RN_ireturn (by decide +kernel) rfl
        · replace h := it_f c51 h
          refine RN_iconst (pc := 21) (n := -1) (v := -1) (by decide +kernel) (by decide) ?_
          obtain ⟨rfl, rfl⟩ := some_el2 h
          exact RN_ireturn (by decide +kernel) rfl
def f_X11_program (v0 : Nat) (σ : Sg) : Option (Int32 × Sg) :=
  ck (okO σ v0 10) <|
  if (gI σ v0 8) < (4 : Int32) then (
    ck (¬ gR σ v0 3 = 0) <|
    nm (gR σ v0 3) fun r17 =>
    ck (okA σ r17 16 (gI σ v0 8)) <|
    ck (¬ gR σ r17 (gI σ v0 8).toNatClampNeg = 0) <|
    nm (gR σ r17 (gI σ v0 8).toNatClampNeg) fun r20 =>
    ck (okO σ r20 5) <|
    bp (f_X6_reset r20 σ) fun σ23 =>
    ck (okO σ23 v0 10) <|
    nm (pI σ23 v0 8 ((gI σ23 v0 8) + (1 : Int32))) fun σ25 =>
    ck (okO σ25 v0 10) <|
    some ((gI σ25 v0 8) - (1 : Int32), σ25))
  else (
    some ((-2 : Int32), σ))
set_option maxRecDepth 20000 in
theorem t_X11_program {G : Gl} {xr : Int32} {σr : Sg} {v0 : Nat} {σ : Sg} (h : f_X11_program v0 σ = some (xr, σr)) : MT G M_X11_program [.ref v0] σ (some (.int xr)) σr := by
  refine MT_of rfl rfl (Nat.le_of_ble_eq_true rfl) ?_
  show RN G M_X11_program 0 [some (.ref v0)] [] σ (.inl (some (.int xr))) σr
  unfold f_X11_program at h
  refine RN_aload_n (pc := 0) (k := 0) (by decide +kernel) rfl rfl ?_
  obtain ⟨c14, h⟩ := ck_el h
  refine RN_getI (pc := 1) (idx := 65) (ci := 10) (k := 8) (by decide +kernel) lf_RX11_65 (Or.inl rfl) c14 ?_
  refine RN_iconst (pc := 4) (n := 4) (v := 4) (by decide +kernel) (by decide) ?_
  refine RN_icmp_lt (pc := 5) (off := 6) (tgt := 11) (by decide +kernel) (by decide) (fun c15 => ?_) (fun c15 => ?_)
  · replace h := it_t c15 h
    refine RN_aload_n (pc := 11) (k := 0) (by decide +kernel) rfl rfl ?_
    obtain ⟨c16, h⟩ := ck_el h
    refine RN_getR (pc := 12) (idx := 32) (ci := 10) (k := 3) (by decide +kernel) lf_RX11_32 rfl c14 c16 ?_
    obtain ⟨r17, er17, h⟩ := nm_el h
    refine RN_nmR er17 ?_
    refine RN_aload_n (pc := 15) (k := 0) (by decide +kernel) rfl rfl ?_
    refine RN_getI (pc := 16) (idx := 65) (ci := 10) (k := 8) (by decide +kernel) lf_RX11_65 (Or.inl rfl) c14 ?_
    obtain ⟨c18, h⟩ := ck_el h
    obtain ⟨c19, h⟩ := ck_el h
    refine RN_aald16 (pc := 19) (by decide +kernel) c18 c19 ?_
    obtain ⟨r20, er20, h⟩ := nm_el h
    refine RN_nmR er20 ?_
    obtain ⟨c21, h⟩ := ck_el h
    obtain ⟨σ23, f22, h⟩ := bp_el h
    refine RN_callV (M := M_X11_program) (pc := 20) (idx := 107) (as := []) (st := []) (t_X6_reset f22) (by decide +kernel) lk_RX11_107 rfl ⟨by decide, fun q hq => by cases hq; rfl⟩ c21 (Nat.le_of_ble_eq_true rfl) ⟨Nat.le_of_ble_eq_true rfl, Nat.le_of_ble_eq_true rfl⟩ rfl ?_
    show RN G M_X11_program 23 [some (.ref v0)] [] σ23 _ _
    refine RN_aload_n (pc := 23) (k := 0) (by decide +kernel) rfl rfl ?_
    refine RN_dup (pc := 24) (by decide +kernel) rfl ?_
    obtain ⟨c24, h⟩ := ck_el h
    refine RN_getI (pc := 25) (idx := 65) (ci := 10) (k := 8) (by decide +kernel) lf_RX11_65 (Or.inl rfl) c24 ?_
    refine RN_iconst (pc := 28) (n := 1) (v := 1) (by decide +kernel) (by decide) ?_
    refine RN_iadd (pc := 29) (by decide +kernel) ?_
    refine RN_putI (pc := 30) (idx := 65) (ci := 10) (k := 8) (by decide +kernel) lf_RX11_65 rfl (fun q hq => by cases hq; exact Or.inl rfl) c24 ?_
    obtain ⟨σ25, eσ25, h⟩ := nm_el h
    refine RN_nmS eσ25 ?_
    refine RN_aload_n (pc := 33) (k := 0) (by decide +kernel) rfl rfl ?_
    obtain ⟨c26, h⟩ := ck_el h
    refine RN_getI (pc := 34) (idx := 65) (ci := 10) (k := 8) (by decide +kernel) lf_RX11_65 (Or.inl rfl) c26 ?_
    refine RN_iconst (pc := 37) (n := 1) (v := 1) (by decide +kernel) (by decide) ?_
    refine RN_isub (pc := 38) (by decide +kernel) ?_
    obtain ⟨rfl, rfl⟩ := some_el2 h
    exact RN_ireturn (by decide +kernel) rfl
  · replace h := it_f c15 h
    refine RN_bipush (pc := 8) (n := -2) (v := -2) (by decide +kernel) (by decide) ?_
    obtain ⟨rfl, rfl⟩ := some_el2 h
    exact RN_ireturn (by decide +kernel) rfl
def b_X11_isProgram_16 (σ : Sg) : Option Int32 :=
  some (0 : Int32)
set_option maxRecDepth 20000 in
theorem tb_X11_isProgram_16 {G : Gl} {xr : Int32} (σ : Sg) (h : b_X11_isProgram_16 σ = some xr) : RN G M_X11_isProgram 16 [] [] σ (.inl (some (.int xr))) σ := by
  unfold b_X11_isProgram_16 at h
  refine RN_iconst (pc := 16) (n := 0) (v := 0) (by decide +kernel) (by decide) ?_
  obtain rfl := some_el h
  exact RN_zreturn (by decide +kernel) rfl (Or.inl rfl)
def f_X11_isProgram (v0 : Nat) (v1 : Int32) (σ : Sg) : Option Int32 :=
  if v1 < 0 then (
    b_X11_isProgram_16 σ)
  else (
    ck (okO σ v0 10) <|
    if (gI σ v0 8) ≤ v1 then (
      b_X11_isProgram_16 σ)
    else (
      some (1 : Int32)))
set_option maxRecDepth 20000 in
theorem t_X11_isProgram {G : Gl} {xr : Int32} {v0 : Nat} {v1 : Int32} {σ : Sg} (h : f_X11_isProgram v0 v1 σ = some xr) : MT G M_X11_isProgram [.ref v0, .int v1] σ (some (.int xr)) σ := by
  refine MT_of rfl rfl (Nat.le_of_ble_eq_true rfl) ?_
  show RN G M_X11_isProgram 0 [some (.ref v0), some (.int v1)] [] σ (.inl (some (.int xr))) σ
  unfold f_X11_isProgram at h
  refine RN_iload_n (pc := 0) (k := 1) (by decide +kernel) rfl rfl ?_
  refine RN_if_lt (pc := 1) (off := 15) (tgt := 16) (by decide +kernel) (by decide) (fun c2 => ?_) (fun c2 => ?_)
  · replace h := it_t c2 h
    exact RN_weak (l := []) trivial (tb_X11_isProgram_16  σ h)
  · replace h := it_f c2 h
    refine RN_iload_n (pc := 4) (k := 1) (by decide +kernel) rfl rfl ?_
    refine RN_aload_n (pc := 5) (k := 0) (by decide +kernel) rfl rfl ?_
    obtain ⟨c3, h⟩ := ck_el h
    refine RN_getI (pc := 6) (idx := 65) (ci := 10) (k := 8) (by decide +kernel) lf_RX11_65 (Or.inl rfl) c3 ?_
    refine RN_icmp_ge (pc := 9) (off := 7) (tgt := 16) (by decide +kernel) (by decide) (fun c4 => ?_) (fun c4 => ?_)
    · replace h := it_t c4 h
      exact RN_weak (l := []) trivial (tb_X11_isProgram_16  σ h)
    · replace h := it_f c4 h
      refine RN_iconst (pc := 12) (n := 1) (v := 1) (by decide +kernel) (by decide) ?_
      refine RN_goto (pc := 13) (off := 4) (tgt := 17) (by decide +kernel) (by decide) ?_
      obtain rfl := some_el h
      exact RN_zreturn (by decide +kernel) rfl (Or.inr rfl)
def b_X11_isSlot_14 : Option Int32 :=
  some (0 : Int32)
set_option maxRecDepth 20000 in
theorem tb_X11_isSlot_14 {G : Gl} {xr : Int32} {σ : Sg} (h : b_X11_isSlot_14 = some xr) : RN G M_X11_isSlot 14 [] [] σ (.inl (some (.int xr))) σ := by
  unfold b_X11_isSlot_14 at h
  refine RN_iconst (pc := 14) (n := 0) (v := 0) (by decide +kernel) (by decide) ?_
  obtain rfl := some_el h
  exact RN_zreturn (by decide +kernel) rfl (Or.inl rfl)
def f_X11_isSlot (v0 : Int32) : Option Int32 :=
  if v0 < 0 then (
    b_X11_isSlot_14)
  else (
    if (8 : Int32) ≤ v0 then (
      b_X11_isSlot_14)
    else (
      some (1 : Int32)))
set_option maxRecDepth 20000 in
theorem t_X11_isSlot {G : Gl} {xr : Int32} {v0 : Int32} {σ : Sg} (h : f_X11_isSlot v0 = some xr) : MT G M_X11_isSlot [.int v0] σ (some (.int xr)) σ := by
  refine MT_of rfl rfl (Nat.le_of_ble_eq_true rfl) ?_
  show RN G M_X11_isSlot 0 [some (.int v0)] [] σ (.inl (some (.int xr))) σ
  unfold f_X11_isSlot at h
  refine RN_iload_n (pc := 0) (k := 0) (by decide +kernel) rfl rfl ?_
  refine RN_if_lt (pc := 1) (off := 13) (tgt := 14) (by decide +kernel) (by decide) (fun c1 => ?_) (fun c1 => ?_)
  · replace h := it_t c1 h
    exact RN_weak (l := []) trivial (tb_X11_isSlot_14  h)
  · replace h := it_f c1 h
    refine RN_iload_n (pc := 4) (k := 0) (by decide +kernel) rfl rfl ?_
    refine RN_bipush (pc := 5) (n := 8) (v := 8) (by decide +kernel) (by decide) ?_
    refine RN_icmp_ge (pc := 7) (off := 7) (tgt := 14) (by decide +kernel) (by decide) (fun c2 => ?_) (fun c2 => ?_)
    · replace h := it_t c2 h
      exact RN_weak (l := []) trivial (tb_X11_isSlot_14  h)
    · replace h := it_f c2 h
      refine RN_iconst (pc := 10) (n := 1) (v := 1) (by decide +kernel) (by decide) ?_
      refine RN_goto (pc := 11) (off := 4) (tgt := 15) (by decide +kernel) (by decide) ?_
      obtain rfl := some_el h
      exact RN_zreturn (by decide +kernel) rfl (Or.inr rfl)
def b_X11_fits_35 (σ : Sg) : Option Int32 :=
  some (0 : Int32)
set_option maxRecDepth 20000 in
theorem tb_X11_fits_35 {G : Gl} {xr : Int32} (σ : Sg) (h : b_X11_fits_35 σ = some xr) : RN G M_X11_fits 35 [] [] σ (.inl (some (.int xr))) σ := by
  unfold b_X11_fits_35 at h
  refine RN_iconst (pc := 35) (n := 0) (v := 0) (by decide +kernel) (by decide) ?_
  obtain rfl := some_el h
  exact RN_zreturn (by decide +kernel) rfl (Or.inl rfl)
def f_X11_fits (v0 : Int32) (v1 : Int32) (v2 : Int32) (σ : Sg) : Option Int32 :=
  if v1 < 0 then (
    b_X11_fits_35 σ)
  else (
    ck (okA σ 1 13 v0) <|
    if (gI σ 1 v0.toNatClampNeg) < v1 then (
      b_X11_fits_35 σ)
    else (
      ck (okA σ 2 13 v0) <|
      if v2 < (gI σ 2 v0.toNatClampNeg) then (
        b_X11_fits_35 σ)
      else (
        ck (okA σ 3 13 v0) <|
        if (gI σ 3 v0.toNatClampNeg) < v2 then (
          b_X11_fits_35 σ)
        else (
          some (1 : Int32)))))
set_option maxRecDepth 20000 in
theorem t_X11_fits {G : Gl} {xr : Int32} {v0 : Int32} {v1 : Int32} {v2 : Int32} {σ : Sg} (h : f_X11_fits v0 v1 v2 σ = some xr) : MT G M_X11_fits [.int v0, .int v1, .int v2] σ (some (.int xr)) σ := by
  refine MT_of rfl rfl (Nat.le_of_ble_eq_true rfl) ?_
  show RN G M_X11_fits 0 [some (.int v0), some (.int v1), some (.int v2)] [] σ (.inl (some (.int xr))) σ
  unfold f_X11_fits at h
  refine RN_iload_n (pc := 0) (k := 1) (by decide +kernel) rfl rfl ?_
  refine RN_if_lt (pc := 1) (off := 34) (tgt := 35) (by decide +kernel) (by decide) (fun c4 => ?_) (fun c4 => ?_)
  · replace h := it_t c4 h
    exact RN_weak (l := []) trivial (tb_X11_fits_35  σ h)
  · replace h := it_f c4 h
    refine RN_iload_n (pc := 4) (k := 1) (by decide +kernel) rfl rfl ?_
    refine RN_gets (pc := 5) (idx := 323) (k := 1) (by decide +kernel) ks_RX11_323 (Or.inl ⟨rfl, rfl⟩) ?_
    refine RN_iload_n (pc := 8) (k := 0) (by decide +kernel) rfl rfl ?_
    obtain ⟨c5, h⟩ := ck_el h
    refine RN_iald (pc := 9) (by decide +kernel) c5 ?_
    refine RN_icmp_gt (pc := 10) (off := 25) (tgt := 35) (by decide +kernel) (by decide) (fun c6 => ?_) (fun c6 => ?_)
    · replace h := it_t c6 h
      exact RN_weak (l := []) trivial (tb_X11_fits_35  σ h)
    · replace h := it_f c6 h
      refine RN_iload_n (pc := 13) (k := 2) (by decide +kernel) rfl rfl ?_
      refine RN_gets (pc := 14) (idx := 326) (k := 2) (by decide +kernel) ks_RX11_326 (Or.inr (Or.inl ⟨rfl, rfl⟩)) ?_
      refine RN_iload_n (pc := 17) (k := 0) (by decide +kernel) rfl rfl ?_
      obtain ⟨c7, h⟩ := ck_el h
      refine RN_iald (pc := 18) (by decide +kernel) c7 ?_
      refine RN_icmp_lt (pc := 19) (off := 16) (tgt := 35) (by decide +kernel) (by decide) (fun c8 => ?_) (fun c8 => ?_)
      · replace h := it_t c8 h
        exact RN_weak (l := []) trivial (tb_X11_fits_35  σ h)
      · replace h := it_f c8 h
        refine RN_iload_n (pc := 22) (k := 2) (by decide +kernel) rfl rfl ?_
        refine RN_gets (pc := 23) (idx := 329) (k := 3) (by decide +kernel) ks_RX11_329 (Or.inr (Or.inr ⟨rfl, rfl⟩)) ?_
        refine RN_iload_n (pc := 26) (k := 0) (by decide +kernel) rfl rfl ?_
        obtain ⟨c9, h⟩ := ck_el h
        refine RN_iald (pc := 27) (by decide +kernel) c9 ?_
        refine RN_icmp_gt (pc := 28) (off := 7) (tgt := 35) (by decide +kernel) (by decide) (fun c10 => ?_) (fun c10 => ?_)
        · replace h := it_t c10 h
          exact RN_weak (l := []) trivial (tb_X11_fits_35  σ h)
        · replace h := it_f c10 h
          refine RN_iconst (pc := 31) (n := 1) (v := 1) (by decide +kernel) (by decide) ?_
          refine RN_goto (pc := 32) (off := 4) (tgt := 36) (by decide +kernel) (by decide) ?_
          obtain rfl := some_el h
          exact RN_zreturn (by decide +kernel) rfl (Or.inr rfl)
def f_X11_act (v0 : Nat) (v1 : Int32) (v2 : Int32) (v3 : Int32) (v4 : Int32) (v5 : Int32) (σ : Sg) : Option (Int32 × Sg) :=
  ck (okO σ v0 10) <|
  bp (f_X11_isProgram v0 v1 σ) fun x40 =>
  if x40 = 0 then (
    some ((-1 : Int32), σ))
  else (
    if v2 < 0 then (
      some ((-1 : Int32), σ))
    else (
      if (12 : Int32) < v2 then (
        some ((-1 : Int32), σ))
      else (
        bp (f_X11_isSlot v3) fun x45 =>
        if x45 = 0 then (
          some ((-1 : Int32), σ))
        else (
          bp (f_X11_fits v2 v4 v5 σ) fun x48 =>
          if x48 = 0 then (
            some ((-1 : Int32), σ))
          else (
            ck (¬ gR σ v0 3 = 0) <|
            nm (gR σ v0 3) fun r51 =>
            ck (okA σ r51 16 v1) <|
            ck (¬ gR σ r51 v1.toNatClampNeg = 0) <|
            nm (gR σ r51 v1.toNatClampNeg) fun r54 =>
            ck (okO σ r54 5) <|
            if (gI σ r54 4) < (20 : Int32) then (
              ck (¬ gR σ r54 0 = 0) <|
              nm (gR σ r54 0) fun r58 =>
              ck (okW σ r58 13 (gI σ r54 4)) <|
              nm (pI σ r58 (gI σ r54 4).toNatClampNeg v2) fun σ60 =>
              ck (okO σ60 r54 5) <|
              ck (¬ gR σ60 r54 1 = 0) <|
              nm (gR σ60 r54 1) fun r63 =>
              ck (okW σ60 r63 13 (gI σ60 r54 4)) <|
              nm (pI σ60 r63 (gI σ60 r54 4).toNatClampNeg v3) fun σ65 =>
              ck (okO σ65 r54 5) <|
              ck (¬ gR σ65 r54 2 = 0) <|
              nm (gR σ65 r54 2) fun r68 =>
              ck (okW σ65 r68 13 (gI σ65 r54 4)) <|
              nm (pI σ65 r68 (gI σ65 r54 4).toNatClampNeg v4) fun σ70 =>
              ck (okO σ70 r54 5) <|
              ck (¬ gR σ70 r54 3 = 0) <|
              nm (gR σ70 r54 3) fun r73 =>
              ck (okW σ70 r73 13 (gI σ70 r54 4)) <|
              nm (pI σ70 r73 (gI σ70 r54 4).toNatClampNeg v5) fun σ75 =>
              ck (okO σ75 r54 5) <|
              nm (pI σ75 r54 4 ((gI σ75 r54 4) + (1 : Int32))) fun σ77 =>
              ck (okO σ77 r54 5) <|
              some (gI σ77 r54 4, σ77))
            else (
              some ((-2 : Int32), σ)))))))
set_option maxRecDepth 20000 in
theorem t_X11_act {G : Gl} {xr : Int32} {σr : Sg} {v0 : Nat} {v1 : Int32} {v2 : Int32} {v3 : Int32} {v4 : Int32} {v5 : Int32} {σ : Sg} (h : f_X11_act v0 v1 v2 v3 v4 v5 σ = some (xr, σr)) : MT G M_X11_act [.ref v0, .int v1, .int v2, .int v3, .int v4, .int v5] σ (some (.int xr)) σr := by
  refine MT_of rfl rfl (Nat.le_of_ble_eq_true rfl) ?_
  show RN G M_X11_act 0 [some (.ref v0), some (.int v1), some (.int v2), some (.int v3), some (.int v4), some (.int v5)] [] σ (.inl (some (.int xr))) σr
  unfold f_X11_act at h
  refine RN_aload_n (pc := 0) (k := 0) (by decide +kernel) rfl rfl ?_
  refine RN_iload_n (pc := 1) (k := 1) (by decide +kernel) rfl rfl ?_
  obtain ⟨c38, h⟩ := ck_el h
  obtain ⟨x40, f39, h⟩ := bp_el h
  refine RN_callV (M := M_X11_act) (pc := 2) (idx := 108) (as := [.int v1]) (st := []) (t_X11_isProgram f39) (by decide +kernel) lk_RX11_108 rfl ⟨by decide, fun q hq => by cases hq; rfl⟩ c38 (Nat.le_of_ble_eq_true rfl) ⟨Nat.le_of_ble_eq_true rfl, Nat.le_of_ble_eq_true rfl⟩ rfl ?_
  show RN G M_X11_act 5 [some (.ref v0), some (.int v1), some (.int v2), some (.int v3), some (.int v4), some (.int v5)] [.int x40] σ _ _
  refine RN_if_eq (pc := 5) (off := 31) (tgt := 36) (by decide +kernel) (by decide) (fun c41 => ?_) (fun c41 => ?_)
  · replace h := it_t c41 h
    refine RN_iconst (pc := 36) (n := -1) (v := -1) (by decide +kernel) (by decide) ?_
    obtain ⟨rfl, rfl⟩ := some_el2 h
    exact RN_ireturn (by decide +kernel) rfl
  · replace h := it_f c41 h
    refine RN_iload_n (pc := 8) (k := 2) (by decide +kernel) rfl rfl ?_
    refine RN_if_lt (pc := 9) (off := 27) (tgt := 36) (by decide +kernel) (by decide) (fun c42 => ?_) (fun c42 => ?_)
    · replace h := it_t c42 h
      refine RN_iconst (pc := 36) (n := -1) (v := -1) (by decide +kernel) (by decide) ?_
      obtain ⟨rfl, rfl⟩ := some_el2 h
      exact RN_ireturn (by decide +kernel) rfl
    · replace h := it_f c42 h
      refine RN_iload_n (pc := 12) (k := 2) (by decide +kernel) rfl rfl ?_
      refine RN_bipush (pc := 13) (n := 12) (v := 12) (by decide +kernel) (by decide) ?_
      refine RN_icmp_gt (pc := 15) (off := 21) (tgt := 36) (by decide +kernel) (by decide) (fun c43 => ?_) (fun c43 => ?_)
      · replace h := it_t c43 h
        refine RN_iconst (pc := 36) (n := -1) (v := -1) (by decide +kernel) (by decide) ?_
        obtain ⟨rfl, rfl⟩ := some_el2 h
        exact RN_ireturn (by decide +kernel) rfl
      · replace h := it_f c43 h
        refine RN_iload_n (pc := 18) (k := 3) (by decide +kernel) rfl rfl ?_
        obtain ⟨x45, f44, h⟩ := bp_el h
        refine RN_callS (M := M_X11_act) (pc := 19) (idx := 111) (as := [.int v3]) (st := []) (t_X11_isSlot f44) (by decide +kernel) lk_RX11_111 rfl (Nat.le_of_ble_eq_true rfl) ⟨Nat.le_of_ble_eq_true rfl, Nat.le_of_ble_eq_true rfl⟩ rfl ?_
        show RN G M_X11_act 22 [some (.ref v0), some (.int v1), some (.int v2), some (.int v3), some (.int v4), some (.int v5)] [.int x45] σ _ _
        refine RN_if_eq (pc := 22) (off := 14) (tgt := 36) (by decide +kernel) (by decide) (fun c46 => ?_) (fun c46 => ?_)
        · replace h := it_t c46 h
          refine RN_iconst (pc := 36) (n := -1) (v := -1) (by decide +kernel) (by decide) ?_
          obtain ⟨rfl, rfl⟩ := some_el2 h
          exact RN_ireturn (by decide +kernel) rfl
        · replace h := it_f c46 h
          refine RN_iload_n (pc := 25) (k := 2) (by decide +kernel) rfl rfl ?_
          refine RN_iload (pc := 26) (i := 4) (by decide +kernel) rfl ?_
          refine RN_iload (pc := 28) (i := 5) (by decide +kernel) rfl ?_
          obtain ⟨x48, f47, h⟩ := bp_el h
          refine RN_callS (M := M_X11_act) (pc := 30) (idx := 114) (as := [.int v2, .int v4, .int v5]) (st := []) (t_X11_fits f47) (by decide +kernel) lk_RX11_114 rfl (Nat.le_of_ble_eq_true rfl) ⟨Nat.le_of_ble_eq_true rfl, Nat.le_of_ble_eq_true rfl⟩ rfl ?_
          show RN G M_X11_act 33 [some (.ref v0), some (.int v1), some (.int v2), some (.int v3), some (.int v4), some (.int v5)] [.int x48] σ _ _
          refine RN_if_ne (pc := 33) (off := 5) (tgt := 38) (by decide +kernel) (by decide) (fun c49 => ?_) (fun c49 => ?_)
          · replace h := it_f c49 h
            refine RN_aload_n (pc := 38) (k := 0) (by decide +kernel) rfl rfl ?_
            obtain ⟨c50, h⟩ := ck_el h
            refine RN_getR (pc := 39) (idx := 32) (ci := 10) (k := 3) (by decide +kernel) lf_RX11_32 rfl c38 c50 ?_
            obtain ⟨r51, er51, h⟩ := nm_el h
            refine RN_nmR er51 ?_
            refine RN_iload_n (pc := 42) (k := 1) (by decide +kernel) rfl rfl ?_
            obtain ⟨c52, h⟩ := ck_el h
            obtain ⟨c53, h⟩ := ck_el h
            refine RN_aald16 (pc := 43) (by decide +kernel) c52 c53 ?_
            obtain ⟨r54, er54, h⟩ := nm_el h
            refine RN_nmR er54 ?_
            refine RN_astore (pc := 44) (i := 6) (ls2 := [some (.ref v0), some (.int v1), some (.int v2), some (.int v3), some (.int v4), some (.int v5), some (.ref r54)]) (by decide +kernel) (by decide) rfl ?_
            refine RN_aload (pc := 46) (i := 6) (by decide +kernel) rfl ?_
            obtain ⟨c55, h⟩ := ck_el h
            refine RN_getI (pc := 48) (idx := 118) (ci := 5) (k := 4) (by decide +kernel) lf_RX11_118 (Or.inl rfl) c55 ?_
            refine RN_bipush (pc := 51) (n := 20) (v := 20) (by decide +kernel) (by decide) ?_
            refine RN_icmp_lt (pc := 53) (off := 6) (tgt := 59) (by decide +kernel) (by decide) (fun c56 => ?_) (fun c56 => ?_)
            · replace h := it_t c56 h
              refine RN_aload (pc := 59) (i := 6) (by decide +kernel) rfl ?_
              obtain ⟨c57, h⟩ := ck_el h
              refine RN_getR (pc := 61) (idx := 119) (ci := 5) (k := 0) (by decide +kernel) lf_RX11_119 rfl c55 c57 ?_
              obtain ⟨r58, er58, h⟩ := nm_el h
              refine RN_nmR er58 ?_
              refine RN_aload (pc := 64) (i := 6) (by decide +kernel) rfl ?_
              refine RN_getI (pc := 66) (idx := 118) (ci := 5) (k := 4) (by decide +kernel) lf_RX11_118 (Or.inl rfl) c55 ?_
              refine RN_iload_n (pc := 69) (k := 2) (by decide +kernel) rfl rfl ?_
              obtain ⟨c59, h⟩ := ck_el h
              refine RN_iast (pc := 70) (by decide +kernel) c59 ?_
              obtain ⟨σ60, eσ60, h⟩ := nm_el h
              refine RN_nmS eσ60 ?_
              refine RN_aload (pc := 71) (i := 6) (by decide +kernel) rfl ?_
              obtain ⟨c61, h⟩ := ck_el h
              obtain ⟨c62, h⟩ := ck_el h
              refine RN_getR (pc := 73) (idx := 122) (ci := 5) (k := 1) (by decide +kernel) lf_RX11_122 rfl c61 c62 ?_
              obtain ⟨r63, er63, h⟩ := nm_el h
              refine RN_nmR er63 ?_
              refine RN_aload (pc := 76) (i := 6) (by decide +kernel) rfl ?_
              refine RN_getI (pc := 78) (idx := 118) (ci := 5) (k := 4) (by decide +kernel) lf_RX11_118 (Or.inl rfl) c61 ?_
              refine RN_iload_n (pc := 81) (k := 3) (by decide +kernel) rfl rfl ?_
              obtain ⟨c64, h⟩ := ck_el h
              refine RN_iast (pc := 82) (by decide +kernel) c64 ?_
              obtain ⟨σ65, eσ65, h⟩ := nm_el h
              refine RN_nmS eσ65 ?_
              refine RN_aload (pc := 83) (i := 6) (by decide +kernel) rfl ?_
              obtain ⟨c66, h⟩ := ck_el h
              obtain ⟨c67, h⟩ := ck_el h
              refine RN_getR (pc := 85) (idx := 125) (ci := 5) (k := 2) (by decide +kernel) lf_RX11_125 rfl c66 c67 ?_
              obtain ⟨r68, er68, h⟩ := nm_el h
              refine RN_nmR er68 ?_
              refine RN_aload (pc := 88) (i := 6) (by decide +kernel) rfl ?_
              refine RN_getI (pc := 90) (idx := 118) (ci := 5) (k := 4) (by decide +kernel) lf_RX11_118 (Or.inl rfl) c66 ?_
              refine RN_iload (pc := 93) (i := 4) (by decide +kernel) rfl ?_
              obtain ⟨c69, h⟩ := ck_el h
              refine RN_iast (pc := 95) (by decide +kernel) c69 ?_
              obtain ⟨σ70, eσ70, h⟩ := nm_el h
              refine RN_nmS eσ70 ?_
              refine RN_aload (pc := 96) (i := 6) (by decide +kernel) rfl ?_
              obtain ⟨c71, h⟩ := ck_el h
              obtain ⟨c72, h⟩ := ck_el h
              refine RN_getR (pc := 98) (idx := 128) (ci := 5) (k := 3) (by decide +kernel) lf_RX11_128 rfl c71 c72 ?_
              obtain ⟨r73, er73, h⟩ := nm_el h
              refine RN_nmR er73 ?_
              refine RN_aload (pc := 101) (i := 6) (by decide +kernel) rfl ?_
              refine RN_getI (pc := 103) (idx := 118) (ci := 5) (k := 4) (by decide +kernel) lf_RX11_118 (Or.inl rfl) c71 ?_
              refine RN_iload (pc := 106) (i := 5) (by decide +kernel) rfl ?_
              obtain ⟨c74, h⟩ := ck_el h
              refine RN_iast (pc := 108) (by decide +kernel) c74 ?_
              obtain ⟨σ75, eσ75, h⟩ := nm_el h
              refine RN_nmS eσ75 ?_
              refine RN_aload (pc := 109) (i := 6) (by decide +kernel) rfl ?_
              refine RN_dup (pc := 111) (by decide +kernel) rfl ?_
              obtain ⟨c76, h⟩ := ck_el h
              refine RN_getI (pc := 112) (idx := 118) (ci := 5) (k := 4) (by decide +kernel) lf_RX11_118 (Or.inl rfl) c76 ?_
              refine RN_iconst (pc := 115) (n := 1) (v := 1) (by decide +kernel) (by decide) ?_
              refine RN_iadd (pc := 116) (by decide +kernel) ?_
              refine RN_putI (pc := 117) (idx := 118) (ci := 5) (k := 4) (by decide +kernel) lf_RX11_118 rfl (fun q hq => by cases hq; exact Or.inl rfl) c76 ?_
              obtain ⟨σ77, eσ77, h⟩ := nm_el h
              refine RN_nmS eσ77 ?_
              refine RN_aload (pc := 120) (i := 6) (by decide +kernel) rfl ?_
              obtain ⟨c78, h⟩ := ck_el h
              refine RN_getI (pc := 122) (idx := 118) (ci := 5) (k := 4) (by decide +kernel) lf_RX11_118 (Or.inl rfl) c78 ?_
              obtain ⟨rfl, rfl⟩ := some_el2 h
              exact RN_ireturn (by decide +kernel) rfl
            · replace h := it_f c56 h
              refine RN_bipush (pc := 56) (n := -2) (v := -2) (by decide +kernel) (by decide) ?_
              obtain ⟨rfl, rfl⟩ := some_el2 h
              exact RN_ireturn (by decide +kernel) rfl
          · replace h := it_t c49 h
            refine RN_iconst (pc := 36) (n := -1) (v := -1) (by decide +kernel) (by decide) ?_
            obtain ⟨rfl, rfl⟩ := some_el2 h
            exact RN_ireturn (by decide +kernel) rfl
def b_X11_isAct_29 (σ : Sg) : Option Int32 :=
  some (0 : Int32)
set_option maxRecDepth 20000 in
theorem tb_X11_isAct_29 {G : Gl} {xr : Int32} (σ : Sg) (h : b_X11_isAct_29 σ = some xr) : RN G M_X11_isAct 29 [] [] σ (.inl (some (.int xr))) σ := by
  unfold b_X11_isAct_29 at h
  refine RN_iconst (pc := 29) (n := 0) (v := 0) (by decide +kernel) (by decide) ?_
  obtain rfl := some_el h
  exact RN_zreturn (by decide +kernel) rfl (Or.inl rfl)
def f_X11_isAct (v0 : Nat) (v1 : Int32) (v2 : Int32) (σ : Sg) : Option Int32 :=
  ck (okO σ v0 10) <|
  bp (f_X11_isProgram v0 v1 σ) fun x13 =>
  if x13 = 0 then (
    b_X11_isAct_29 σ)
  else (
    if v2 < 0 then (
      b_X11_isAct_29 σ)
    else (
      ck (¬ gR σ v0 3 = 0) <|
      nm (gR σ v0 3) fun r17 =>
      ck (okA σ r17 16 v1) <|
      ck (¬ gR σ r17 v1.toNatClampNeg = 0) <|
      nm (gR σ r17 v1.toNatClampNeg) fun r20 =>
      ck (okO σ r20 5) <|
      if (gI σ r20 4) ≤ v2 then (
        b_X11_isAct_29 σ)
      else (
        some (1 : Int32))))
set_option maxRecDepth 20000 in
theorem t_X11_isAct {G : Gl} {xr : Int32} {v0 : Nat} {v1 : Int32} {v2 : Int32} {σ : Sg} (h : f_X11_isAct v0 v1 v2 σ = some xr) : MT G M_X11_isAct [.ref v0, .int v1, .int v2] σ (some (.int xr)) σ := by
  refine MT_of rfl rfl (Nat.le_of_ble_eq_true rfl) ?_
  show RN G M_X11_isAct 0 [some (.ref v0), some (.int v1), some (.int v2)] [] σ (.inl (some (.int xr))) σ
  unfold f_X11_isAct at h
  refine RN_aload_n (pc := 0) (k := 0) (by decide +kernel) rfl rfl ?_
  refine RN_iload_n (pc := 1) (k := 1) (by decide +kernel) rfl rfl ?_
  obtain ⟨c11, h⟩ := ck_el h
  obtain ⟨x13, f12, h⟩ := bp_el h
  refine RN_callV (M := M_X11_isAct) (pc := 2) (idx := 108) (as := [.int v1]) (st := []) (t_X11_isProgram f12) (by decide +kernel) lk_RX11_108 rfl ⟨by decide, fun q hq => by cases hq; rfl⟩ c11 (Nat.le_of_ble_eq_true rfl) ⟨Nat.le_of_ble_eq_true rfl, Nat.le_of_ble_eq_true rfl⟩ rfl ?_
  show RN G M_X11_isAct 5 [some (.ref v0), some (.int v1), some (.int v2)] [.int x13] σ _ _
  refine RN_if_eq (pc := 5) (off := 24) (tgt := 29) (by decide +kernel) (by decide) (fun c14 => ?_) (fun c14 => ?_)
  · replace h := it_t c14 h
    exact RN_weak (l := []) trivial (tb_X11_isAct_29  σ h)
  · replace h := it_f c14 h
    refine RN_iload_n (pc := 8) (k := 2) (by decide +kernel) rfl rfl ?_
    refine RN_if_lt (pc := 9) (off := 20) (tgt := 29) (by decide +kernel) (by decide) (fun c15 => ?_) (fun c15 => ?_)
    · replace h := it_t c15 h
      exact RN_weak (l := []) trivial (tb_X11_isAct_29  σ h)
    · replace h := it_f c15 h
      refine RN_iload_n (pc := 12) (k := 2) (by decide +kernel) rfl rfl ?_
      refine RN_aload_n (pc := 13) (k := 0) (by decide +kernel) rfl rfl ?_
      obtain ⟨c16, h⟩ := ck_el h
      refine RN_getR (pc := 14) (idx := 32) (ci := 10) (k := 3) (by decide +kernel) lf_RX11_32 rfl c11 c16 ?_
      obtain ⟨r17, er17, h⟩ := nm_el h
      refine RN_nmR er17 ?_
      refine RN_iload_n (pc := 17) (k := 1) (by decide +kernel) rfl rfl ?_
      obtain ⟨c18, h⟩ := ck_el h
      obtain ⟨c19, h⟩ := ck_el h
      refine RN_aald16 (pc := 18) (by decide +kernel) c18 c19 ?_
      obtain ⟨r20, er20, h⟩ := nm_el h
      refine RN_nmR er20 ?_
      obtain ⟨c21, h⟩ := ck_el h
      refine RN_getI (pc := 19) (idx := 118) (ci := 5) (k := 4) (by decide +kernel) lf_RX11_118 (Or.inl rfl) c21 ?_
      refine RN_icmp_ge (pc := 22) (off := 7) (tgt := 29) (by decide +kernel) (by decide) (fun c22 => ?_) (fun c22 => ?_)
      · replace h := it_t c22 h
        exact RN_weak (l := []) trivial (tb_X11_isAct_29  σ h)
      · replace h := it_f c22 h
        refine RN_iconst (pc := 25) (n := 1) (v := 1) (by decide +kernel) (by decide) ?_
        refine RN_goto (pc := 26) (off := 4) (tgt := 30) (by decide +kernel) (by decide) ?_
        obtain rfl := some_el h
        exact RN_zreturn (by decide +kernel) rfl (Or.inr rfl)
