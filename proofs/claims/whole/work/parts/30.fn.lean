def b_X11_copy_48 (v0 : Nat) (σ : Sg) : Option (Int32 × Sg) :=
  ck (okO σ v0 10) <|
  bd (f_X11_refuse v0 (-11 : Int32) σ) fun x67 σ66 =>
  some (x67, σ66)
set_option maxRecDepth 20000 in
theorem tb_X11_copy_48 {G : Gl} {xr : Int32} {σr : Sg} (v0 : Nat) (σ : Sg) (h : b_X11_copy_48 v0 σ = some (xr, σr)) : RN G M_X11_copy 48 [some (.ref v0)] [] σ (.inl (some (.int xr))) σr := by
  unfold b_X11_copy_48 at h
  refine RN_aload_n (pc := 48) (k := 0) (by decide +kernel) rfl rfl ?_
  refine RN_bipush (pc := 49) (n := -11) (v := -11) (by decide +kernel) (by decide) ?_
  obtain ⟨c64, h⟩ := ck_el h
  obtain ⟨x67, σ66, f65, h⟩ := bd_el h
  refine RN_callV (M := M_X11_copy) (pc := 51) (idx := 256) (as := [.int (-11 : Int32)]) (st := []) (t_X11_refuse f65) (by decide +kernel) lk_RX11_256 rfl ⟨by decide, fun q hq => by cases hq; rfl⟩ c64 (Nat.le_of_ble_eq_true rfl) ⟨Nat.le_of_ble_eq_true rfl, Nat.le_of_ble_eq_true rfl⟩ rfl ?_
  show RN G M_X11_copy 54 [some (.ref v0)] [.int x67] σ66 _ _
  obtain ⟨rfl, rfl⟩ := some_el2 h
  exact RN_ireturn (by decide +kernel) rfl
def b_X11_copy_77 (v0 : Nat) (σ : Sg) : Option (Int32 × Sg) :=
  ck (okO σ v0 10) <|
  bd (f_X11_refuse v0 (-12 : Int32) σ) fun x74 σ73 =>
  some (x74, σ73)
set_option maxRecDepth 20000 in
theorem tb_X11_copy_77 {G : Gl} {xr : Int32} {σr : Sg} (v0 : Nat) (σ : Sg) (h : b_X11_copy_77 v0 σ = some (xr, σr)) : RN G M_X11_copy 77 [some (.ref v0)] [] σ (.inl (some (.int xr))) σr := by
  unfold b_X11_copy_77 at h
  refine RN_aload_n (pc := 77) (k := 0) (by decide +kernel) rfl rfl ?_
  refine RN_bipush (pc := 78) (n := -12) (v := -12) (by decide +kernel) (by decide) ?_
  obtain ⟨c71, h⟩ := ck_el h
  obtain ⟨x74, σ73, f72, h⟩ := bd_el h
  refine RN_callV (M := M_X11_copy) (pc := 80) (idx := 256) (as := [.int (-12 : Int32)]) (st := []) (t_X11_refuse f72) (by decide +kernel) lk_RX11_256 rfl ⟨by decide, fun q hq => by cases hq; rfl⟩ c71 (Nat.le_of_ble_eq_true rfl) ⟨Nat.le_of_ble_eq_true rfl, Nat.le_of_ble_eq_true rfl⟩ rfl ?_
  show RN G M_X11_copy 83 [some (.ref v0)] [.int x74] σ73 _ _
  obtain ⟨rfl, rfl⟩ := some_el2 h
  exact RN_ireturn (by decide +kernel) rfl
def b_X11_copy_107 (v0 : Nat) (σ : Sg) : Option (Int32 × Sg) :=
  ck (okO σ v0 10) <|
  bd (f_X11_refuse v0 (-13 : Int32) σ) fun x82 σ81 =>
  some (x82, σ81)
set_option maxRecDepth 20000 in
theorem tb_X11_copy_107 {G : Gl} {xr : Int32} {σr : Sg} (v0 : Nat) (σ : Sg) (h : b_X11_copy_107 v0 σ = some (xr, σr)) : RN G M_X11_copy 107 [some (.ref v0)] [] σ (.inl (some (.int xr))) σr := by
  unfold b_X11_copy_107 at h
  refine RN_aload_n (pc := 107) (k := 0) (by decide +kernel) rfl rfl ?_
  refine RN_bipush (pc := 108) (n := -13) (v := -13) (by decide +kernel) (by decide) ?_
  obtain ⟨c79, h⟩ := ck_el h
  obtain ⟨x82, σ81, f80, h⟩ := bd_el h
  refine RN_callV (M := M_X11_copy) (pc := 110) (idx := 256) (as := [.int (-13 : Int32)]) (st := []) (t_X11_refuse f80) (by decide +kernel) lk_RX11_256 rfl ⟨by decide, fun q hq => by cases hq; rfl⟩ c79 (Nat.le_of_ble_eq_true rfl) ⟨Nat.le_of_ble_eq_true rfl, Nat.le_of_ble_eq_true rfl⟩ rfl ?_
  show RN G M_X11_copy 113 [some (.ref v0)] [.int x82] σ81 _ _
  obtain ⟨rfl, rfl⟩ := some_el2 h
  exact RN_ireturn (by decide +kernel) rfl
def f_X11_copy (v0 : Nat) (v1 : Int32) (v2 : Int32) (v3 : Int32) (v4 : Int32) (v5 : Int32) (σ : Sg) : Option (Int32 × Sg) :=
  bp (f_X11_isTape v1) fun x47 =>
  if x47 = 0 then (
    some ((-1 : Int32), σ))
  else (
    bp (f_X11_isTape v3) fun x50 =>
    if x50 = 0 then (
      some ((-1 : Int32), σ))
    else (
      ck (okO σ v0 10) <|
      ck (¬ gR σ v0 4 = 0) <|
      nm (gR σ v0 4) fun r54 =>
      ck (okA σ r54 17 v1) <|
      ck (¬ gR σ r54 v1.toNatClampNeg = 0) <|
      nm (gR σ r54 v1.toNatClampNeg) fun r57 =>
      nm (gR σ v0 4) fun r58 =>
      ck (okA σ r58 17 v3) <|
      ck (¬ gR σ r58 v3.toNatClampNeg = 0) <|
      nm (gR σ r58 v3.toNatClampNeg) fun r61 =>
      ck (okO σ r57 8) <|
      if (gI σ r57 0) = 0 then (
        b_X11_copy_48 v0 σ)
      else (
        ck (okO σ r61 8) <|
        if (gI σ r61 0) = 0 then (
          b_X11_copy_48 v0 σ)
        else (
          if (gI σ r57 0) = (5 : Int32) then (
            b_X11_copy_77 v0 σ)
          else (
            if (gI σ r57 0) = (gI σ r61 0) then (
              bp (f_X9_hasPlaces r57 v2 v5 σ) fun x77 =>
              if x77 = 0 then (
                b_X11_copy_107 v0 σ)
              else (
                bp (f_X9_hasPlaces r61 v4 v5 σ) fun x84 =>
                if x84 = 0 then (
                  b_X11_copy_107 v0 σ)
                else (
                  ck (¬ gR σ r57 1 = 0) <|
                  nm (gR σ r57 1) fun r87 =>
                  ck (¬ gR σ r61 1 = 0) <|
                  nm (gR σ r61 1) fun r89 =>
                  ck (okC σ 14 r87 v2 r89 v4 v5) <|
                  nm (cpJ σ r87 v2.toNatClampNeg r89 v4.toNatClampNeg v5.toNatClampNeg) fun σ91 =>
                  some (v5, σ91))))
            else (
              b_X11_copy_77 v0 σ))))))
set_option maxRecDepth 20000 in
theorem t_X11_copy {G : Gl} {xr : Int32} {σr : Sg} {v0 : Nat} {v1 : Int32} {v2 : Int32} {v3 : Int32} {v4 : Int32} {v5 : Int32} {σ : Sg} (h : f_X11_copy v0 v1 v2 v3 v4 v5 σ = some (xr, σr)) : MT G M_X11_copy [.ref v0, .int v1, .int v2, .int v3, .int v4, .int v5] σ (some (.int xr)) σr := by
  refine MT_of rfl rfl (Nat.le_of_ble_eq_true rfl) ?_
  show RN G M_X11_copy 0 [some (.ref v0), some (.int v1), some (.int v2), some (.int v3), some (.int v4), some (.int v5)] [] σ (.inl (some (.int xr))) σr
  unfold f_X11_copy at h
  refine RN_iload_n (pc := 0) (k := 1) (by decide +kernel) rfl rfl ?_
  obtain ⟨x47, f46, h⟩ := bp_el h
  refine RN_callS (M := M_X11_copy) (pc := 1) (idx := 253) (as := [.int v1]) (st := []) (t_X11_isTape f46) (by decide +kernel) lk_RX11_253 rfl (Nat.le_of_ble_eq_true rfl) ⟨Nat.le_of_ble_eq_true rfl, Nat.le_of_ble_eq_true rfl⟩ rfl ?_
  show RN G M_X11_copy 4 [some (.ref v0), some (.int v1), some (.int v2), some (.int v3), some (.int v4), some (.int v5)] [.int x47] σ _ _
  refine RN_if_eq (pc := 4) (off := 10) (tgt := 14) (by decide +kernel) (by decide) (fun c48 => ?_) (fun c48 => ?_)
  · replace h := it_t c48 h
    refine RN_iconst (pc := 14) (n := -1) (v := -1) (by decide +kernel) (by decide) ?_
    obtain ⟨rfl, rfl⟩ := some_el2 h
    exact RN_ireturn (by decide +kernel) rfl
  · replace h := it_f c48 h
    refine RN_iload_n (pc := 7) (k := 3) (by decide +kernel) rfl rfl ?_
    obtain ⟨x50, f49, h⟩ := bp_el h
    refine RN_callS (M := M_X11_copy) (pc := 8) (idx := 253) (as := [.int v3]) (st := []) (t_X11_isTape f49) (by decide +kernel) lk_RX11_253 rfl (Nat.le_of_ble_eq_true rfl) ⟨Nat.le_of_ble_eq_true rfl, Nat.le_of_ble_eq_true rfl⟩ rfl ?_
    show RN G M_X11_copy 11 [some (.ref v0), some (.int v1), some (.int v2), some (.int v3), some (.int v4), some (.int v5)] [.int x50] σ _ _
    refine RN_if_ne (pc := 11) (off := 5) (tgt := 16) (by decide +kernel) (by decide) (fun c51 => ?_) (fun c51 => ?_)
    · replace h := it_f c51 h
      refine RN_aload_n (pc := 16) (k := 0) (by decide +kernel) rfl rfl ?_
      obtain ⟨c52, h⟩ := ck_el h
      obtain ⟨c53, h⟩ := ck_el h
      refine RN_getR (pc := 17) (idx := 38) (ci := 10) (k := 4) (by decide +kernel) lf_RX11_38 rfl c52 c53 ?_
      obtain ⟨r54, er54, h⟩ := nm_el h
      refine RN_nmR er54 ?_
      refine RN_iload_n (pc := 20) (k := 1) (by decide +kernel) rfl rfl ?_
      obtain ⟨c55, h⟩ := ck_el h
      obtain ⟨c56, h⟩ := ck_el h
      refine RN_aald17 (pc := 21) (by decide +kernel) c55 c56 ?_
      obtain ⟨r57, er57, h⟩ := nm_el h
      refine RN_nmR er57 ?_
      refine RN_astore (pc := 22) (i := 6) (ls2 := [some (.ref v0), some (.int v1), some (.int v2), some (.int v3), some (.int v4), some (.int v5), some (.ref r57)]) (by decide +kernel) (by decide) rfl ?_
      refine RN_aload_n (pc := 24) (k := 0) (by decide +kernel) rfl rfl ?_
      refine RN_getR (pc := 25) (idx := 38) (ci := 10) (k := 4) (by decide +kernel) lf_RX11_38 rfl c52 c53 ?_
      obtain ⟨r58, er58, h⟩ := nm_el h
      refine RN_nmR er58 ?_
      refine RN_iload_n (pc := 28) (k := 3) (by decide +kernel) rfl rfl ?_
      obtain ⟨c59, h⟩ := ck_el h
      obtain ⟨c60, h⟩ := ck_el h
      refine RN_aald17 (pc := 29) (by decide +kernel) c59 c60 ?_
      obtain ⟨r61, er61, h⟩ := nm_el h
      refine RN_nmR er61 ?_
      refine RN_astore (pc := 30) (i := 7) (ls2 := [some (.ref v0), some (.int v1), some (.int v2), some (.int v3), some (.int v4), some (.int v5), some (.ref r57), some (.ref r61)]) (by decide +kernel) (by decide) rfl ?_
      refine RN_aload (pc := 32) (i := 6) (by decide +kernel) rfl ?_
      obtain ⟨c62, h⟩ := ck_el h
      refine RN_getI (pc := 34) (idx := 262) (ci := 8) (k := 0) (by decide +kernel) lf_RX11_262 (Or.inl rfl) c62 ?_
      refine RN_if_eq (pc := 37) (off := 11) (tgt := 48) (by decide +kernel) (by decide) (fun c63 => ?_) (fun c63 => ?_)
      · replace h := it_t c63 h
        exact RN_weak (l := [some (.ref v0)]) (And.intro rfl trivial) (tb_X11_copy_48 v0 σ h)
      · replace h := it_f c63 h
        refine RN_aload (pc := 40) (i := 7) (by decide +kernel) rfl ?_
        obtain ⟨c68, h⟩ := ck_el h
        refine RN_getI (pc := 42) (idx := 262) (ci := 8) (k := 0) (by decide +kernel) lf_RX11_262 (Or.inl rfl) c68 ?_
        refine RN_if_ne (pc := 45) (off := 10) (tgt := 55) (by decide +kernel) (by decide) (fun c69 => ?_) (fun c69 => ?_)
        · replace h := it_f c69 h
          refine RN_aload (pc := 55) (i := 6) (by decide +kernel) rfl ?_
          refine RN_getI (pc := 57) (idx := 262) (ci := 8) (k := 0) (by decide +kernel) lf_RX11_262 (Or.inl rfl) c62 ?_
          refine RN_iconst (pc := 60) (n := 5) (v := 5) (by decide +kernel) (by decide) ?_
          refine RN_icmp_eq (pc := 61) (off := 16) (tgt := 77) (by decide +kernel) (by decide) (fun c70 => ?_) (fun c70 => ?_)
          · replace h := it_t c70 h
            exact RN_weak (l := [some (.ref v0)]) (And.intro rfl trivial) (tb_X11_copy_77 v0 σ h)
          · replace h := it_f c70 h
            refine RN_aload (pc := 64) (i := 6) (by decide +kernel) rfl ?_
            refine RN_getI (pc := 66) (idx := 262) (ci := 8) (k := 0) (by decide +kernel) lf_RX11_262 (Or.inl rfl) c62 ?_
            refine RN_aload (pc := 69) (i := 7) (by decide +kernel) rfl ?_
            refine RN_getI (pc := 71) (idx := 262) (ci := 8) (k := 0) (by decide +kernel) lf_RX11_262 (Or.inl rfl) c68 ?_
            refine RN_icmp_eq (pc := 74) (off := 10) (tgt := 84) (by decide +kernel) (by decide) (fun c75 => ?_) (fun c75 => ?_)
            · replace h := it_t c75 h
              refine RN_aload (pc := 84) (i := 6) (by decide +kernel) rfl ?_
              refine RN_iload_n (pc := 86) (k := 2) (by decide +kernel) rfl rfl ?_
              refine RN_iload (pc := 87) (i := 5) (by decide +kernel) rfl ?_
              obtain ⟨x77, f76, h⟩ := bp_el h
              refine RN_callV (M := M_X11_copy) (pc := 89) (idx := 281) (as := [.int v2, .int v5]) (st := []) (t_X9_hasPlaces f76) (by decide +kernel) lk_RX11_281 rfl ⟨by decide, fun q hq => by cases hq; rfl⟩ c62 (Nat.le_of_ble_eq_true rfl) ⟨Nat.le_of_ble_eq_true rfl, Nat.le_of_ble_eq_true rfl⟩ rfl ?_
              show RN G M_X11_copy 92 [some (.ref v0), some (.int v1), some (.int v2), some (.int v3), some (.int v4), some (.int v5), some (.ref r57), some (.ref r61)] [.int x77] σ _ _
              refine RN_if_eq (pc := 92) (off := 15) (tgt := 107) (by decide +kernel) (by decide) (fun c78 => ?_) (fun c78 => ?_)
              · replace h := it_t c78 h
                exact RN_weak (l := [some (.ref v0)]) (And.intro rfl trivial) (tb_X11_copy_107 v0 σ h)
              · replace h := it_f c78 h
                refine RN_aload (pc := 95) (i := 7) (by decide +kernel) rfl ?_
                refine RN_iload (pc := 97) (i := 4) (by decide +kernel) rfl ?_
                refine RN_iload (pc := 99) (i := 5) (by decide +kernel) rfl ?_
                obtain ⟨x84, f83, h⟩ := bp_el h
                refine RN_callV (M := M_X11_copy) (pc := 101) (idx := 281) (as := [.int v4, .int v5]) (st := []) (t_X9_hasPlaces f83) (by decide +kernel) lk_RX11_281 rfl ⟨by decide, fun q hq => by cases hq; rfl⟩ c68 (Nat.le_of_ble_eq_true rfl) ⟨Nat.le_of_ble_eq_true rfl, Nat.le_of_ble_eq_true rfl⟩ rfl ?_
                show RN G M_X11_copy 104 [some (.ref v0), some (.int v1), some (.int v2), some (.int v3), some (.int v4), some (.int v5), some (.ref r57), some (.ref r61)] [.int x84] σ _ _
                refine RN_if_ne (pc := 104) (off := 10) (tgt := 114) (by decide +kernel) (by decide) (fun c85 => ?_) (fun c85 => ?_)
                · replace h := it_f c85 h
                  refine RN_aload (pc := 114) (i := 6) (by decide +kernel) rfl ?_
                  obtain ⟨c86, h⟩ := ck_el h
                  refine RN_getR (pc := 116) (idx := 284) (ci := 8) (k := 1) (by decide +kernel) lf_RX11_284 rfl c62 c86 ?_
                  obtain ⟨r87, er87, h⟩ := nm_el h
                  refine RN_nmR er87 ?_
                  refine RN_iload_n (pc := 119) (k := 2) (by decide +kernel) rfl rfl ?_
                  refine RN_aload (pc := 120) (i := 7) (by decide +kernel) rfl ?_
                  obtain ⟨c88, h⟩ := ck_el h
                  refine RN_getR (pc := 122) (idx := 284) (ci := 8) (k := 1) (by decide +kernel) lf_RX11_284 rfl c68 c88 ?_
                  obtain ⟨r89, er89, h⟩ := nm_el h
                  refine RN_nmR er89 ?_
                  refine RN_iload (pc := 125) (i := 4) (by decide +kernel) rfl ?_
                  refine RN_iload (pc := 127) (i := 5) (by decide +kernel) rfl ?_
                  obtain ⟨c90, h⟩ := ck_el h
                  refine RN_copyJ (pc := 129) (idx := 302) (by decide +kernel) na_RX11_302 na_cp_n na_cp_s na_sys (by decide) (by decide) (Nat.le_of_ble_eq_true rfl) c90 ?_
                  obtain ⟨σ91, eσ91, h⟩ := nm_el h
                  refine RN_nmS eσ91 ?_
                  refine RN_iload (pc := 132) (i := 5) (by decide +kernel) rfl ?_
                  obtain ⟨rfl, rfl⟩ := some_el2 h
                  exact RN_ireturn (by decide +kernel) rfl
                · replace h := it_t c85 h
                  exact RN_weak (l := [some (.ref v0)]) (And.intro rfl trivial) (tb_X11_copy_107 v0 σ h)
            · replace h := it_f c75 h
              exact RN_weak (l := [some (.ref v0)]) (And.intro rfl trivial) (tb_X11_copy_77 v0 σ h)
        · replace h := it_t c69 h
          exact RN_weak (l := [some (.ref v0)]) (And.intro rfl trivial) (tb_X11_copy_48 v0 σ h)
    · replace h := it_t c51 h
      refine RN_iconst (pc := 14) (n := -1) (v := -1) (by decide +kernel) (by decide) ?_
      obtain ⟨rfl, rfl⟩ := some_el2 h
      exact RN_ireturn (by decide +kernel) rfl
def b_X11_count_55 (v0 : Nat) (v1 : Int32) (σ : Sg) : Option Int32 :=
  if v1 = 0 then (
    ck (okO σ v0 10) <|
    ck (¬ gR σ v0 1 = 0) <|
    nm (gR σ v0 1) fun r31 =>
    ck (okO σ r31 0) <|
    some (gI σ r31 1))
  else (
  if v1 = 1 then (
    ck (okO σ v0 10) <|
    some (gI σ v0 8))
  else (
  if v1 = 2 then (
    ck (okO σ v0 10) <|
    ck (¬ gR σ v0 2 = 0) <|
    nm (gR σ v0 2) fun r38 =>
    ck (okO σ r38 3) <|
    some (gI σ r38 1))
  else (
  if v1 = 3 then (
    ck (okO σ v0 10) <|
    some (gI σ v0 9))
  else (
    some (-1 : Int32)))))
set_option maxRecDepth 20000 in
theorem tb_X11_count_55 {G : Gl} {xr : Int32} (v0 : Nat) (v1 : Int32) (σ : Sg) (h : b_X11_count_55 v0 v1 σ = some xr) : RN G M_X11_count 55 [some (.ref v0), some (.int v1)] [] σ (.inl (some (.int xr))) σ := by
  unfold b_X11_count_55 at h
  refine RN_iload_n (pc := 55) (k := 1) (by decide +kernel) rfl rfl ?_
  by_cases c28 : v1 = 0
  · replace h := it_t c28 h
    refine RN_tsw (pc := 56) (dflt := 58) (lo := 0) (hi := 3) (offs := #[32, 40, 45, 53]) (len := 32) (v := 0) (off := 32) (tgt := 88) c28 (by decide +kernel) (by decide) (by decide) (by decide +kernel) (by decide) ?_
    refine RN_aload_n (pc := 88) (k := 0) (by decide +kernel) rfl rfl ?_
    obtain ⟨c29, h⟩ := ck_el h
    obtain ⟨c30, h⟩ := ck_el h
    refine RN_getR (pc := 89) (idx := 19) (ci := 10) (k := 1) (by decide +kernel) lf_RX11_19 rfl c29 c30 ?_
    obtain ⟨r31, er31, h⟩ := nm_el h
    refine RN_nmR er31 ?_
    obtain ⟨c32, h⟩ := ck_el h
    refine RN_getI (pc := 92) (idx := 72) (ci := 0) (k := 1) (by decide +kernel) lf_RX11_72 (Or.inl rfl) c32 ?_
    obtain rfl := some_el h
    exact RN_ireturn (by decide +kernel) rfl
  · replace h := it_f c28 h
    by_cases c33 : v1 = 1
    · replace h := it_t c33 h
      refine RN_tsw (pc := 56) (dflt := 58) (lo := 0) (hi := 3) (offs := #[32, 40, 45, 53]) (len := 32) (v := 1) (off := 40) (tgt := 96) c33 (by decide +kernel) (by decide) (by decide) (by decide +kernel) (by decide) ?_
      refine RN_aload_n (pc := 96) (k := 0) (by decide +kernel) rfl rfl ?_
      obtain ⟨c34, h⟩ := ck_el h
      refine RN_getI (pc := 97) (idx := 65) (ci := 10) (k := 8) (by decide +kernel) lf_RX11_65 (Or.inl rfl) c34 ?_
      obtain rfl := some_el h
      exact RN_ireturn (by decide +kernel) rfl
    · replace h := it_f c33 h
      by_cases c35 : v1 = 2
      · replace h := it_t c35 h
        refine RN_tsw (pc := 56) (dflt := 58) (lo := 0) (hi := 3) (offs := #[32, 40, 45, 53]) (len := 32) (v := 2) (off := 45) (tgt := 101) c35 (by decide +kernel) (by decide) (by decide) (by decide +kernel) (by decide) ?_
        refine RN_aload_n (pc := 101) (k := 0) (by decide +kernel) rfl rfl ?_
        obtain ⟨c36, h⟩ := ck_el h
        obtain ⟨c37, h⟩ := ck_el h
        refine RN_getR (pc := 102) (idx := 26) (ci := 10) (k := 2) (by decide +kernel) lf_RX11_26 rfl c36 c37 ?_
        obtain ⟨r38, er38, h⟩ := nm_el h
        refine RN_nmR er38 ?_
        obtain ⟨c39, h⟩ := ck_el h
        refine RN_getI (pc := 105) (idx := 278) (ci := 3) (k := 1) (by decide +kernel) lf_RX11_278 (Or.inl rfl) c39 ?_
        obtain rfl := some_el h
        exact RN_ireturn (by decide +kernel) rfl
      · replace h := it_f c35 h
        by_cases c40 : v1 = 3
        · replace h := it_t c40 h
          refine RN_tsw (pc := 56) (dflt := 58) (lo := 0) (hi := 3) (offs := #[32, 40, 45, 53]) (len := 32) (v := 3) (off := 53) (tgt := 109) c40 (by decide +kernel) (by decide) (by decide) (by decide +kernel) (by decide) ?_
          refine RN_aload_n (pc := 109) (k := 0) (by decide +kernel) rfl rfl ?_
          obtain ⟨c41, h⟩ := ck_el h
          refine RN_getI (pc := 110) (idx := 69) (ci := 10) (k := 9) (by decide +kernel) lf_RX11_69 (Or.inl rfl) c41 ?_
          obtain rfl := some_el h
          exact RN_ireturn (by decide +kernel) rfl
        · replace h := it_f c40 h
          refine RN_tableOut (pc := 56) (dflt := 58) (lo := 0) (hi := 3) (offs := #[32, 40, 45, 53]) (len := 32) (tgt := 114) (by decide +kernel) (tsw_s (hi := 2) (hi' := 3) (tsw_s (hi := 1) (hi' := 2) (tsw_s (hi := 0) (hi' := 1) (tsw_s (hi := -1) (hi' := 0) (tsw_0 (0)) (by decide) (by decide) c28) (by decide) (by decide) c33) (by decide) (by decide) c35) (by decide) (by decide) c40) (by decide) ?_
          refine RN_iconst (pc := 114) (n := -1) (v := -1) (by decide +kernel) (by decide) ?_
          obtain rfl := some_el h
          exact RN_ireturn (by decide +kernel) rfl
def b_X11_count_30 (v0 : Nat) (v1 : Int32) (σ : Sg) : Option Int32 :=
  if v1 < (20 : Int32) then (
    b_X11_count_55 v0 v1 σ)
  else (
    if (24 : Int32) ≤ v1 then (
      b_X11_count_55 v0 v1 σ)
    else (
      ck (okO σ v0 10) <|
      ck (¬ gR σ v0 0 = 0) <|
      nm (gR σ v0 0) fun r45 =>
      ck (okO σ r45 7) <|
      ck (¬ gR σ r45 3 = 0) <|
      nm (gR σ r45 3) fun r48 =>
      ck (okA σ r48 13 (v1 - (20 : Int32))) <|
      some (gI σ r48 (v1 - (20 : Int32)).toNatClampNeg)))
set_option maxRecDepth 20000 in
theorem tb_X11_count_30 {G : Gl} {xr : Int32} (v0 : Nat) (v1 : Int32) (σ : Sg) (h : b_X11_count_30 v0 v1 σ = some xr) : RN G M_X11_count 30 [some (.ref v0), some (.int v1)] [] σ (.inl (some (.int xr))) σ := by
  unfold b_X11_count_30 at h
  refine RN_iload_n (pc := 30) (k := 1) (by decide +kernel) rfl rfl ?_
  refine RN_bipush (pc := 31) (n := 20) (v := 20) (by decide +kernel) (by decide) ?_
  refine RN_icmp_lt (pc := 33) (off := 22) (tgt := 55) (by decide +kernel) (by decide) (fun c27 => ?_) (fun c27 => ?_)
  · replace h := it_t c27 h
    exact RN_weak (l := [some (.ref v0), some (.int v1)]) (And.intro rfl (And.intro rfl trivial)) (tb_X11_count_55 v0 v1 σ h)
  · replace h := it_f c27 h
    refine RN_iload_n (pc := 36) (k := 1) (by decide +kernel) rfl rfl ?_
    refine RN_bipush (pc := 37) (n := 24) (v := 24) (by decide +kernel) (by decide) ?_
    refine RN_icmp_ge (pc := 39) (off := 16) (tgt := 55) (by decide +kernel) (by decide) (fun c42 => ?_) (fun c42 => ?_)
    · replace h := it_t c42 h
      exact RN_weak (l := [some (.ref v0), some (.int v1)]) (And.intro rfl (And.intro rfl trivial)) (tb_X11_count_55 v0 v1 σ h)
    · replace h := it_f c42 h
      refine RN_aload_n (pc := 42) (k := 0) (by decide +kernel) rfl rfl ?_
      obtain ⟨c43, h⟩ := ck_el h
      obtain ⟨c44, h⟩ := ck_el h
      refine RN_getR (pc := 43) (idx := 10) (ci := 10) (k := 0) (by decide +kernel) lf_RX11_10 rfl c43 c44 ?_
      obtain ⟨r45, er45, h⟩ := nm_el h
      refine RN_nmR er45 ?_
      obtain ⟨c46, h⟩ := ck_el h
      obtain ⟨c47, h⟩ := ck_el h
      refine RN_getR (pc := 46) (idx := 100) (ci := 7) (k := 3) (by decide +kernel) lf_RX11_100 rfl c46 c47 ?_
      obtain ⟨r48, er48, h⟩ := nm_el h
      refine RN_nmR er48 ?_
      refine RN_iload_n (pc := 49) (k := 1) (by decide +kernel) rfl rfl ?_
      refine RN_bipush (pc := 50) (n := 20) (v := 20) (by decide +kernel) (by decide) ?_
      refine RN_isub (pc := 52) (by decide +kernel) ?_
      obtain ⟨c49, h⟩ := ck_el h
      refine RN_iald (pc := 53) (by decide +kernel) c49 ?_
      obtain rfl := some_el h
      exact RN_ireturn (by decide +kernel) rfl
def f_X11_count (v0 : Nat) (v1 : Int32) (σ : Sg) : Option Int32 :=
  if v1 < (10 : Int32) then (
    b_X11_count_30 v0 v1 σ)
  else (
    ck (okO σ v0 10) <|
    if ((10 : Int32) + (gI σ v0 8)) ≤ v1 then (
      b_X11_count_30 v0 v1 σ)
    else (
      ck (¬ gR σ v0 3 = 0) <|
      nm (gR σ v0 3) fun r53 =>
      ck (okA σ r53 16 (v1 - (10 : Int32))) <|
      ck (¬ gR σ r53 (v1 - (10 : Int32)).toNatClampNeg = 0) <|
      nm (gR σ r53 (v1 - (10 : Int32)).toNatClampNeg) fun r56 =>
      ck (okO σ r56 5) <|
      some (gI σ r56 4)))
set_option maxRecDepth 20000 in
theorem t_X11_count {G : Gl} {xr : Int32} {v0 : Nat} {v1 : Int32} {σ : Sg} (h : f_X11_count v0 v1 σ = some xr) : MT G M_X11_count [.ref v0, .int v1] σ (some (.int xr)) σ := by
  refine MT_of rfl rfl (Nat.le_of_ble_eq_true rfl) ?_
  show RN G M_X11_count 0 [some (.ref v0), some (.int v1)] [] σ (.inl (some (.int xr))) σ
  unfold f_X11_count at h
  refine RN_iload_n (pc := 0) (k := 1) (by decide +kernel) rfl rfl ?_
  refine RN_bipush (pc := 1) (n := 10) (v := 10) (by decide +kernel) (by decide) ?_
  refine RN_icmp_lt (pc := 3) (off := 27) (tgt := 30) (by decide +kernel) (by decide) (fun c26 => ?_) (fun c26 => ?_)
  · replace h := it_t c26 h
    exact RN_weak (l := [some (.ref v0), some (.int v1)]) (And.intro rfl (And.intro rfl trivial)) (tb_X11_count_30 v0 v1 σ h)
  · replace h := it_f c26 h
    refine RN_iload_n (pc := 6) (k := 1) (by decide +kernel) rfl rfl ?_
    refine RN_bipush (pc := 7) (n := 10) (v := 10) (by decide +kernel) (by decide) ?_
    refine RN_aload_n (pc := 9) (k := 0) (by decide +kernel) rfl rfl ?_
    obtain ⟨c50, h⟩ := ck_el h
    refine RN_getI (pc := 10) (idx := 65) (ci := 10) (k := 8) (by decide +kernel) lf_RX11_65 (Or.inl rfl) c50 ?_
    refine RN_iadd (pc := 13) (by decide +kernel) ?_
    refine RN_icmp_ge (pc := 14) (off := 16) (tgt := 30) (by decide +kernel) (by decide) (fun c51 => ?_) (fun c51 => ?_)
    · replace h := it_t c51 h
      exact RN_weak (l := [some (.ref v0), some (.int v1)]) (And.intro rfl (And.intro rfl trivial)) (tb_X11_count_30 v0 v1 σ h)
    · replace h := it_f c51 h
      refine RN_aload_n (pc := 17) (k := 0) (by decide +kernel) rfl rfl ?_
      obtain ⟨c52, h⟩ := ck_el h
      refine RN_getR (pc := 18) (idx := 32) (ci := 10) (k := 3) (by decide +kernel) lf_RX11_32 rfl c50 c52 ?_
      obtain ⟨r53, er53, h⟩ := nm_el h
      refine RN_nmR er53 ?_
      refine RN_iload_n (pc := 21) (k := 1) (by decide +kernel) rfl rfl ?_
      refine RN_bipush (pc := 22) (n := 10) (v := 10) (by decide +kernel) (by decide) ?_
      refine RN_isub (pc := 24) (by decide +kernel) ?_
      obtain ⟨c54, h⟩ := ck_el h
      obtain ⟨c55, h⟩ := ck_el h
      refine RN_aald16 (pc := 25) (by decide +kernel) c54 c55 ?_
      obtain ⟨r56, er56, h⟩ := nm_el h
      refine RN_nmR er56 ?_
      obtain ⟨c57, h⟩ := ck_el h
      refine RN_getI (pc := 26) (idx := 118) (ci := 5) (k := 4) (by decide +kernel) lf_RX11_118 (Or.inl rfl) c57 ?_
      obtain rfl := some_el h
      exact RN_ireturn (by decide +kernel) rfl
def b_X12_clears_74 (n : Nat) (v0 : Nat) (σ : Sg) : Option Sg :=
  ck (okO σ v0 11) <|
  nm (pI σ v0 27 (0 : Int32)) fun σ28 =>
  ck (okO σ28 v0 11) <|
  nm (pI σ28 v0 28 (0 : Int32)) fun σ30 =>
  some σ30
set_option maxRecDepth 20000 in
theorem tb_X12_clears_74 {G : Gl} {σr : Sg} (n : Nat) (v0 : Nat) (σ : Sg) (h : b_X12_clears_74 n v0 σ = some σr) : RN G M_X12_clears 74 [some (.ref v0)] [] σ (.inl none) σr := by
  unfold b_X12_clears_74 at h
  refine RN_aload_n (pc := 74) (k := 0) (by decide +kernel) rfl rfl ?_
  refine RN_iconst (pc := 75) (n := 0) (v := 0) (by decide +kernel) (by decide) ?_
  obtain ⟨c27, h⟩ := ck_el h
  refine RN_putZ (pc := 76) (idx := 152) (ci := 11) (k := 27) (by decide +kernel) lf_RX12_152 rfl (fun q hq => by cases hq; exact Or.inl rfl) (Or.inl rfl) c27 ?_
  obtain ⟨σ28, eσ28, h⟩ := nm_el h
  refine RN_nmS eσ28 ?_
  refine RN_aload_n (pc := 79) (k := 0) (by decide +kernel) rfl rfl ?_
  refine RN_iconst (pc := 80) (n := 0) (v := 0) (by decide +kernel) (by decide) ?_
  obtain ⟨c29, h⟩ := ck_el h
  refine RN_putZ (pc := 81) (idx := 156) (ci := 11) (k := 28) (by decide +kernel) lf_RX12_156 rfl (fun q hq => by cases hq; exact Or.inl rfl) (Or.inl rfl) c29 ?_
  obtain ⟨σ30, eσ30, h⟩ := nm_el h
  refine RN_nmS eσ30 ?_
  obtain rfl := some_el h
  exact RN_return (by decide +kernel) rfl
def b_X12_clears_2 : Nat → Nat → Int32 → Sg → Option Sg
  | 0, _, _, _ => none
  | n + 1, v0, v1, σ =>
  if (8 : Int32) ≤ v1 then (
    b_X12_clears_74 n v0 σ)
  else (
    ck (okO σ v0 11) <|
    ck (¬ gR σ v0 19 = 0) <|
    nm (gR σ v0 19) fun r33 =>
    ck (okW σ r33 14 (((8 : Int32) * (gI σ v0 16)) + v1)) <|
    nm (pJ σ r33 (((8 : Int32) * (gI σ v0 16)) + v1).toNatClampNeg (0 : Int64)) fun σ35 =>
    ck (okO σ35 v0 11) <|
    ck (¬ gR σ35 v0 20 = 0) <|
    nm (gR σ35 v0 20) fun r38 =>
    ck (okW σ35 r38 14 (((8 : Int32) * (gI σ35 v0 16)) + v1)) <|
    nm (pJ σ35 r38 (((8 : Int32) * (gI σ35 v0 16)) + v1).toNatClampNeg (1 : Int64)) fun σ40 =>
    ck (okO σ40 v0 11) <|
    ck (¬ gR σ40 v0 26 = 0) <|
    nm (gR σ40 v0 26) fun r43 =>
    ck (okW σ40 r43 15 (((8 : Int32) * (gI σ40 v0 16)) + v1)) <|
    nm (pI σ40 r43 (((8 : Int32) * (gI σ40 v0 16)) + v1).toNatClampNeg (0 : Int32)) fun σ45 =>
    ck (okO σ45 v0 11) <|
    ck (¬ gR σ45 v0 21 = 0) <|
    nm (gR σ45 v0 21) fun r48 =>
    ck (okW σ45 r48 14 (((8 : Int32) * (gI σ45 v0 16)) + v1)) <|
    nm (pJ σ45 r48 (((8 : Int32) * (gI σ45 v0 16)) + v1).toNatClampNeg (0 : Int64)) fun σ50 =>
    nm (v1 + (1 : Int32)) fun x51 =>
    b_X12_clears_2 n v0 x51 σ50)
set_option maxRecDepth 20000 in
theorem tb_X12_clears_2 {G : Gl} {σr : Sg} (v0 : Nat) : ∀ (n : Nat) (v1 : Int32) (σ : Sg), b_X12_clears_2 n v0 v1 σ = some σr → RN G M_X12_clears 2 [some (.ref v0), some (.int v1)] [] σ (.inl none) σr := by
  intro n
  induction n with
  | zero =>
    intro v1 σ h
    exact none_el h
  | succ n ih =>
    intro v1 σ h
    rw [b_X12_clears_2] at h
    refine RN_iload_n (pc := 2) (k := 1) (by decide +kernel) rfl rfl ?_
    refine RN_bipush (pc := 3) (n := 8) (v := 8) (by decide +kernel) (by decide) ?_
    refine RN_icmp_ge (pc := 5) (off := 69) (tgt := 74) (by decide +kernel) (by decide) (fun c26 => ?_) (fun c26 => ?_)
    · replace h := it_t c26 h
      exact RN_weak (l := [some (.ref v0)]) (And.intro rfl trivial) (tb_X12_clears_74 n v0 σ h)
    · replace h := it_f c26 h
      refine RN_aload_n (pc := 8) (k := 0) (by decide +kernel) rfl rfl ?_
      obtain ⟨c31, h⟩ := ck_el h
      obtain ⟨c32, h⟩ := ck_el h
      refine RN_getR (pc := 9) (idx := 47) (ci := 11) (k := 19) (by decide +kernel) lf_RX12_47 rfl c31 c32 ?_
      obtain ⟨r33, er33, h⟩ := nm_el h
      refine RN_nmR er33 ?_
      refine RN_bipush (pc := 12) (n := 8) (v := 8) (by decide +kernel) (by decide) ?_
      refine RN_aload_n (pc := 14) (k := 0) (by decide +kernel) rfl rfl ?_
      refine RN_getI (pc := 15) (idx := 146) (ci := 11) (k := 16) (by decide +kernel) lf_RX12_146 (Or.inl rfl) c31 ?_
      refine RN_imul (pc := 18) (by decide +kernel) ?_
      refine RN_iload_n (pc := 19) (k := 1) (by decide +kernel) rfl rfl ?_
      refine RN_iadd (pc := 20) (by decide +kernel) ?_
      refine RN_lconst (pc := 21) (n := 0) (v := 0) (by decide +kernel) (by decide) ?_
      obtain ⟨c34, h⟩ := ck_el h
      refine RN_last (pc := 22) (by decide +kernel) c34 ?_
      obtain ⟨σ35, eσ35, h⟩ := nm_el h
      refine RN_nmS eσ35 ?_
      refine RN_aload_n (pc := 23) (k := 0) (by decide +kernel) rfl rfl ?_
      obtain ⟨c36, h⟩ := ck_el h
      obtain ⟨c37, h⟩ := ck_el h
      refine RN_getR (pc := 24) (idx := 51) (ci := 11) (k := 20) (by decide +kernel) lf_RX12_51 rfl c36 c37 ?_
      obtain ⟨r38, er38, h⟩ := nm_el h
      refine RN_nmR er38 ?_
      refine RN_bipush (pc := 27) (n := 8) (v := 8) (by decide +kernel) (by decide) ?_
      refine RN_aload_n (pc := 29) (k := 0) (by decide +kernel) rfl rfl ?_
      refine RN_getI (pc := 30) (idx := 146) (ci := 11) (k := 16) (by decide +kernel) lf_RX12_146 (Or.inl rfl) c36 ?_
      refine RN_imul (pc := 33) (by decide +kernel) ?_
      refine RN_iload_n (pc := 34) (k := 1) (by decide +kernel) rfl rfl ?_
      refine RN_iadd (pc := 35) (by decide +kernel) ?_
      refine RN_lconst (pc := 36) (n := 1) (v := 1) (by decide +kernel) (by decide) ?_
      obtain ⟨c39, h⟩ := ck_el h
      refine RN_last (pc := 37) (by decide +kernel) c39 ?_
      obtain ⟨σ40, eσ40, h⟩ := nm_el h
      refine RN_nmS eσ40 ?_
      refine RN_aload_n (pc := 38) (k := 0) (by decide +kernel) rfl rfl ?_
      obtain ⟨c41, h⟩ := ck_el h
      obtain ⟨c42, h⟩ := ck_el h
      refine RN_getR (pc := 39) (idx := 69) (ci := 11) (k := 26) (by decide +kernel) lf_RX12_69 rfl c41 c42 ?_
      obtain ⟨r43, er43, h⟩ := nm_el h
      refine RN_nmR er43 ?_
      refine RN_bipush (pc := 42) (n := 8) (v := 8) (by decide +kernel) (by decide) ?_
      refine RN_aload_n (pc := 44) (k := 0) (by decide +kernel) rfl rfl ?_
      refine RN_getI (pc := 45) (idx := 146) (ci := 11) (k := 16) (by decide +kernel) lf_RX12_146 (Or.inl rfl) c41 ?_
      refine RN_imul (pc := 48) (by decide +kernel) ?_
      refine RN_iload_n (pc := 49) (k := 1) (by decide +kernel) rfl rfl ?_
      refine RN_iadd (pc := 50) (by decide +kernel) ?_
      refine RN_iconst (pc := 51) (n := 0) (v := 0) (by decide +kernel) (by decide) ?_
      obtain ⟨c44, h⟩ := ck_el h
      refine RN_zast (pc := 52) (by decide +kernel) (Or.inl rfl) c44 ?_
      obtain ⟨σ45, eσ45, h⟩ := nm_el h
      refine RN_nmS eσ45 ?_
      refine RN_aload_n (pc := 53) (k := 0) (by decide +kernel) rfl rfl ?_
      obtain ⟨c46, h⟩ := ck_el h
      obtain ⟨c47, h⟩ := ck_el h
      refine RN_getR (pc := 54) (idx := 54) (ci := 11) (k := 21) (by decide +kernel) lf_RX12_54 rfl c46 c47 ?_
      obtain ⟨r48, er48, h⟩ := nm_el h
      refine RN_nmR er48 ?_
      refine RN_bipush (pc := 57) (n := 8) (v := 8) (by decide +kernel) (by decide) ?_
      refine RN_aload_n (pc := 59) (k := 0) (by decide +kernel) rfl rfl ?_
      refine RN_getI (pc := 60) (idx := 146) (ci := 11) (k := 16) (by decide +kernel) lf_RX12_146 (Or.inl rfl) c46 ?_
      refine RN_imul (pc := 63) (by decide +kernel) ?_
      refine RN_iload_n (pc := 64) (k := 1) (by decide +kernel) rfl rfl ?_
      refine RN_iadd (pc := 65) (by decide +kernel) ?_
      refine RN_lconst (pc := 66) (n := 0) (v := 0) (by decide +kernel) (by decide) ?_
      obtain ⟨c49, h⟩ := ck_el h
      refine RN_last (pc := 67) (by decide +kernel) c49 ?_
      obtain ⟨σ50, eσ50, h⟩ := nm_el h
      refine RN_nmS eσ50 ?_
      obtain ⟨x51, ex51, h⟩ := nm_el h
      refine RN_iinc (pc := 68) (i := 1) (n := 1) (v := x51) (ls2 := [some (.ref v0), some (.int x51)]) (by decide +kernel) rfl (by rw [ex51]; rfl) (by decide) rfl ?_
      refine RN_goto (pc := 71) (off := -69) (tgt := 2) (by decide +kernel) (by decide) ?_
      exact RN_weak (l := [some (.ref v0), some (.int x51)]) (And.intro rfl (And.intro rfl trivial)) (ih x51 σ50 h)
def f_X12_clears (n : Nat) (v0 : Nat) (σ : Sg) : Option Sg :=
  b_X12_clears_2 n v0 (0 : Int32) σ
set_option maxRecDepth 20000 in
theorem t_X12_clears {G : Gl} {σr : Sg} {n : Nat} {v0 : Nat} {σ : Sg} (h : f_X12_clears n v0 σ = some σr) : MT G M_X12_clears [.ref v0] σ none σr := by
  refine MT_of rfl rfl (Nat.le_of_ble_eq_true rfl) ?_
  show RN G M_X12_clears 0 [some (.ref v0)] [] σ (.inl none) σr
  unfold f_X12_clears at h
  refine RN_iconst (pc := 0) (n := 0) (v := 0) (by decide +kernel) (by decide) ?_
  refine RN_istore_n (pc := 1) (k := 1) (ls2 := [some (.ref v0), some (.int (0 : Int32))]) (by decide +kernel) rfl (by decide) rfl ?_
  exact RN_weak (l := [some (.ref v0), some (.int (0 : Int32))]) (And.intro rfl (And.intro rfl trivial)) (tb_X12_clears_2 v0 n (0 : Int32) σ h)
def b_X12_resets_128 : Nat → Nat → Int32 → Sg → Option Sg
  | 0, _, _, _ => none
  | n + 1, v0, v1, σ =>
  if (12 : Int32) ≤ v1 then (
    some σ)
  else (
    ck (okO σ v0 11) <|
    ck (¬ gR σ v0 22 = 0) <|
    nm (gR σ v0 22) fun r76 =>
    ck (okW σ r76 14 v1) <|
    nm (pJ σ r76 v1.toNatClampNeg (0 : Int64)) fun σ78 =>
    nm (v1 + (1 : Int32)) fun x79 =>
    b_X12_resets_128 n v0 x79 σ78)
set_option maxRecDepth 20000 in
theorem tb_X12_resets_128 {G : Gl} {σr : Sg} (v0 : Nat) : ∀ (n : Nat) (v1 : Int32) (σ : Sg), b_X12_resets_128 n v0 v1 σ = some σr → RN G M_X12_resets 128 [some (.ref v0), some (.int v1)] [] σ (.inl none) σr := by
  intro n
  induction n with
  | zero =>
    intro v1 σ h
    exact none_el h
  | succ n ih =>
    intro v1 σ h
    rw [b_X12_resets_128] at h
    refine RN_iload_n (pc := 128) (k := 1) (by decide +kernel) rfl rfl ?_
    refine RN_bipush (pc := 129) (n := 12) (v := 12) (by decide +kernel) (by decide) ?_
    refine RN_icmp_ge (pc := 131) (off := 16) (tgt := 147) (by decide +kernel) (by decide) (fun c73 => ?_) (fun c73 => ?_)
    · replace h := it_t c73 h
      obtain rfl := some_el h
      exact RN_return (by decide +kernel) rfl
    · replace h := it_f c73 h
      refine RN_aload_n (pc := 134) (k := 0) (by decide +kernel) rfl rfl ?_
      obtain ⟨c74, h⟩ := ck_el h
      obtain ⟨c75, h⟩ := ck_el h
      refine RN_getR (pc := 135) (idx := 57) (ci := 11) (k := 22) (by decide +kernel) lf_RX12_57 rfl c74 c75 ?_
      obtain ⟨r76, er76, h⟩ := nm_el h
      refine RN_nmR er76 ?_
      refine RN_iload_n (pc := 138) (k := 1) (by decide +kernel) rfl rfl ?_
      refine RN_lconst (pc := 139) (n := 0) (v := 0) (by decide +kernel) (by decide) ?_
      obtain ⟨c77, h⟩ := ck_el h
      refine RN_last (pc := 140) (by decide +kernel) c77 ?_
      obtain ⟨σ78, eσ78, h⟩ := nm_el h
      refine RN_nmS eσ78 ?_
      obtain ⟨x79, ex79, h⟩ := nm_el h
      refine RN_iinc (pc := 141) (i := 1) (n := 1) (v := x79) (ls2 := [some (.ref v0), some (.int x79)]) (by decide +kernel) rfl (by rw [ex79]; rfl) (by decide) rfl ?_
      refine RN_goto (pc := 144) (off := -16) (tgt := 128) (by decide +kernel) (by decide) ?_
      exact RN_weak (l := [some (.ref v0), some (.int x79)]) (And.intro rfl (And.intro rfl trivial)) (ih x79 σ78 h)
def b_X12_resets_91 (n : Nat) (v0 : Nat) (σ : Sg) : Option Sg :=
  ck (okO σ v0 11) <|
  nm (pI σ v0 3 (0 : Int32)) fun σ59 =>
  ck (okO σ59 v0 11) <|
  nm (pI σ59 v0 7 (0 : Int32)) fun σ61 =>
  ck (okO σ61 v0 11) <|
  nm (pI σ61 v0 13 (0 : Int32)) fun σ63 =>
  ck (okO σ63 v0 11) <|
  nm (pI σ63 v0 14 (-2 : Int32)) fun σ65 =>
  ck (okO σ65 v0 11) <|
  nm (pI σ65 v0 15 (0 : Int32)) fun σ67 =>
  ck (okO σ67 v0 11) <|
  nm (pI σ67 v0 16 (0 : Int32)) fun σ69 =>
  ck (okO σ69 v0 11) <|
  bp (f_X12_clears n v0 σ69) fun σ72 =>
  b_X12_resets_128 n v0 (0 : Int32) σ72
set_option maxRecDepth 20000 in
theorem tb_X12_resets_91 {G : Gl} {σr : Sg} (n : Nat) (v0 : Nat) (σ : Sg) (h : b_X12_resets_91 n v0 σ = some σr) : RN G M_X12_resets 91 [some (.ref v0)] [] σ (.inl none) σr := by
  unfold b_X12_resets_91 at h
  refine RN_aload_n (pc := 91) (k := 0) (by decide +kernel) rfl rfl ?_
  refine RN_iconst (pc := 92) (n := 0) (v := 0) (by decide +kernel) (by decide) ?_
  obtain ⟨c58, h⟩ := ck_el h
  refine RN_putI (pc := 93) (idx := 137) (ci := 11) (k := 3) (by decide +kernel) lf_RX12_137 rfl (fun q hq => by cases hq; exact Or.inl rfl) c58 ?_
  obtain ⟨σ59, eσ59, h⟩ := nm_el h
  refine RN_nmS eσ59 ?_
  refine RN_aload_n (pc := 96) (k := 0) (by decide +kernel) rfl rfl ?_
  refine RN_iconst (pc := 97) (n := 0) (v := 0) (by decide +kernel) (by decide) ?_
  obtain ⟨c60, h⟩ := ck_el h
  refine RN_putI (pc := 98) (idx := 140) (ci := 11) (k := 7) (by decide +kernel) lf_RX12_140 rfl (fun q hq => by cases hq; exact Or.inl rfl) c60 ?_
  obtain ⟨σ61, eσ61, h⟩ := nm_el h
  refine RN_nmS eσ61 ?_
  refine RN_aload_n (pc := 101) (k := 0) (by decide +kernel) rfl rfl ?_
  refine RN_iconst (pc := 102) (n := 0) (v := 0) (by decide +kernel) (by decide) ?_
  obtain ⟨c62, h⟩ := ck_el h
  refine RN_putI (pc := 103) (idx := 143) (ci := 11) (k := 13) (by decide +kernel) lf_RX12_143 rfl (fun q hq => by cases hq; exact Or.inl rfl) c62 ?_
  obtain ⟨σ63, eσ63, h⟩ := nm_el h
  refine RN_nmS eσ63 ?_
  refine RN_aload_n (pc := 106) (k := 0) (by decide +kernel) rfl rfl ?_
  refine RN_bipush (pc := 107) (n := -2) (v := -2) (by decide +kernel) (by decide) ?_
  obtain ⟨c64, h⟩ := ck_el h
  refine RN_putI (pc := 109) (idx := 40) (ci := 11) (k := 14) (by decide +kernel) lf_RX12_40 rfl (fun q hq => by cases hq; exact Or.inl rfl) c64 ?_
  obtain ⟨σ65, eσ65, h⟩ := nm_el h
  refine RN_nmS eσ65 ?_
  refine RN_aload_n (pc := 112) (k := 0) (by decide +kernel) rfl rfl ?_
  refine RN_iconst (pc := 113) (n := 0) (v := 0) (by decide +kernel) (by decide) ?_
  obtain ⟨c66, h⟩ := ck_el h
  refine RN_putI (pc := 114) (idx := 134) (ci := 11) (k := 15) (by decide +kernel) lf_RX12_134 rfl (fun q hq => by cases hq; exact Or.inl rfl) c66 ?_
  obtain ⟨σ67, eσ67, h⟩ := nm_el h
  refine RN_nmS eσ67 ?_
  refine RN_aload_n (pc := 117) (k := 0) (by decide +kernel) rfl rfl ?_
  refine RN_iconst (pc := 118) (n := 0) (v := 0) (by decide +kernel) (by decide) ?_
  obtain ⟨c68, h⟩ := ck_el h
  refine RN_putI (pc := 119) (idx := 146) (ci := 11) (k := 16) (by decide +kernel) lf_RX12_146 rfl (fun q hq => by cases hq; exact Or.inl rfl) c68 ?_
  obtain ⟨σ69, eσ69, h⟩ := nm_el h
  refine RN_nmS eσ69 ?_
  refine RN_aload_n (pc := 122) (k := 0) (by decide +kernel) rfl rfl ?_
  obtain ⟨c70, h⟩ := ck_el h
  obtain ⟨σ72, f71, h⟩ := bp_el h
  refine RN_callV (M := M_X12_resets) (pc := 123) (idx := 149) (as := []) (st := []) (t_X12_clears f71) (by decide +kernel) lk_RX12_149 rfl ⟨by decide, fun q hq => by cases hq; rfl⟩ c70 (Nat.le_of_ble_eq_true rfl) ⟨Nat.le_of_ble_eq_true rfl, Nat.le_of_ble_eq_true rfl⟩ rfl ?_
  show RN G M_X12_resets 126 [some (.ref v0)] [] σ72 _ _
  refine RN_iconst (pc := 126) (n := 0) (v := 0) (by decide +kernel) (by decide) ?_
  refine RN_istore_n (pc := 127) (k := 1) (ls2 := [some (.ref v0), some (.int (0 : Int32))]) (by decide +kernel) rfl (by decide) rfl ?_
  exact RN_weak (l := [some (.ref v0), some (.int (0 : Int32))]) (And.intro rfl (And.intro rfl trivial)) (tb_X12_resets_128 v0 n (0 : Int32) σ72 h)
def b_X12_resets_72 : Nat → Nat → Int32 → Sg → Option Sg
  | 0, _, _, _ => none
  | n + 1, v0, v1, σ =>
  if (8 : Int32) ≤ v1 then (
    b_X12_resets_91 n v0 σ)
  else (
    ck (okO σ v0 11) <|
    ck (¬ gR σ v0 23 = 0) <|
    nm (gR σ v0 23) fun r82 =>
    ck (okW σ r82 14 v1) <|
    nm (pJ σ r82 v1.toNatClampNeg (0 : Int64)) fun σ84 =>
    nm (v1 + (1 : Int32)) fun x85 =>
    b_X12_resets_72 n v0 x85 σ84)
set_option maxRecDepth 20000 in
theorem tb_X12_resets_72 {G : Gl} {σr : Sg} (v0 : Nat) : ∀ (n : Nat) (v1 : Int32) (σ : Sg), b_X12_resets_72 n v0 v1 σ = some σr → RN G M_X12_resets 72 [some (.ref v0), some (.int v1)] [] σ (.inl none) σr := by
  intro n
  induction n with
  | zero =>
    intro v1 σ h
    exact none_el h
  | succ n ih =>
    intro v1 σ h
    rw [b_X12_resets_72] at h
    refine RN_iload_n (pc := 72) (k := 1) (by decide +kernel) rfl rfl ?_
    refine RN_bipush (pc := 73) (n := 8) (v := 8) (by decide +kernel) (by decide) ?_
    refine RN_icmp_ge (pc := 75) (off := 16) (tgt := 91) (by decide +kernel) (by decide) (fun c57 => ?_) (fun c57 => ?_)
    · replace h := it_t c57 h
      exact RN_weak (l := [some (.ref v0)]) (And.intro rfl trivial) (tb_X12_resets_91 n v0 σ h)
    · replace h := it_f c57 h
      refine RN_aload_n (pc := 78) (k := 0) (by decide +kernel) rfl rfl ?_
      obtain ⟨c80, h⟩ := ck_el h
      obtain ⟨c81, h⟩ := ck_el h
      refine RN_getR (pc := 79) (idx := 60) (ci := 11) (k := 23) (by decide +kernel) lf_RX12_60 rfl c80 c81 ?_
      obtain ⟨r82, er82, h⟩ := nm_el h
      refine RN_nmR er82 ?_
      refine RN_iload_n (pc := 82) (k := 1) (by decide +kernel) rfl rfl ?_
      refine RN_lconst (pc := 83) (n := 0) (v := 0) (by decide +kernel) (by decide) ?_
      obtain ⟨c83, h⟩ := ck_el h
      refine RN_last (pc := 84) (by decide +kernel) c83 ?_
      obtain ⟨σ84, eσ84, h⟩ := nm_el h
      refine RN_nmS eσ84 ?_
      obtain ⟨x85, ex85, h⟩ := nm_el h
      refine RN_iinc (pc := 85) (i := 1) (n := 1) (v := x85) (ls2 := [some (.ref v0), some (.int x85)]) (by decide +kernel) rfl (by rw [ex85]; rfl) (by decide) rfl ?_
      refine RN_goto (pc := 88) (off := -16) (tgt := 72) (by decide +kernel) (by decide) ?_
      exact RN_weak (l := [some (.ref v0), some (.int x85)]) (And.intro rfl (And.intro rfl trivial)) (ih x85 σ84 h)
def b_X12_resets_70 (n : Nat) (v0 : Nat) (σ : Sg) : Option Sg :=
  b_X12_resets_72 n v0 (0 : Int32) σ
set_option maxRecDepth 20000 in
theorem tb_X12_resets_70 {G : Gl} {σr : Sg} (n : Nat) (v0 : Nat) (σ : Sg) (h : b_X12_resets_70 n v0 σ = some σr) : RN G M_X12_resets 70 [some (.ref v0)] [] σ (.inl none) σr := by
  unfold b_X12_resets_70 at h
  refine RN_iconst (pc := 70) (n := 0) (v := 0) (by decide +kernel) (by decide) ?_
  refine RN_istore_n (pc := 71) (k := 1) (ls2 := [some (.ref v0), some (.int (0 : Int32))]) (by decide +kernel) rfl (by decide) rfl ?_
  exact RN_weak (l := [some (.ref v0), some (.int (0 : Int32))]) (And.intro rfl (And.intro rfl trivial)) (tb_X12_resets_72 v0 n (0 : Int32) σ h)
def b_X12_resets_30 : Nat → Nat → Int32 → Sg → Option Sg
  | 0, _, _, _ => none
  | n + 1, v0, v1, σ =>
  if (4 : Int32) ≤ v1 then (
    b_X12_resets_70 n v0 σ)
  else (
    ck (okO σ v0 11) <|
    ck (¬ gR σ v0 5 = 0) <|
    nm (gR σ v0 5) fun r88 =>
    ck (okW σ r88 13 v1) <|
    nm (pI σ r88 v1.toNatClampNeg (2 : Int32)) fun σ90 =>
    ck (okO σ90 v0 11) <|
    ck (¬ gR σ90 v0 6 = 0) <|
    nm (gR σ90 v0 6) fun r93 =>
    ck (okW σ90 r93 13 ((8 : Int32) * v1)) <|
    nm (pI σ90 r93 ((8 : Int32) * v1).toNatClampNeg (1 : Int32)) fun σ95 =>
    ck (okO σ95 v0 11) <|
    ck (¬ gR σ95 v0 6 = 0) <|
    nm (gR σ95 v0 6) fun r98 =>
    ck (okW σ95 r98 13 (((8 : Int32) * v1) + (1 : Int32))) <|
    nm (pI σ95 r98 (((8 : Int32) * v1) + (1 : Int32)).toNatClampNeg (1 : Int32)) fun σ100 =>
    nm (v1 + (1 : Int32)) fun x101 =>
    b_X12_resets_30 n v0 x101 σ100)
set_option maxRecDepth 20000 in
theorem tb_X12_resets_30 {G : Gl} {σr : Sg} (v0 : Nat) : ∀ (n : Nat) (v1 : Int32) (σ : Sg), b_X12_resets_30 n v0 v1 σ = some σr → RN G M_X12_resets 30 [some (.ref v0), some (.int v1)] [] σ (.inl none) σr := by
  intro n
  induction n with
  | zero =>
    intro v1 σ h
    exact none_el h
  | succ n ih =>
    intro v1 σ h
    rw [b_X12_resets_30] at h
    refine RN_iload_n (pc := 30) (k := 1) (by decide +kernel) rfl rfl ?_
    refine RN_iconst (pc := 31) (n := 4) (v := 4) (by decide +kernel) (by decide) ?_
    refine RN_icmp_ge (pc := 32) (off := 38) (tgt := 70) (by decide +kernel) (by decide) (fun c56 => ?_) (fun c56 => ?_)
    · replace h := it_t c56 h
      exact RN_weak (l := [some (.ref v0)]) (And.intro rfl trivial) (tb_X12_resets_70 n v0 σ h)
    · replace h := it_f c56 h
      refine RN_aload_n (pc := 35) (k := 0) (by decide +kernel) rfl rfl ?_
      obtain ⟨c86, h⟩ := ck_el h
      obtain ⟨c87, h⟩ := ck_el h
      refine RN_getR (pc := 36) (idx := 19) (ci := 11) (k := 5) (by decide +kernel) lf_RX12_19 rfl c86 c87 ?_
      obtain ⟨r88, er88, h⟩ := nm_el h
      refine RN_nmR er88 ?_
      refine RN_iload_n (pc := 39) (k := 1) (by decide +kernel) rfl rfl ?_
      refine RN_iconst (pc := 40) (n := 2) (v := 2) (by decide +kernel) (by decide) ?_
      obtain ⟨c89, h⟩ := ck_el h
      refine RN_iast (pc := 41) (by decide +kernel) c89 ?_
      obtain ⟨σ90, eσ90, h⟩ := nm_el h
      refine RN_nmS eσ90 ?_
      refine RN_aload_n (pc := 42) (k := 0) (by decide +kernel) rfl rfl ?_
      obtain ⟨c91, h⟩ := ck_el h
      obtain ⟨c92, h⟩ := ck_el h
      refine RN_getR (pc := 43) (idx := 22) (ci := 11) (k := 6) (by decide +kernel) lf_RX12_22 rfl c91 c92 ?_
      obtain ⟨r93, er93, h⟩ := nm_el h
      refine RN_nmR er93 ?_
      refine RN_bipush (pc := 46) (n := 8) (v := 8) (by decide +kernel) (by decide) ?_
      refine RN_iload_n (pc := 48) (k := 1) (by decide +kernel) rfl rfl ?_
      refine RN_imul (pc := 49) (by decide +kernel) ?_
      refine RN_iconst (pc := 50) (n := 1) (v := 1) (by decide +kernel) (by decide) ?_
      obtain ⟨c94, h⟩ := ck_el h
      refine RN_iast (pc := 51) (by decide +kernel) c94 ?_
      obtain ⟨σ95, eσ95, h⟩ := nm_el h
      refine RN_nmS eσ95 ?_
      refine RN_aload_n (pc := 52) (k := 0) (by decide +kernel) rfl rfl ?_
      obtain ⟨c96, h⟩ := ck_el h
      obtain ⟨c97, h⟩ := ck_el h
      refine RN_getR (pc := 53) (idx := 22) (ci := 11) (k := 6) (by decide +kernel) lf_RX12_22 rfl c96 c97 ?_
      obtain ⟨r98, er98, h⟩ := nm_el h
      refine RN_nmR er98 ?_
      refine RN_bipush (pc := 56) (n := 8) (v := 8) (by decide +kernel) (by decide) ?_
      refine RN_iload_n (pc := 58) (k := 1) (by decide +kernel) rfl rfl ?_
      refine RN_imul (pc := 59) (by decide +kernel) ?_
      refine RN_iconst (pc := 60) (n := 1) (v := 1) (by decide +kernel) (by decide) ?_
      refine RN_iadd (pc := 61) (by decide +kernel) ?_
      refine RN_iconst (pc := 62) (n := 1) (v := 1) (by decide +kernel) (by decide) ?_
      obtain ⟨c99, h⟩ := ck_el h
      refine RN_iast (pc := 63) (by decide +kernel) c99 ?_
      obtain ⟨σ100, eσ100, h⟩ := nm_el h
      refine RN_nmS eσ100 ?_
      obtain ⟨x101, ex101, h⟩ := nm_el h
      refine RN_iinc (pc := 64) (i := 1) (n := 1) (v := x101) (ls2 := [some (.ref v0), some (.int x101)]) (by decide +kernel) rfl (by rw [ex101]; rfl) (by decide) rfl ?_
      refine RN_goto (pc := 67) (off := -37) (tgt := 30) (by decide +kernel) (by decide) ?_
      exact RN_weak (l := [some (.ref v0), some (.int x101)]) (And.intro rfl (And.intro rfl trivial)) (ih x101 σ100 h)
def b_X12_resets_28 (n : Nat) (v0 : Nat) (σ : Sg) : Option Sg :=
  b_X12_resets_30 n v0 (0 : Int32) σ
set_option maxRecDepth 20000 in
theorem tb_X12_resets_28 {G : Gl} {σr : Sg} (n : Nat) (v0 : Nat) (σ : Sg) (h : b_X12_resets_28 n v0 σ = some σr) : RN G M_X12_resets 28 [some (.ref v0)] [] σ (.inl none) σr := by
  unfold b_X12_resets_28 at h
  refine RN_iconst (pc := 28) (n := 0) (v := 0) (by decide +kernel) (by decide) ?_
  refine RN_istore_n (pc := 29) (k := 1) (ls2 := [some (.ref v0), some (.int (0 : Int32))]) (by decide +kernel) rfl (by decide) rfl ?_
  exact RN_weak (l := [some (.ref v0), some (.int (0 : Int32))]) (And.intro rfl (And.intro rfl trivial)) (tb_X12_resets_30 v0 n (0 : Int32) σ h)
def b_X12_resets_2 : Nat → Nat → Int32 → Sg → Option Sg
  | 0, _, _, _ => none
  | n + 1, v0, v1, σ =>
  if (8 : Int32) ≤ v1 then (
    b_X12_resets_28 n v0 σ)
  else (
    ck (okO σ v0 11) <|
    ck (¬ gR σ v0 1 = 0) <|
    nm (gR σ v0 1) fun r104 =>
    ck (okW σ r104 13 v1) <|
    nm (pI σ r104 v1.toNatClampNeg (0 : Int32)) fun σ106 =>
    ck (okO σ106 v0 11) <|
    ck (¬ gR σ106 v0 2 = 0) <|
    nm (gR σ106 v0 2) fun r109 =>
    ck (okW σ106 r109 13 v1) <|
    nm (pI σ106 r109 v1.toNatClampNeg (1 : Int32)) fun σ111 =>
    nm (v1 + (1 : Int32)) fun x112 =>
    b_X12_resets_2 n v0 x112 σ111)
set_option maxRecDepth 20000 in
theorem tb_X12_resets_2 {G : Gl} {σr : Sg} (v0 : Nat) : ∀ (n : Nat) (v1 : Int32) (σ : Sg), b_X12_resets_2 n v0 v1 σ = some σr → RN G M_X12_resets 2 [some (.ref v0), some (.int v1)] [] σ (.inl none) σr := by
  intro n
  induction n with
  | zero =>
    intro v1 σ h
    exact none_el h
  | succ n ih =>
    intro v1 σ h
    rw [b_X12_resets_2] at h
    refine RN_iload_n (pc := 2) (k := 1) (by decide +kernel) rfl rfl ?_
    refine RN_bipush (pc := 3) (n := 8) (v := 8) (by decide +kernel) (by decide) ?_
    refine RN_icmp_ge (pc := 5) (off := 23) (tgt := 28) (by decide +kernel) (by decide) (fun c55 => ?_) (fun c55 => ?_)
    · replace h := it_t c55 h
      exact RN_weak (l := [some (.ref v0)]) (And.intro rfl trivial) (tb_X12_resets_28 n v0 σ h)
    · replace h := it_f c55 h
      refine RN_aload_n (pc := 8) (k := 0) (by decide +kernel) rfl rfl ?_
      obtain ⟨c102, h⟩ := ck_el h
      obtain ⟨c103, h⟩ := ck_el h
      refine RN_getR (pc := 9) (idx := 7) (ci := 11) (k := 1) (by decide +kernel) lf_RX12_7 rfl c102 c103 ?_
      obtain ⟨r104, er104, h⟩ := nm_el h
      refine RN_nmR er104 ?_
      refine RN_iload_n (pc := 12) (k := 1) (by decide +kernel) rfl rfl ?_
      refine RN_iconst (pc := 13) (n := 0) (v := 0) (by decide +kernel) (by decide) ?_
      obtain ⟨c105, h⟩ := ck_el h
      refine RN_iast (pc := 14) (by decide +kernel) c105 ?_
      obtain ⟨σ106, eσ106, h⟩ := nm_el h
      refine RN_nmS eσ106 ?_
      refine RN_aload_n (pc := 15) (k := 0) (by decide +kernel) rfl rfl ?_
      obtain ⟨c107, h⟩ := ck_el h
      obtain ⟨c108, h⟩ := ck_el h
      refine RN_getR (pc := 16) (idx := 13) (ci := 11) (k := 2) (by decide +kernel) lf_RX12_13 rfl c107 c108 ?_
      obtain ⟨r109, er109, h⟩ := nm_el h
      refine RN_nmR er109 ?_
      refine RN_iload_n (pc := 19) (k := 1) (by decide +kernel) rfl rfl ?_
      refine RN_iconst (pc := 20) (n := 1) (v := 1) (by decide +kernel) (by decide) ?_
      obtain ⟨c110, h⟩ := ck_el h
      refine RN_iast (pc := 21) (by decide +kernel) c110 ?_
      obtain ⟨σ111, eσ111, h⟩ := nm_el h
      refine RN_nmS eσ111 ?_
      obtain ⟨x112, ex112, h⟩ := nm_el h
      refine RN_iinc (pc := 22) (i := 1) (n := 1) (v := x112) (ls2 := [some (.ref v0), some (.int x112)]) (by decide +kernel) rfl (by rw [ex112]; rfl) (by decide) rfl ?_
      refine RN_goto (pc := 25) (off := -23) (tgt := 2) (by decide +kernel) (by decide) ?_
      exact RN_weak (l := [some (.ref v0), some (.int x112)]) (And.intro rfl (And.intro rfl trivial)) (ih x112 σ111 h)
def f_X12_resets (n : Nat) (v0 : Nat) (σ : Sg) : Option Sg :=
  b_X12_resets_2 n v0 (0 : Int32) σ
set_option maxRecDepth 20000 in
theorem t_X12_resets {G : Gl} {σr : Sg} {n : Nat} {v0 : Nat} {σ : Sg} (h : f_X12_resets n v0 σ = some σr) : MT G M_X12_resets [.ref v0] σ none σr := by
  refine MT_of rfl rfl (Nat.le_of_ble_eq_true rfl) ?_
  show RN G M_X12_resets 0 [some (.ref v0)] [] σ (.inl none) σr
  unfold f_X12_resets at h
  refine RN_iconst (pc := 0) (n := 0) (v := 0) (by decide +kernel) (by decide) ?_
  refine RN_istore_n (pc := 1) (k := 1) (ls2 := [some (.ref v0), some (.int (0 : Int32))]) (by decide +kernel) rfl (by decide) rfl ?_
  exact RN_weak (l := [some (.ref v0), some (.int (0 : Int32))]) (And.intro rfl (And.intro rfl trivial)) (tb_X12_resets_2 v0 n (0 : Int32) σ h)
