def f_X12_carries (n : Nat) (v0 : Nat) (v1 : Int32) (v2 : Int32) (σ : Sg) : Option Sg :=
  ck (okO σ v0 11) <|
  nm (((8 : Int32) * (gI σ v0 16)) + v1) fun x75 =>
  nm (((4 : Int32) * (gI σ v0 16)) + v2) fun x76 =>
  ck (¬ gR σ v0 24 = 0) <|
  nm (gR σ v0 24) fun r78 =>
  ck (okA σ r78 14 x76) <|
  ck (¬ gR σ v0 20 = 0) <|
  nm (gR σ v0 20) fun r81 =>
  ck (okA σ r81 14 x75) <|
  ck (¬ gR σ v0 19 = 0) <|
  nm (gR σ v0 19) fun r84 =>
  ck (okA σ r84 14 x75) <|
  ck (¬ gR σ v0 25 = 0) <|
  nm (gR σ v0 25) fun r87 =>
  ck (okA σ r87 14 x76) <|
  nm (((gJ σ r78 x76.toNatClampNeg) * (gJ σ r81 x75.toNatClampNeg)) + ((gJ σ r84 x75.toNatClampNeg) * (gJ σ r87 x76.toNatClampNeg))) fun x89 =>
  nm (gR σ v0 25) fun r90 =>
  ck (okA σ r90 14 x76) <|
  nm (gR σ v0 20) fun r92 =>
  ck (okA σ r92 14 x75) <|
  nm ((gJ σ r90 x76.toNatClampNeg) * (gJ σ r92 x75.toNatClampNeg)) fun x94 =>
  nm (gR σ v0 19) fun r95 =>
  ck (okA σ r95 14 x75) <|
  nm (gJ σ r95 x75.toNatClampNeg) fun x97 =>
  nm (gR σ v0 20) fun r98 =>
  ck (okA σ r98 14 x75) <|
  nm (gJ σ r98 x75.toNatClampNeg) fun x100 =>
  bd (f_X12_becomes n v0 v1 x89 x94 σ) fun x103 σ102 =>
  if x103 = 0 then (
    some σ102)
  else (
    ck (okO σ102 v0 11) <|
    ck (¬ gR σ102 v0 19 = 0) <|
    nm (gR σ102 v0 19) fun r107 =>
    ck (okA σ102 r107 14 x75) <|
    ck (¬ gR σ102 v0 20 = 0) <|
    nm (gR σ102 v0 20) fun r110 =>
    ck (okA σ102 r110 14 x75) <|
    bp (f_X12_floor (gJ σ102 r107 x75.toNatClampNeg) (gJ σ102 r110 x75.toNatClampNeg)) fun x113 =>
    nm (gR σ102 v0 19) fun r114 =>
    ck (okA σ102 r114 14 x75) <|
    nm (gR σ102 v0 20) fun r116 =>
    ck (okA σ102 r116 14 x75) <|
    nm ((gJ σ102 r114 x75.toNatClampNeg) - (x113 * (gJ σ102 r116 x75.toNatClampNeg))) fun x118 =>
    nm (gR σ102 v0 20) fun r119 =>
    ck (okA σ102 r119 14 x75) <|
    nm (gJ σ102 r119 x75.toNatClampNeg) fun x121 =>
    bd (f_X12_becomesWhole n v0 v1 x113 σ102) fun x124 σ123 =>
    if x124 = 0 then (
      ck (okO σ123 v0 11) <|
      ck (¬ gR σ123 v0 19 = 0) <|
      nm (gR σ123 v0 19) fun r141 =>
      ck (okW σ123 r141 14 x75) <|
      nm (pJ σ123 r141 x75.toNatClampNeg x97) fun σ143 =>
      ck (okO σ143 v0 11) <|
      ck (¬ gR σ143 v0 20 = 0) <|
      nm (gR σ143 v0 20) fun r146 =>
      ck (okW σ143 r146 14 x75) <|
      nm (pJ σ143 r146 x75.toNatClampNeg x100) fun σ148 =>
      some σ148)
    else (
      bp (f_X12_common n x118 x121) fun x127 =>
      ck (okO σ123 v0 11) <|
      ck (¬ gR σ123 v0 24 = 0) <|
      nm (gR σ123 v0 24) fun r130 =>
      ck (¬ x127 = 0) <|
      ck (okW σ123 r130 14 x76) <|
      nm (pJ σ123 r130 x76.toNatClampNeg (x118 / x127)) fun σ133 =>
      ck (okO σ133 v0 11) <|
      ck (¬ gR σ133 v0 25 = 0) <|
      nm (gR σ133 v0 25) fun r136 =>
      ck (okW σ133 r136 14 x76) <|
      nm (pJ σ133 r136 x76.toNatClampNeg (x121 / x127)) fun σ138 =>
      some σ138))
set_option maxRecDepth 20000 in
theorem t_X12_carries {G : Gl} {σr : Sg} {n : Nat} {v0 : Nat} {v1 : Int32} {v2 : Int32} {σ : Sg} (h : f_X12_carries n v0 v1 v2 σ = some σr) : MT G M_X12_carries [.ref v0, .int v1, .int v2] σ none σr := by
  refine MT_of rfl rfl (Nat.le_of_ble_eq_true rfl) ?_
  show RN G M_X12_carries 0 [some (.ref v0), some (.int v1), some (.int v2)] [] σ (.inl none) σr
  unfold f_X12_carries at h
  refine RN_bipush (pc := 0) (n := 8) (v := 8) (by decide +kernel) (by decide) ?_
  refine RN_aload_n (pc := 2) (k := 0) (by decide +kernel) rfl rfl ?_
  obtain ⟨c74, h⟩ := ck_el h
  refine RN_getI (pc := 3) (idx := 146) (ci := 11) (k := 16) (by decide +kernel) lf_RX12_146 (Or.inl rfl) c74 ?_
  refine RN_imul (pc := 6) (by decide +kernel) ?_
  refine RN_iload_n (pc := 7) (k := 1) (by decide +kernel) rfl rfl ?_
  refine RN_iadd (pc := 8) (by decide +kernel) ?_
  obtain ⟨x75, ex75, h⟩ := nm_el h
  refine RN_nmI ex75 ?_
  refine RN_istore_n (pc := 9) (k := 3) (ls2 := [some (.ref v0), some (.int v1), some (.int v2), some (.int x75)]) (by decide +kernel) rfl (by decide) rfl ?_
  refine RN_iconst (pc := 10) (n := 4) (v := 4) (by decide +kernel) (by decide) ?_
  refine RN_aload_n (pc := 11) (k := 0) (by decide +kernel) rfl rfl ?_
  refine RN_getI (pc := 12) (idx := 146) (ci := 11) (k := 16) (by decide +kernel) lf_RX12_146 (Or.inl rfl) c74 ?_
  refine RN_imul (pc := 15) (by decide +kernel) ?_
  refine RN_iload_n (pc := 16) (k := 2) (by decide +kernel) rfl rfl ?_
  refine RN_iadd (pc := 17) (by decide +kernel) ?_
  obtain ⟨x76, ex76, h⟩ := nm_el h
  refine RN_nmI ex76 ?_
  refine RN_istore (pc := 18) (i := 4) (ls2 := [some (.ref v0), some (.int v1), some (.int v2), some (.int x75), some (.int x76)]) (by decide +kernel) (by decide) rfl ?_
  refine RN_aload_n (pc := 20) (k := 0) (by decide +kernel) rfl rfl ?_
  obtain ⟨c77, h⟩ := ck_el h
  refine RN_getR (pc := 21) (idx := 63) (ci := 11) (k := 24) (by decide +kernel) lf_RX12_63 rfl c74 c77 ?_
  obtain ⟨r78, er78, h⟩ := nm_el h
  refine RN_nmR er78 ?_
  refine RN_iload (pc := 24) (i := 4) (by decide +kernel) rfl ?_
  obtain ⟨c79, h⟩ := ck_el h
  refine RN_lald (pc := 26) (by decide +kernel) c79 ?_
  refine RN_aload_n (pc := 27) (k := 0) (by decide +kernel) rfl rfl ?_
  obtain ⟨c80, h⟩ := ck_el h
  refine RN_getR (pc := 28) (idx := 51) (ci := 11) (k := 20) (by decide +kernel) lf_RX12_51 rfl c74 c80 ?_
  obtain ⟨r81, er81, h⟩ := nm_el h
  refine RN_nmR er81 ?_
  refine RN_iload_n (pc := 31) (k := 3) (by decide +kernel) rfl rfl ?_
  obtain ⟨c82, h⟩ := ck_el h
  refine RN_lald (pc := 32) (by decide +kernel) c82 ?_
  refine RN_lmul (pc := 33) (by decide +kernel) ?_
  refine RN_aload_n (pc := 34) (k := 0) (by decide +kernel) rfl rfl ?_
  obtain ⟨c83, h⟩ := ck_el h
  refine RN_getR (pc := 35) (idx := 47) (ci := 11) (k := 19) (by decide +kernel) lf_RX12_47 rfl c74 c83 ?_
  obtain ⟨r84, er84, h⟩ := nm_el h
  refine RN_nmR er84 ?_
  refine RN_iload_n (pc := 38) (k := 3) (by decide +kernel) rfl rfl ?_
  obtain ⟨c85, h⟩ := ck_el h
  refine RN_lald (pc := 39) (by decide +kernel) c85 ?_
  refine RN_aload_n (pc := 40) (k := 0) (by decide +kernel) rfl rfl ?_
  obtain ⟨c86, h⟩ := ck_el h
  refine RN_getR (pc := 41) (idx := 66) (ci := 11) (k := 25) (by decide +kernel) lf_RX12_66 rfl c74 c86 ?_
  obtain ⟨r87, er87, h⟩ := nm_el h
  refine RN_nmR er87 ?_
  refine RN_iload (pc := 44) (i := 4) (by decide +kernel) rfl ?_
  obtain ⟨c88, h⟩ := ck_el h
  refine RN_lald (pc := 46) (by decide +kernel) c88 ?_
  refine RN_lmul (pc := 47) (by decide +kernel) ?_
  refine RN_ladd (pc := 48) (by decide +kernel) ?_
  obtain ⟨x89, ex89, h⟩ := nm_el h
  refine RN_nmJ ex89 ?_
  refine RN_lstore (pc := 49) (i := 5) (ls2 := [some (.ref v0), some (.int v1), some (.int v2), some (.int x75), some (.int x76), some (.long x89), none]) (by decide +kernel) (by decide) rfl ?_
  refine RN_aload_n (pc := 51) (k := 0) (by decide +kernel) rfl rfl ?_
  refine RN_getR (pc := 52) (idx := 66) (ci := 11) (k := 25) (by decide +kernel) lf_RX12_66 rfl c74 c86 ?_
  obtain ⟨r90, er90, h⟩ := nm_el h
  refine RN_nmR er90 ?_
  refine RN_iload (pc := 55) (i := 4) (by decide +kernel) rfl ?_
  obtain ⟨c91, h⟩ := ck_el h
  refine RN_lald (pc := 57) (by decide +kernel) c91 ?_
  refine RN_aload_n (pc := 58) (k := 0) (by decide +kernel) rfl rfl ?_
  refine RN_getR (pc := 59) (idx := 51) (ci := 11) (k := 20) (by decide +kernel) lf_RX12_51 rfl c74 c80 ?_
  obtain ⟨r92, er92, h⟩ := nm_el h
  refine RN_nmR er92 ?_
  refine RN_iload_n (pc := 62) (k := 3) (by decide +kernel) rfl rfl ?_
  obtain ⟨c93, h⟩ := ck_el h
  refine RN_lald (pc := 63) (by decide +kernel) c93 ?_
  refine RN_lmul (pc := 64) (by decide +kernel) ?_
  obtain ⟨x94, ex94, h⟩ := nm_el h
  refine RN_nmJ ex94 ?_
  refine RN_lstore (pc := 65) (i := 7) (ls2 := [some (.ref v0), some (.int v1), some (.int v2), some (.int x75), some (.int x76), some (.long x89), none, some (.long x94), none]) (by decide +kernel) (by decide) rfl ?_
  refine RN_aload_n (pc := 67) (k := 0) (by decide +kernel) rfl rfl ?_
  refine RN_getR (pc := 68) (idx := 47) (ci := 11) (k := 19) (by decide +kernel) lf_RX12_47 rfl c74 c83 ?_
  obtain ⟨r95, er95, h⟩ := nm_el h
  refine RN_nmR er95 ?_
  refine RN_iload_n (pc := 71) (k := 3) (by decide +kernel) rfl rfl ?_
  obtain ⟨c96, h⟩ := ck_el h
  refine RN_lald (pc := 72) (by decide +kernel) c96 ?_
  obtain ⟨x97, ex97, h⟩ := nm_el h
  refine RN_nmJ ex97 ?_
  refine RN_lstore (pc := 73) (i := 9) (ls2 := [some (.ref v0), some (.int v1), some (.int v2), some (.int x75), some (.int x76), some (.long x89), none, some (.long x94), none, some (.long x97), none]) (by decide +kernel) (by decide) rfl ?_
  refine RN_aload_n (pc := 75) (k := 0) (by decide +kernel) rfl rfl ?_
  refine RN_getR (pc := 76) (idx := 51) (ci := 11) (k := 20) (by decide +kernel) lf_RX12_51 rfl c74 c80 ?_
  obtain ⟨r98, er98, h⟩ := nm_el h
  refine RN_nmR er98 ?_
  refine RN_iload_n (pc := 79) (k := 3) (by decide +kernel) rfl rfl ?_
  obtain ⟨c99, h⟩ := ck_el h
  refine RN_lald (pc := 80) (by decide +kernel) c99 ?_
  obtain ⟨x100, ex100, h⟩ := nm_el h
  refine RN_nmJ ex100 ?_
  refine RN_lstore (pc := 81) (i := 11) (ls2 := [some (.ref v0), some (.int v1), some (.int v2), some (.int x75), some (.int x76), some (.long x89), none, some (.long x94), none, some (.long x97), none, some (.long x100), none]) (by decide +kernel) (by decide) rfl ?_
  refine RN_aload_n (pc := 83) (k := 0) (by decide +kernel) rfl rfl ?_
  refine RN_iload_n (pc := 84) (k := 1) (by decide +kernel) rfl rfl ?_
  refine RN_lload (pc := 85) (i := 5) (by decide +kernel) rfl ?_
  refine RN_lload (pc := 87) (i := 7) (by decide +kernel) rfl ?_
  obtain ⟨x103, σ102, f101, h⟩ := bd_el h
  refine RN_callV (M := M_X12_carries) (pc := 89) (idx := 201) (as := [.int v1, .long x89, .long x94]) (st := []) (t_X12_becomes f101) (by decide +kernel) lk_RX12_201 rfl ⟨by decide, fun q hq => by cases hq; rfl⟩ c74 (Nat.le_of_ble_eq_true rfl) ⟨Nat.le_of_ble_eq_true rfl, Nat.le_of_ble_eq_true rfl⟩ rfl ?_
  show RN G M_X12_carries 92 [some (.ref v0), some (.int v1), some (.int v2), some (.int x75), some (.int x76), some (.long x89), none, some (.long x94), none, some (.long x97), none, some (.long x100), none] [.int x103] σ102 _ _
  refine RN_if_ne (pc := 92) (off := 4) (tgt := 96) (by decide +kernel) (by decide) (fun c104 => ?_) (fun c104 => ?_)
  · replace h := it_f c104 h
    refine RN_aload_n (pc := 96) (k := 0) (by decide +kernel) rfl rfl ?_
    obtain ⟨c105, h⟩ := ck_el h
    obtain ⟨c106, h⟩ := ck_el h
    refine RN_getR (pc := 97) (idx := 47) (ci := 11) (k := 19) (by decide +kernel) lf_RX12_47 rfl c105 c106 ?_
    obtain ⟨r107, er107, h⟩ := nm_el h
    refine RN_nmR er107 ?_
    refine RN_iload_n (pc := 100) (k := 3) (by decide +kernel) rfl rfl ?_
    obtain ⟨c108, h⟩ := ck_el h
    refine RN_lald (pc := 101) (by decide +kernel) c108 ?_
    refine RN_aload_n (pc := 102) (k := 0) (by decide +kernel) rfl rfl ?_
    obtain ⟨c109, h⟩ := ck_el h
    refine RN_getR (pc := 103) (idx := 51) (ci := 11) (k := 20) (by decide +kernel) lf_RX12_51 rfl c105 c109 ?_
    obtain ⟨r110, er110, h⟩ := nm_el h
    refine RN_nmR er110 ?_
    refine RN_iload_n (pc := 106) (k := 3) (by decide +kernel) rfl rfl ?_
    obtain ⟨c111, h⟩ := ck_el h
    refine RN_lald (pc := 107) (by decide +kernel) c111 ?_
    obtain ⟨x113, f112, h⟩ := bp_el h
    refine RN_callS (M := M_X12_carries) (pc := 108) (idx := 183) (as := [.long (gJ σ102 r107 x75.toNatClampNeg), .long (gJ σ102 r110 x75.toNatClampNeg)]) (st := []) (t_X12_floor f112) (by decide +kernel) lk_RX12_183 rfl (Nat.le_of_ble_eq_true rfl) ⟨Nat.le_of_ble_eq_true rfl, Nat.le_of_ble_eq_true rfl⟩ rfl ?_
    show RN G M_X12_carries 111 [some (.ref v0), some (.int v1), some (.int v2), some (.int x75), some (.int x76), some (.long x89), none, some (.long x94), none, some (.long x97), none, some (.long x100), none] [.long x113] σ102 _ _
    refine RN_lstore (pc := 111) (i := 13) (ls2 := [some (.ref v0), some (.int v1), some (.int v2), some (.int x75), some (.int x76), some (.long x89), none, some (.long x94), none, some (.long x97), none, some (.long x100), none, some (.long x113), none]) (by decide +kernel) (by decide) rfl ?_
    refine RN_aload_n (pc := 113) (k := 0) (by decide +kernel) rfl rfl ?_
    refine RN_getR (pc := 114) (idx := 47) (ci := 11) (k := 19) (by decide +kernel) lf_RX12_47 rfl c105 c106 ?_
    obtain ⟨r114, er114, h⟩ := nm_el h
    refine RN_nmR er114 ?_
    refine RN_iload_n (pc := 117) (k := 3) (by decide +kernel) rfl rfl ?_
    obtain ⟨c115, h⟩ := ck_el h
    refine RN_lald (pc := 118) (by decide +kernel) c115 ?_
    refine RN_lload (pc := 119) (i := 13) (by decide +kernel) rfl ?_
    refine RN_aload_n (pc := 121) (k := 0) (by decide +kernel) rfl rfl ?_
    refine RN_getR (pc := 122) (idx := 51) (ci := 11) (k := 20) (by decide +kernel) lf_RX12_51 rfl c105 c109 ?_
    obtain ⟨r116, er116, h⟩ := nm_el h
    refine RN_nmR er116 ?_
    refine RN_iload_n (pc := 125) (k := 3) (by decide +kernel) rfl rfl ?_
    obtain ⟨c117, h⟩ := ck_el h
    refine RN_lald (pc := 126) (by decide +kernel) c117 ?_
    refine RN_lmul (pc := 127) (by decide +kernel) ?_
    refine RN_lsub (pc := 128) (by decide +kernel) ?_
    obtain ⟨x118, ex118, h⟩ := nm_el h
    refine RN_nmJ ex118 ?_
    refine RN_lstore (pc := 129) (i := 15) (ls2 := [some (.ref v0), some (.int v1), some (.int v2), some (.int x75), some (.int x76), some (.long x89), none, some (.long x94), none, some (.long x97), none, some (.long x100), none, some (.long x113), none, some (.long x118), none]) (by decide +kernel) (by decide) rfl ?_
    refine RN_aload_n (pc := 131) (k := 0) (by decide +kernel) rfl rfl ?_
    refine RN_getR (pc := 132) (idx := 51) (ci := 11) (k := 20) (by decide +kernel) lf_RX12_51 rfl c105 c109 ?_
    obtain ⟨r119, er119, h⟩ := nm_el h
    refine RN_nmR er119 ?_
    refine RN_iload_n (pc := 135) (k := 3) (by decide +kernel) rfl rfl ?_
    obtain ⟨c120, h⟩ := ck_el h
    refine RN_lald (pc := 136) (by decide +kernel) c120 ?_
    obtain ⟨x121, ex121, h⟩ := nm_el h
    refine RN_nmJ ex121 ?_
    refine RN_lstore (pc := 137) (i := 17) (ls2 := [some (.ref v0), some (.int v1), some (.int v2), some (.int x75), some (.int x76), some (.long x89), none, some (.long x94), none, some (.long x97), none, some (.long x100), none, some (.long x113), none, some (.long x118), none, some (.long x121), none]) (by decide +kernel) (by decide) rfl ?_
    refine RN_aload_n (pc := 139) (k := 0) (by decide +kernel) rfl rfl ?_
    refine RN_iload_n (pc := 140) (k := 1) (by decide +kernel) rfl rfl ?_
    refine RN_lload (pc := 141) (i := 13) (by decide +kernel) rfl ?_
    obtain ⟨x124, σ123, f122, h⟩ := bd_el h
    refine RN_callV (M := M_X12_carries) (pc := 143) (idx := 205) (as := [.int v1, .long x113]) (st := []) (t_X12_becomesWhole f122) (by decide +kernel) lk_RX12_205 rfl ⟨by decide, fun q hq => by cases hq; rfl⟩ c105 (Nat.le_of_ble_eq_true rfl) ⟨Nat.le_of_ble_eq_true rfl, Nat.le_of_ble_eq_true rfl⟩ rfl ?_
    show RN G M_X12_carries 146 [some (.ref v0), some (.int v1), some (.int v2), some (.int x75), some (.int x76), some (.long x89), none, some (.long x94), none, some (.long x97), none, some (.long x100), none, some (.long x113), none, some (.long x118), none, some (.long x121), none] [.int x124] σ123 _ _
    refine RN_if_ne (pc := 146) (off := 20) (tgt := 166) (by decide +kernel) (by decide) (fun c125 => ?_) (fun c125 => ?_)
    · replace h := it_f c125 h
      refine RN_lload (pc := 166) (i := 15) (by decide +kernel) rfl ?_
      refine RN_lload (pc := 168) (i := 17) (by decide +kernel) rfl ?_
      obtain ⟨x127, f126, h⟩ := bp_el h
      refine RN_callS (M := M_X12_carries) (pc := 170) (idx := 189) (as := [.long x118, .long x121]) (st := []) (t_X12_common f126) (by decide +kernel) lk_RX12_189 rfl (Nat.le_of_ble_eq_true rfl) ⟨Nat.le_of_ble_eq_true rfl, Nat.le_of_ble_eq_true rfl⟩ rfl ?_
      show RN G M_X12_carries 173 [some (.ref v0), some (.int v1), some (.int v2), some (.int x75), some (.int x76), some (.long x89), none, some (.long x94), none, some (.long x97), none, some (.long x100), none, some (.long x113), none, some (.long x118), none, some (.long x121), none] [.long x127] σ123 _ _
      refine RN_lstore (pc := 173) (i := 19) (ls2 := [some (.ref v0), some (.int v1), some (.int v2), some (.int x75), some (.int x76), some (.long x89), none, some (.long x94), none, some (.long x97), none, some (.long x100), none, some (.long x113), none, some (.long x118), none, some (.long x121), none, some (.long x127), none]) (by decide +kernel) (by decide) rfl ?_
      refine RN_aload_n (pc := 175) (k := 0) (by decide +kernel) rfl rfl ?_
      obtain ⟨c128, h⟩ := ck_el h
      obtain ⟨c129, h⟩ := ck_el h
      refine RN_getR (pc := 176) (idx := 63) (ci := 11) (k := 24) (by decide +kernel) lf_RX12_63 rfl c128 c129 ?_
      obtain ⟨r130, er130, h⟩ := nm_el h
      refine RN_nmR er130 ?_
      refine RN_iload (pc := 179) (i := 4) (by decide +kernel) rfl ?_
      refine RN_lload (pc := 181) (i := 15) (by decide +kernel) rfl ?_
      refine RN_lload (pc := 183) (i := 19) (by decide +kernel) rfl ?_
      obtain ⟨c131, h⟩ := ck_el h
      refine RN_ldiv (pc := 185) (by decide +kernel) c131 ?_
      obtain ⟨c132, h⟩ := ck_el h
      refine RN_last (pc := 186) (by decide +kernel) c132 ?_
      obtain ⟨σ133, eσ133, h⟩ := nm_el h
      refine RN_nmS eσ133 ?_
      refine RN_aload_n (pc := 187) (k := 0) (by decide +kernel) rfl rfl ?_
      obtain ⟨c134, h⟩ := ck_el h
      obtain ⟨c135, h⟩ := ck_el h
      refine RN_getR (pc := 188) (idx := 66) (ci := 11) (k := 25) (by decide +kernel) lf_RX12_66 rfl c134 c135 ?_
      obtain ⟨r136, er136, h⟩ := nm_el h
      refine RN_nmR er136 ?_
      refine RN_iload (pc := 191) (i := 4) (by decide +kernel) rfl ?_
      refine RN_lload (pc := 193) (i := 17) (by decide +kernel) rfl ?_
      refine RN_lload (pc := 195) (i := 19) (by decide +kernel) rfl ?_
      refine RN_ldiv (pc := 197) (by decide +kernel) c131 ?_
      obtain ⟨c137, h⟩ := ck_el h
      refine RN_last (pc := 198) (by decide +kernel) c137 ?_
      obtain ⟨σ138, eσ138, h⟩ := nm_el h
      refine RN_nmS eσ138 ?_
      obtain rfl := some_el h
      exact RN_return (by decide +kernel) rfl
    · replace h := it_t c125 h
      refine RN_aload_n (pc := 149) (k := 0) (by decide +kernel) rfl rfl ?_
      obtain ⟨c139, h⟩ := ck_el h
      obtain ⟨c140, h⟩ := ck_el h
      refine RN_getR (pc := 150) (idx := 47) (ci := 11) (k := 19) (by decide +kernel) lf_RX12_47 rfl c139 c140 ?_
      obtain ⟨r141, er141, h⟩ := nm_el h
      refine RN_nmR er141 ?_
      refine RN_iload_n (pc := 153) (k := 3) (by decide +kernel) rfl rfl ?_
      refine RN_lload (pc := 154) (i := 9) (by decide +kernel) rfl ?_
      obtain ⟨c142, h⟩ := ck_el h
      refine RN_last (pc := 156) (by decide +kernel) c142 ?_
      obtain ⟨σ143, eσ143, h⟩ := nm_el h
      refine RN_nmS eσ143 ?_
      refine RN_aload_n (pc := 157) (k := 0) (by decide +kernel) rfl rfl ?_
      obtain ⟨c144, h⟩ := ck_el h
      obtain ⟨c145, h⟩ := ck_el h
      refine RN_getR (pc := 158) (idx := 51) (ci := 11) (k := 20) (by decide +kernel) lf_RX12_51 rfl c144 c145 ?_
      obtain ⟨r146, er146, h⟩ := nm_el h
      refine RN_nmR er146 ?_
      refine RN_iload_n (pc := 161) (k := 3) (by decide +kernel) rfl rfl ?_
      refine RN_lload (pc := 162) (i := 11) (by decide +kernel) rfl ?_
      obtain ⟨c147, h⟩ := ck_el h
      refine RN_last (pc := 164) (by decide +kernel) c147 ?_
      obtain ⟨σ148, eσ148, h⟩ := nm_el h
      refine RN_nmS eσ148 ?_
      obtain rfl := some_el h
      exact RN_return (by decide +kernel) rfl
  · replace h := it_t c104 h
    obtain rfl := some_el h
    exact RN_return (by decide +kernel) rfl
def b_X12_books_89 (s0 : Int32) (s1 : Int32) (s2 : Nat) (σ : Sg) : Option Sg :=
  ck (okO σ s2 11) <|
  nm (pI σ s2 31 (s1 + s0)) fun σ49 =>
  some σ49
set_option maxRecDepth 20000 in
theorem tb_X12_books_89 {G : Gl} {σr : Sg} (s0 : Int32) (s1 : Int32) (s2 : Nat) (σ : Sg) (h : b_X12_books_89 s0 s1 s2 σ = some σr) : RN G M_X12_books 89 [] [.int s0, .int s1, .ref s2] σ (.inl none) σr := by
  unfold b_X12_books_89 at h
  refine RN_iadd (pc := 89) (by decide +kernel) ?_
  obtain ⟨c48, h⟩ := ck_el h
  refine RN_putI (pc := 90) (idx := 235) (ci := 11) (k := 31) (by decide +kernel) lf_RX12_235 rfl (fun q hq => by cases hq; exact Or.inl rfl) c48 ?_
  obtain ⟨σ49, eσ49, h⟩ := nm_el h
  refine RN_nmS eσ49 ?_
  obtain rfl := some_el h
  exact RN_return (by decide +kernel) rfl
def b_X12_books_67 (v0 : Nat) (v4 : Int32) (s0 : Int64) (s1 : Int64) (s2 : Int32) (s3 : Nat) (σ : Sg) : Option Sg :=
  ck (okW σ s3 14 s2) <|
  nm (pJ σ s3 s2.toNatClampNeg (s1 + s0)) fun σ42 =>
  ck (okO σ42 v0 11) <|
  ck (¬ gR σ42 v0 26 = 0) <|
  nm (gR σ42 v0 26) fun r45 =>
  ck (okA σ42 r45 15 v4) <|
  if (gI σ42 r45 v4.toNatClampNeg) = 0 then (
    b_X12_books_89 (0 : Int32) (gI σ42 v0 31) v0 σ42)
  else (
    b_X12_books_89 (1 : Int32) (gI σ42 v0 31) v0 σ42)
set_option maxRecDepth 20000 in
theorem tb_X12_books_67 {G : Gl} {σr : Sg} (v0 : Nat) (v4 : Int32) (s0 : Int64) (s1 : Int64) (s2 : Int32) (s3 : Nat) (σ : Sg) (h : b_X12_books_67 v0 v4 s0 s1 s2 s3 σ = some σr) : RN G M_X12_books 67 [some (.ref v0), none, none, none, some (.int v4)] [.long s0, .long s1, .int s2, .ref s3] σ (.inl none) σr := by
  unfold b_X12_books_67 at h
  refine RN_ladd (pc := 67) (by decide +kernel) ?_
  obtain ⟨c41, h⟩ := ck_el h
  refine RN_last (pc := 68) (by decide +kernel) c41 ?_
  obtain ⟨σ42, eσ42, h⟩ := nm_el h
  refine RN_nmS eσ42 ?_
  refine RN_aload_n (pc := 69) (k := 0) (by decide +kernel) rfl rfl ?_
  refine RN_dup (pc := 70) (by decide +kernel) rfl ?_
  obtain ⟨c43, h⟩ := ck_el h
  refine RN_getI (pc := 71) (idx := 235) (ci := 11) (k := 31) (by decide +kernel) lf_RX12_235 (Or.inl rfl) c43 ?_
  refine RN_aload_n (pc := 74) (k := 0) (by decide +kernel) rfl rfl ?_
  obtain ⟨c44, h⟩ := ck_el h
  refine RN_getR (pc := 75) (idx := 69) (ci := 11) (k := 26) (by decide +kernel) lf_RX12_69 rfl c43 c44 ?_
  obtain ⟨r45, er45, h⟩ := nm_el h
  refine RN_nmR er45 ?_
  refine RN_iload (pc := 78) (i := 4) (by decide +kernel) rfl ?_
  obtain ⟨c46, h⟩ := ck_el h
  refine RN_zald (pc := 80) (by decide +kernel) c46 ?_
  refine RN_if_eq (pc := 81) (off := 7) (tgt := 88) (by decide +kernel) (by decide) (fun c47 => ?_) (fun c47 => ?_)
  · replace h := it_t c47 h
    refine RN_iconst (pc := 88) (n := 0) (v := 0) (by decide +kernel) (by decide) ?_
    exact RN_weak (l := []) trivial (tb_X12_books_89 (0 : Int32) (gI σ42 v0 31) v0 σ42 h)
  · replace h := it_f c47 h
    refine RN_iconst (pc := 84) (n := 1) (v := 1) (by decide +kernel) (by decide) ?_
    refine RN_goto (pc := 85) (off := 4) (tgt := 89) (by decide +kernel) (by decide) ?_
    exact RN_weak (l := []) trivial (tb_X12_books_89 (1 : Int32) (gI σ42 v0 31) v0 σ42 h)
def f_X12_books (v0 : Nat) (v1 : Int32) (v2 : Int32) (v3 : Int32) (σ : Sg) : Option Sg :=
  ck (okO σ v0 11) <|
  nm (((8 : Int32) * (gI σ v0 16)) + v1) fun x29 =>
  ck (¬ gR σ v0 20 = 0) <|
  nm (gR σ v0 20) fun r31 =>
  ck (okA σ r31 14 x29) <|
  if (gJ σ r31 x29.toNatClampNeg) = (1 : Int64) then (
    ck (¬ gR σ v0 23 = 0) <|
    nm (gR σ v0 23) fun r35 =>
    ck (okA σ r35 14 (((8 : Int32) * (gI σ v0 16)) + v2)) <|
    if v3 = 0 then (
      ck (¬ gR σ v0 19 = 0) <|
      nm (gR σ v0 19) fun r51 =>
      ck (okA σ r51 14 x29) <|
      b_X12_books_67 v0 x29 (gJ σ r51 x29.toNatClampNeg) (gJ σ r35 (((8 : Int32) * (gI σ v0 16)) + v2).toNatClampNeg) (((8 : Int32) * (gI σ v0 16)) + v2) r35 σ)
    else (
      ck (¬ gR σ v0 19 = 0) <|
      nm (gR σ v0 19) fun r39 =>
      ck (okA σ r39 14 x29) <|
      b_X12_books_67 v0 x29 (-(gJ σ r39 x29.toNatClampNeg)) (gJ σ r35 (((8 : Int32) * (gI σ v0 16)) + v2).toNatClampNeg) (((8 : Int32) * (gI σ v0 16)) + v2) r35 σ))
  else (
    nm (pI σ v0 32 (-5 : Int32)) fun σ53 =>
    some σ53)
set_option maxRecDepth 20000 in
theorem t_X12_books {G : Gl} {σr : Sg} {v0 : Nat} {v1 : Int32} {v2 : Int32} {v3 : Int32} {σ : Sg} (h : f_X12_books v0 v1 v2 v3 σ = some σr) : MT G M_X12_books [.ref v0, .int v1, .int v2, .int v3] σ none σr := by
  refine MT_of rfl rfl (Nat.le_of_ble_eq_true rfl) ?_
  show RN G M_X12_books 0 [some (.ref v0), some (.int v1), some (.int v2), some (.int v3)] [] σ (.inl none) σr
  unfold f_X12_books at h
  refine RN_bipush (pc := 0) (n := 8) (v := 8) (by decide +kernel) (by decide) ?_
  refine RN_aload_n (pc := 2) (k := 0) (by decide +kernel) rfl rfl ?_
  obtain ⟨c28, h⟩ := ck_el h
  refine RN_getI (pc := 3) (idx := 146) (ci := 11) (k := 16) (by decide +kernel) lf_RX12_146 (Or.inl rfl) c28 ?_
  refine RN_imul (pc := 6) (by decide +kernel) ?_
  refine RN_iload_n (pc := 7) (k := 1) (by decide +kernel) rfl rfl ?_
  refine RN_iadd (pc := 8) (by decide +kernel) ?_
  obtain ⟨x29, ex29, h⟩ := nm_el h
  refine RN_nmI ex29 ?_
  refine RN_istore (pc := 9) (i := 4) (ls2 := [some (.ref v0), some (.int v1), some (.int v2), some (.int v3), some (.int x29)]) (by decide +kernel) (by decide) rfl ?_
  refine RN_aload_n (pc := 11) (k := 0) (by decide +kernel) rfl rfl ?_
  obtain ⟨c30, h⟩ := ck_el h
  refine RN_getR (pc := 12) (idx := 51) (ci := 11) (k := 20) (by decide +kernel) lf_RX12_51 rfl c28 c30 ?_
  obtain ⟨r31, er31, h⟩ := nm_el h
  refine RN_nmR er31 ?_
  refine RN_iload (pc := 15) (i := 4) (by decide +kernel) rfl ?_
  obtain ⟨c32, h⟩ := ck_el h
  refine RN_lald (pc := 17) (by decide +kernel) c32 ?_
  refine RN_lconst (pc := 18) (n := 1) (v := 1) (by decide +kernel) (by decide) ?_
  refine RN_lc_eq (pc := 19) (off := 10) (tgt := 30) (by decide +kernel) (by decide +kernel) (by decide) (fun c33 => ?_) (fun c33 => ?_)
  · replace h := it_t c33 h
    refine RN_aload_n (pc := 30) (k := 0) (by decide +kernel) rfl rfl ?_
    obtain ⟨c34, h⟩ := ck_el h
    refine RN_getR (pc := 31) (idx := 60) (ci := 11) (k := 23) (by decide +kernel) lf_RX12_60 rfl c28 c34 ?_
    obtain ⟨r35, er35, h⟩ := nm_el h
    refine RN_nmR er35 ?_
    refine RN_bipush (pc := 34) (n := 8) (v := 8) (by decide +kernel) (by decide) ?_
    refine RN_aload_n (pc := 36) (k := 0) (by decide +kernel) rfl rfl ?_
    refine RN_getI (pc := 37) (idx := 146) (ci := 11) (k := 16) (by decide +kernel) lf_RX12_146 (Or.inl rfl) c28 ?_
    refine RN_imul (pc := 40) (by decide +kernel) ?_
    refine RN_iload_n (pc := 41) (k := 2) (by decide +kernel) rfl rfl ?_
    refine RN_iadd (pc := 42) (by decide +kernel) ?_
    refine RN_dup2_11 (pc := 43) (by decide +kernel) rfl rfl ?_
    obtain ⟨c36, h⟩ := ck_el h
    refine RN_lald (pc := 44) (by decide +kernel) c36 ?_
    refine RN_iload_n (pc := 45) (k := 3) (by decide +kernel) rfl rfl ?_
    refine RN_if_ne (pc := 46) (off := 13) (tgt := 59) (by decide +kernel) (by decide) (fun c37 => ?_) (fun c37 => ?_)
    · replace h := it_f c37 h
      refine RN_aload_n (pc := 59) (k := 0) (by decide +kernel) rfl rfl ?_
      obtain ⟨c38, h⟩ := ck_el h
      refine RN_getR (pc := 60) (idx := 47) (ci := 11) (k := 19) (by decide +kernel) lf_RX12_47 rfl c28 c38 ?_
      obtain ⟨r39, er39, h⟩ := nm_el h
      refine RN_nmR er39 ?_
      refine RN_iload (pc := 63) (i := 4) (by decide +kernel) rfl ?_
      obtain ⟨c40, h⟩ := ck_el h
      refine RN_lald (pc := 65) (by decide +kernel) c40 ?_
      refine RN_lneg (pc := 66) (by decide +kernel) ?_
      exact RN_weak (l := [some (.ref v0), none, none, none, some (.int x29)]) (And.intro rfl (And.intro rfl trivial)) (tb_X12_books_67 v0 x29 (-(gJ σ r39 x29.toNatClampNeg)) (gJ σ r35 (((8 : Int32) * (gI σ v0 16)) + v2).toNatClampNeg) (((8 : Int32) * (gI σ v0 16)) + v2) r35 σ h)
    · replace h := it_t c37 h
      refine RN_aload_n (pc := 49) (k := 0) (by decide +kernel) rfl rfl ?_
      obtain ⟨c50, h⟩ := ck_el h
      refine RN_getR (pc := 50) (idx := 47) (ci := 11) (k := 19) (by decide +kernel) lf_RX12_47 rfl c28 c50 ?_
      obtain ⟨r51, er51, h⟩ := nm_el h
      refine RN_nmR er51 ?_
      refine RN_iload (pc := 53) (i := 4) (by decide +kernel) rfl ?_
      obtain ⟨c52, h⟩ := ck_el h
      refine RN_lald (pc := 55) (by decide +kernel) c52 ?_
      refine RN_goto (pc := 56) (off := 11) (tgt := 67) (by decide +kernel) (by decide) ?_
      exact RN_weak (l := [some (.ref v0), none, none, none, some (.int x29)]) (And.intro rfl (And.intro rfl trivial)) (tb_X12_books_67 v0 x29 (gJ σ r51 x29.toNatClampNeg) (gJ σ r35 (((8 : Int32) * (gI σ v0 16)) + v2).toNatClampNeg) (((8 : Int32) * (gI σ v0 16)) + v2) r35 σ h)
  · replace h := it_f c33 h
    refine RN_aload_n (pc := 23) (k := 0) (by decide +kernel) rfl rfl ?_
    refine RN_bipush (pc := 24) (n := -5) (v := -5) (by decide +kernel) (by decide) ?_
    refine RN_putI (pc := 26) (idx := 198) (ci := 11) (k := 32) (by decide +kernel) lf_RX12_198 rfl (fun q hq => by cases hq; exact Or.inl rfl) c28 ?_
    obtain ⟨σ53, eσ53, h⟩ := nm_el h
    refine RN_nmS eσ53 ?_
    obtain rfl := some_el h
    exact RN_return (by decide +kernel) rfl
def b_X12_caps_68 (v0 : Nat) (v3 : Int64) (v5 : Int32) (s0 : Int32) (σ : Sg) : Option Sg :=
  if s0 = 0 then (
    some σ)
  else (
    ck (okO σ v0 11) <|
    ck (¬ gR σ v0 19 = 0) <|
    nm (gR σ v0 19) fun r40 =>
    ck (okW σ r40 14 v5) <|
    nm (pJ σ r40 v5.toNatClampNeg v3) fun σ42 =>
    ck (okO σ42 v0 11) <|
    ck (¬ gR σ42 v0 20 = 0) <|
    nm (gR σ42 v0 20) fun r45 =>
    ck (okW σ42 r45 14 v5) <|
    nm (pJ σ42 r45 v5.toNatClampNeg (1 : Int64)) fun σ47 =>
    some σ47)
set_option maxRecDepth 20000 in
theorem tb_X12_caps_68 {G : Gl} {σr : Sg} (v0 : Nat) (v3 : Int64) (v5 : Int32) (s0 : Int32) (σ : Sg) (h : b_X12_caps_68 v0 v3 v5 s0 σ = some σr) : RN G M_X12_caps 68 [some (.ref v0), none, none, some (.long v3), none, some (.int v5)] [.int s0] σ (.inl none) σr := by
  unfold b_X12_caps_68 at h
  refine RN_istore (pc := 68) (i := 6) (ls2 := [some (.ref v0), none, none, some (.long v3), none, some (.int v5), some (.int s0)]) (by decide +kernel) (by decide) rfl ?_
  refine RN_iload (pc := 70) (i := 6) (by decide +kernel) rfl ?_
  refine RN_if_eq (pc := 72) (off := 19) (tgt := 91) (by decide +kernel) (by decide) (fun c37 => ?_) (fun c37 => ?_)
  · replace h := it_t c37 h
    obtain rfl := some_el h
    exact RN_return (by decide +kernel) rfl
  · replace h := it_f c37 h
    refine RN_aload_n (pc := 75) (k := 0) (by decide +kernel) rfl rfl ?_
    obtain ⟨c38, h⟩ := ck_el h
    obtain ⟨c39, h⟩ := ck_el h
    refine RN_getR (pc := 76) (idx := 47) (ci := 11) (k := 19) (by decide +kernel) lf_RX12_47 rfl c38 c39 ?_
    obtain ⟨r40, er40, h⟩ := nm_el h
    refine RN_nmR er40 ?_
    refine RN_iload (pc := 79) (i := 5) (by decide +kernel) rfl ?_
    refine RN_lload_n (pc := 81) (k := 3) (by decide +kernel) rfl rfl ?_
    obtain ⟨c41, h⟩ := ck_el h
    refine RN_last (pc := 82) (by decide +kernel) c41 ?_
    obtain ⟨σ42, eσ42, h⟩ := nm_el h
    refine RN_nmS eσ42 ?_
    refine RN_aload_n (pc := 83) (k := 0) (by decide +kernel) rfl rfl ?_
    obtain ⟨c43, h⟩ := ck_el h
    obtain ⟨c44, h⟩ := ck_el h
    refine RN_getR (pc := 84) (idx := 51) (ci := 11) (k := 20) (by decide +kernel) lf_RX12_51 rfl c43 c44 ?_
    obtain ⟨r45, er45, h⟩ := nm_el h
    refine RN_nmR er45 ?_
    refine RN_iload (pc := 87) (i := 5) (by decide +kernel) rfl ?_
    refine RN_lconst (pc := 89) (n := 1) (v := 1) (by decide +kernel) (by decide) ?_
    obtain ⟨c46, h⟩ := ck_el h
    refine RN_last (pc := 90) (by decide +kernel) c46 ?_
    obtain ⟨σ47, eσ47, h⟩ := nm_el h
    refine RN_nmS eσ47 ?_
    obtain rfl := some_el h
    exact RN_return (by decide +kernel) rfl
def f_X12_caps (v0 : Nat) (v1 : Int32) (v2 : Int32) (v3 : Int64) (σ : Sg) : Option Sg :=
  ck (okO σ v0 11) <|
  nm (((8 : Int32) * (gI σ v0 16)) + v1) fun x28 =>
  if v2 = 0 then (
    ck (¬ gR σ v0 19 = 0) <|
    nm (gR σ v0 19) fun r49 =>
    ck (okA σ r49 14 x28) <|
    ck (¬ gR σ v0 20 = 0) <|
    nm (gR σ v0 20) fun r52 =>
    ck (okA σ r52 14 x28) <|
    if (gJ σ r49 x28.toNatClampNeg) ≤ (v3 * (gJ σ r52 x28.toNatClampNeg)) then (
      b_X12_caps_68 v0 v3 x28 (0 : Int32) σ)
    else (
      b_X12_caps_68 v0 v3 x28 (1 : Int32) σ))
  else (
    ck (¬ gR σ v0 19 = 0) <|
    nm (gR σ v0 19) fun r31 =>
    ck (okA σ r31 14 x28) <|
    ck (¬ gR σ v0 20 = 0) <|
    nm (gR σ v0 20) fun r34 =>
    ck (okA σ r34 14 x28) <|
    if (v3 * (gJ σ r34 x28.toNatClampNeg)) ≤ (gJ σ r31 x28.toNatClampNeg) then (
      b_X12_caps_68 v0 v3 x28 (0 : Int32) σ)
    else (
      b_X12_caps_68 v0 v3 x28 (1 : Int32) σ))
set_option maxRecDepth 20000 in
theorem t_X12_caps {G : Gl} {σr : Sg} {v0 : Nat} {v1 : Int32} {v2 : Int32} {v3 : Int64} {σ : Sg} (h : f_X12_caps v0 v1 v2 v3 σ = some σr) : MT G M_X12_caps [.ref v0, .int v1, .int v2, .long v3] σ none σr := by
  refine MT_of rfl rfl (Nat.le_of_ble_eq_true rfl) ?_
  show RN G M_X12_caps 0 [some (.ref v0), some (.int v1), some (.int v2), some (.long v3), none] [] σ (.inl none) σr
  unfold f_X12_caps at h
  refine RN_bipush (pc := 0) (n := 8) (v := 8) (by decide +kernel) (by decide) ?_
  refine RN_aload_n (pc := 2) (k := 0) (by decide +kernel) rfl rfl ?_
  obtain ⟨c27, h⟩ := ck_el h
  refine RN_getI (pc := 3) (idx := 146) (ci := 11) (k := 16) (by decide +kernel) lf_RX12_146 (Or.inl rfl) c27 ?_
  refine RN_imul (pc := 6) (by decide +kernel) ?_
  refine RN_iload_n (pc := 7) (k := 1) (by decide +kernel) rfl rfl ?_
  refine RN_iadd (pc := 8) (by decide +kernel) ?_
  obtain ⟨x28, ex28, h⟩ := nm_el h
  refine RN_nmI ex28 ?_
  refine RN_istore (pc := 9) (i := 5) (ls2 := [some (.ref v0), some (.int v1), some (.int v2), some (.long v3), none, some (.int x28)]) (by decide +kernel) (by decide) rfl ?_
  refine RN_iload_n (pc := 11) (k := 2) (by decide +kernel) rfl rfl ?_
  refine RN_if_ne (pc := 12) (off := 31) (tgt := 43) (by decide +kernel) (by decide) (fun c29 => ?_) (fun c29 => ?_)
  · replace h := it_f c29 h
    refine RN_aload_n (pc := 43) (k := 0) (by decide +kernel) rfl rfl ?_
    obtain ⟨c30, h⟩ := ck_el h
    refine RN_getR (pc := 44) (idx := 47) (ci := 11) (k := 19) (by decide +kernel) lf_RX12_47 rfl c27 c30 ?_
    obtain ⟨r31, er31, h⟩ := nm_el h
    refine RN_nmR er31 ?_
    refine RN_iload (pc := 47) (i := 5) (by decide +kernel) rfl ?_
    obtain ⟨c32, h⟩ := ck_el h
    refine RN_lald (pc := 49) (by decide +kernel) c32 ?_
    refine RN_lload_n (pc := 50) (k := 3) (by decide +kernel) rfl rfl ?_
    refine RN_aload_n (pc := 51) (k := 0) (by decide +kernel) rfl rfl ?_
    obtain ⟨c33, h⟩ := ck_el h
    refine RN_getR (pc := 52) (idx := 51) (ci := 11) (k := 20) (by decide +kernel) lf_RX12_51 rfl c27 c33 ?_
    obtain ⟨r34, er34, h⟩ := nm_el h
    refine RN_nmR er34 ?_
    refine RN_iload (pc := 55) (i := 5) (by decide +kernel) rfl ?_
    obtain ⟨c35, h⟩ := ck_el h
    refine RN_lald (pc := 57) (by decide +kernel) c35 ?_
    refine RN_lmul (pc := 58) (by decide +kernel) ?_
    refine RN_lc_ge (pc := 59) (off := 7) (tgt := 67) (by decide +kernel) (by decide +kernel) (by decide) (fun c36 => ?_) (fun c36 => ?_)
    · replace h := it_t c36 h
      refine RN_iconst (pc := 67) (n := 0) (v := 0) (by decide +kernel) (by decide) ?_
      exact RN_weak (l := [some (.ref v0), none, none, some (.long v3), none, some (.int x28)]) (And.intro rfl (And.intro rfl (And.intro rfl trivial))) (tb_X12_caps_68 v0 v3 x28 (0 : Int32) σ h)
    · replace h := it_f c36 h
      refine RN_iconst (pc := 63) (n := 1) (v := 1) (by decide +kernel) (by decide) ?_
      refine RN_goto (pc := 64) (off := 4) (tgt := 68) (by decide +kernel) (by decide) ?_
      exact RN_weak (l := [some (.ref v0), none, none, some (.long v3), none, some (.int x28)]) (And.intro rfl (And.intro rfl (And.intro rfl trivial))) (tb_X12_caps_68 v0 v3 x28 (1 : Int32) σ h)
  · replace h := it_t c29 h
    refine RN_aload_n (pc := 15) (k := 0) (by decide +kernel) rfl rfl ?_
    obtain ⟨c48, h⟩ := ck_el h
    refine RN_getR (pc := 16) (idx := 47) (ci := 11) (k := 19) (by decide +kernel) lf_RX12_47 rfl c27 c48 ?_
    obtain ⟨r49, er49, h⟩ := nm_el h
    refine RN_nmR er49 ?_
    refine RN_iload (pc := 19) (i := 5) (by decide +kernel) rfl ?_
    obtain ⟨c50, h⟩ := ck_el h
    refine RN_lald (pc := 21) (by decide +kernel) c50 ?_
    refine RN_lload_n (pc := 22) (k := 3) (by decide +kernel) rfl rfl ?_
    refine RN_aload_n (pc := 23) (k := 0) (by decide +kernel) rfl rfl ?_
    obtain ⟨c51, h⟩ := ck_el h
    refine RN_getR (pc := 24) (idx := 51) (ci := 11) (k := 20) (by decide +kernel) lf_RX12_51 rfl c27 c51 ?_
    obtain ⟨r52, er52, h⟩ := nm_el h
    refine RN_nmR er52 ?_
    refine RN_iload (pc := 27) (i := 5) (by decide +kernel) rfl ?_
    obtain ⟨c53, h⟩ := ck_el h
    refine RN_lald (pc := 29) (by decide +kernel) c53 ?_
    refine RN_lmul (pc := 30) (by decide +kernel) ?_
    refine RN_lc_le (pc := 31) (off := 7) (tgt := 39) (by decide +kernel) (by decide +kernel) (by decide) (fun c54 => ?_) (fun c54 => ?_)
    · replace h := it_t c54 h
      refine RN_iconst (pc := 39) (n := 0) (v := 0) (by decide +kernel) (by decide) ?_
      refine RN_goto (pc := 40) (off := 28) (tgt := 68) (by decide +kernel) (by decide) ?_
      exact RN_weak (l := [some (.ref v0), none, none, some (.long v3), none, some (.int x28)]) (And.intro rfl (And.intro rfl (And.intro rfl trivial))) (tb_X12_caps_68 v0 v3 x28 (0 : Int32) σ h)
    · replace h := it_f c54 h
      refine RN_iconst (pc := 35) (n := 1) (v := 1) (by decide +kernel) (by decide) ?_
      refine RN_goto (pc := 36) (off := 32) (tgt := 68) (by decide +kernel) (by decide) ?_
      exact RN_weak (l := [some (.ref v0), none, none, some (.long v3), none, some (.int x28)]) (And.intro rfl (And.intro rfl (And.intro rfl trivial))) (tb_X12_caps_68 v0 v3 x28 (1 : Int32) σ h)
def b_X12_days_14 : Nat → Nat → Int32 → Int32 → Int32 → Int32 → Int32 → Sg → Option Sg
  | 0, _, _, _, _, _, _, _ => none
  | n + 1, v0, v1, v2, v3, v4, v5, σ =>
  if v3 ≤ v5 then (
    some σ)
  else (
    ck (okO σ v0 11) <|
    if (gI σ v0 32) = 0 then (
      ck (¬ gR σ v0 19 = 0) <|
      nm (gR σ v0 19) fun r35 =>
      ck (okA σ r35 14 v4) <|
      ck (¬ gR σ v0 1 = 0) <|
      nm (gR σ v0 1) fun r38 =>
      ck (okA σ r38 13 v2) <|
      ck (¬ gR σ v0 20 = 0) <|
      nm (gR σ v0 20) fun r41 =>
      ck (okA σ r41 14 v4) <|
      ck (¬ gR σ v0 2 = 0) <|
      nm (gR σ v0 2) fun r44 =>
      ck (okA σ r44 13 v2) <|
      bp (f_X12_times ((gJ σ r35 v4.toNatClampNeg) * ((gI σ r38 v2.toNatClampNeg).toInt64)) ((gJ σ r41 v4.toNatClampNeg) * ((gI σ r44 v2.toNatClampNeg).toInt64)) (1 : Int32)) fun x47 =>
      nm (gR σ v0 19) fun r48 =>
      ck (okA σ r48 14 v4) <|
      nm (gR σ v0 20) fun r50 =>
      ck (okA σ r50 14 v4) <|
      nm (gR σ v0 20) fun r52 =>
      ck (okA σ r52 14 v4) <|
      bd (f_X12_becomes n v0 v1 ((gJ σ r48 v4.toNatClampNeg) + (x47 * (gJ σ r50 v4.toNatClampNeg))) (gJ σ r52 v4.toNatClampNeg) σ) fun x56 σ55 =>
      nm (v5 + (1 : Int32)) fun x57 =>
      b_X12_days_14 n v0 v1 v2 v3 v4 x57 σ55)
    else (
      some σ))
set_option maxRecDepth 20000 in
theorem tb_X12_days_14 {G : Gl} {σr : Sg} (v0 : Nat) (v1 : Int32) (v2 : Int32) (v3 : Int32) (v4 : Int32) : ∀ (n : Nat) (v5 : Int32) (σ : Sg), b_X12_days_14 n v0 v1 v2 v3 v4 v5 σ = some σr → RN G M_X12_days 14 [some (.ref v0), some (.int v1), some (.int v2), some (.int v3), some (.int v4), some (.int v5)] [] σ (.inl none) σr := by
  intro n
  induction n with
  | zero =>
    intro v5 σ h
    exact none_el h
  | succ n ih =>
    intro v5 σ h
    rw [b_X12_days_14] at h
    refine RN_iload (pc := 14) (i := 5) (by decide +kernel) rfl ?_
    refine RN_iload_n (pc := 16) (k := 3) (by decide +kernel) rfl rfl ?_
    refine RN_icmp_ge (pc := 17) (off := 84) (tgt := 101) (by decide +kernel) (by decide) (fun c31 => ?_) (fun c31 => ?_)
    · replace h := it_t c31 h
      obtain rfl := some_el h
      exact RN_return (by decide +kernel) rfl
    · replace h := it_f c31 h
      refine RN_aload_n (pc := 20) (k := 0) (by decide +kernel) rfl rfl ?_
      obtain ⟨c32, h⟩ := ck_el h
      refine RN_getI (pc := 21) (idx := 198) (ci := 11) (k := 32) (by decide +kernel) lf_RX12_198 (Or.inl rfl) c32 ?_
      refine RN_if_ne (pc := 24) (off := 77) (tgt := 101) (by decide +kernel) (by decide) (fun c33 => ?_) (fun c33 => ?_)
      · replace h := it_f c33 h
        obtain rfl := some_el h
        exact RN_return (by decide +kernel) rfl
      · replace h := it_t c33 h
        refine RN_aload_n (pc := 27) (k := 0) (by decide +kernel) rfl rfl ?_
        obtain ⟨c34, h⟩ := ck_el h
        refine RN_getR (pc := 28) (idx := 47) (ci := 11) (k := 19) (by decide +kernel) lf_RX12_47 rfl c32 c34 ?_
        obtain ⟨r35, er35, h⟩ := nm_el h
        refine RN_nmR er35 ?_
        refine RN_iload (pc := 31) (i := 4) (by decide +kernel) rfl ?_
        obtain ⟨c36, h⟩ := ck_el h
        refine RN_lald (pc := 33) (by decide +kernel) c36 ?_
        refine RN_aload_n (pc := 34) (k := 0) (by decide +kernel) rfl rfl ?_
        obtain ⟨c37, h⟩ := ck_el h
        refine RN_getR (pc := 35) (idx := 7) (ci := 11) (k := 1) (by decide +kernel) lf_RX12_7 rfl c32 c37 ?_
        obtain ⟨r38, er38, h⟩ := nm_el h
        refine RN_nmR er38 ?_
        refine RN_iload_n (pc := 38) (k := 2) (by decide +kernel) rfl rfl ?_
        obtain ⟨c39, h⟩ := ck_el h
        refine RN_iald (pc := 39) (by decide +kernel) c39 ?_
        refine RN_i2l (pc := 40) (by decide +kernel) ?_
        refine RN_lmul (pc := 41) (by decide +kernel) ?_
        refine RN_aload_n (pc := 42) (k := 0) (by decide +kernel) rfl rfl ?_
        obtain ⟨c40, h⟩ := ck_el h
        refine RN_getR (pc := 43) (idx := 51) (ci := 11) (k := 20) (by decide +kernel) lf_RX12_51 rfl c32 c40 ?_
        obtain ⟨r41, er41, h⟩ := nm_el h
        refine RN_nmR er41 ?_
        refine RN_iload (pc := 46) (i := 4) (by decide +kernel) rfl ?_
        obtain ⟨c42, h⟩ := ck_el h
        refine RN_lald (pc := 48) (by decide +kernel) c42 ?_
        refine RN_aload_n (pc := 49) (k := 0) (by decide +kernel) rfl rfl ?_
        obtain ⟨c43, h⟩ := ck_el h
        refine RN_getR (pc := 50) (idx := 13) (ci := 11) (k := 2) (by decide +kernel) lf_RX12_13 rfl c32 c43 ?_
        obtain ⟨r44, er44, h⟩ := nm_el h
        refine RN_nmR er44 ?_
        refine RN_iload_n (pc := 53) (k := 2) (by decide +kernel) rfl rfl ?_
        obtain ⟨c45, h⟩ := ck_el h
        refine RN_iald (pc := 54) (by decide +kernel) c45 ?_
        refine RN_i2l (pc := 55) (by decide +kernel) ?_
        refine RN_lmul (pc := 56) (by decide +kernel) ?_
        refine RN_iconst (pc := 57) (n := 1) (v := 1) (by decide +kernel) (by decide) ?_
        obtain ⟨x47, f46, h⟩ := bp_el h
        refine RN_callS (M := M_X12_days) (pc := 58) (idx := 212) (as := [.long ((gJ σ r35 v4.toNatClampNeg) * ((gI σ r38 v2.toNatClampNeg).toInt64)), .long ((gJ σ r41 v4.toNatClampNeg) * ((gI σ r44 v2.toNatClampNeg).toInt64)), .int (1 : Int32)]) (st := []) (t_X12_times f46) (by decide +kernel) lk_RX12_212 rfl (Nat.le_of_ble_eq_true rfl) ⟨Nat.le_of_ble_eq_true rfl, Nat.le_of_ble_eq_true rfl⟩ rfl ?_
        show RN G M_X12_days 61 [some (.ref v0), some (.int v1), some (.int v2), some (.int v3), some (.int v4), some (.int v5)] [.long x47] σ _ _
        refine RN_lstore (pc := 61) (i := 6) (ls2 := [some (.ref v0), some (.int v1), some (.int v2), some (.int v3), some (.int v4), some (.int v5), some (.long x47), none]) (by decide +kernel) (by decide) rfl ?_
        refine RN_aload_n (pc := 63) (k := 0) (by decide +kernel) rfl rfl ?_
        refine RN_iload_n (pc := 64) (k := 1) (by decide +kernel) rfl rfl ?_
        refine RN_aload_n (pc := 65) (k := 0) (by decide +kernel) rfl rfl ?_
        refine RN_getR (pc := 66) (idx := 47) (ci := 11) (k := 19) (by decide +kernel) lf_RX12_47 rfl c32 c34 ?_
        obtain ⟨r48, er48, h⟩ := nm_el h
        refine RN_nmR er48 ?_
        refine RN_iload (pc := 69) (i := 4) (by decide +kernel) rfl ?_
        obtain ⟨c49, h⟩ := ck_el h
        refine RN_lald (pc := 71) (by decide +kernel) c49 ?_
        refine RN_lload (pc := 72) (i := 6) (by decide +kernel) rfl ?_
        refine RN_aload_n (pc := 74) (k := 0) (by decide +kernel) rfl rfl ?_
        refine RN_getR (pc := 75) (idx := 51) (ci := 11) (k := 20) (by decide +kernel) lf_RX12_51 rfl c32 c40 ?_
        obtain ⟨r50, er50, h⟩ := nm_el h
        refine RN_nmR er50 ?_
        refine RN_iload (pc := 78) (i := 4) (by decide +kernel) rfl ?_
        obtain ⟨c51, h⟩ := ck_el h
        refine RN_lald (pc := 80) (by decide +kernel) c51 ?_
        refine RN_lmul (pc := 81) (by decide +kernel) ?_
        refine RN_ladd (pc := 82) (by decide +kernel) ?_
        refine RN_aload_n (pc := 83) (k := 0) (by decide +kernel) rfl rfl ?_
        refine RN_getR (pc := 84) (idx := 51) (ci := 11) (k := 20) (by decide +kernel) lf_RX12_51 rfl c32 c40 ?_
        obtain ⟨r52, er52, h⟩ := nm_el h
        refine RN_nmR er52 ?_
        refine RN_iload (pc := 87) (i := 4) (by decide +kernel) rfl ?_
        obtain ⟨c53, h⟩ := ck_el h
        refine RN_lald (pc := 89) (by decide +kernel) c53 ?_
        obtain ⟨x56, σ55, f54, h⟩ := bd_el h
        refine RN_callV (M := M_X12_days) (pc := 90) (idx := 201) (as := [.int v1, .long ((gJ σ r48 v4.toNatClampNeg) + (x47 * (gJ σ r50 v4.toNatClampNeg))), .long (gJ σ r52 v4.toNatClampNeg)]) (st := []) (t_X12_becomes f54) (by decide +kernel) lk_RX12_201 rfl ⟨by decide, fun q hq => by cases hq; rfl⟩ c32 (Nat.le_of_ble_eq_true rfl) ⟨Nat.le_of_ble_eq_true rfl, Nat.le_of_ble_eq_true rfl⟩ rfl ?_
        show RN G M_X12_days 93 [some (.ref v0), some (.int v1), some (.int v2), some (.int v3), some (.int v4), some (.int v5), some (.long x47), none] [.int x56] σ55 _ _
        refine RN_istore (pc := 93) (i := 8) (ls2 := [some (.ref v0), some (.int v1), some (.int v2), some (.int v3), some (.int v4), some (.int v5), some (.long x47), none, some (.int x56)]) (by decide +kernel) (by decide) rfl ?_
        obtain ⟨x57, ex57, h⟩ := nm_el h
        refine RN_iinc (pc := 95) (i := 5) (n := 1) (v := x57) (ls2 := [some (.ref v0), some (.int v1), some (.int v2), some (.int v3), some (.int v4), some (.int x57), some (.long x47), none, some (.int x56)]) (by decide +kernel) rfl (by rw [ex57]; rfl) (by decide) rfl ?_
        refine RN_goto (pc := 98) (off := -84) (tgt := 14) (by decide +kernel) (by decide) ?_
        exact RN_weak (l := [some (.ref v0), some (.int v1), some (.int v2), some (.int v3), some (.int v4), some (.int x57)]) (And.intro rfl (And.intro rfl (And.intro rfl (And.intro rfl (And.intro rfl (And.intro rfl trivial)))))) (ih x57 σ55 h)
def f_X12_days (n : Nat) (v0 : Nat) (v1 : Int32) (v2 : Int32) (v3 : Int32) (σ : Sg) : Option Sg :=
  ck (okO σ v0 11) <|
  nm (((8 : Int32) * (gI σ v0 16)) + v1) fun x30 =>
  b_X12_days_14 n v0 v1 v2 v3 x30 (0 : Int32) σ
set_option maxRecDepth 20000 in
theorem t_X12_days {G : Gl} {σr : Sg} {n : Nat} {v0 : Nat} {v1 : Int32} {v2 : Int32} {v3 : Int32} {σ : Sg} (h : f_X12_days n v0 v1 v2 v3 σ = some σr) : MT G M_X12_days [.ref v0, .int v1, .int v2, .int v3] σ none σr := by
  refine MT_of rfl rfl (Nat.le_of_ble_eq_true rfl) ?_
  show RN G M_X12_days 0 [some (.ref v0), some (.int v1), some (.int v2), some (.int v3)] [] σ (.inl none) σr
  unfold f_X12_days at h
  refine RN_bipush (pc := 0) (n := 8) (v := 8) (by decide +kernel) (by decide) ?_
  refine RN_aload_n (pc := 2) (k := 0) (by decide +kernel) rfl rfl ?_
  obtain ⟨c29, h⟩ := ck_el h
  refine RN_getI (pc := 3) (idx := 146) (ci := 11) (k := 16) (by decide +kernel) lf_RX12_146 (Or.inl rfl) c29 ?_
  refine RN_imul (pc := 6) (by decide +kernel) ?_
  refine RN_iload_n (pc := 7) (k := 1) (by decide +kernel) rfl rfl ?_
  refine RN_iadd (pc := 8) (by decide +kernel) ?_
  obtain ⟨x30, ex30, h⟩ := nm_el h
  refine RN_nmI ex30 ?_
  refine RN_istore (pc := 9) (i := 4) (ls2 := [some (.ref v0), some (.int v1), some (.int v2), some (.int v3), some (.int x30)]) (by decide +kernel) (by decide) rfl ?_
  refine RN_iconst (pc := 11) (n := 0) (v := 0) (by decide +kernel) (by decide) ?_
  refine RN_istore (pc := 12) (i := 5) (ls2 := [some (.ref v0), some (.int v1), some (.int v2), some (.int v3), some (.int x30), some (.int (0 : Int32))]) (by decide +kernel) (by decide) rfl ?_
  exact RN_weak (l := [some (.ref v0), some (.int v1), some (.int v2), some (.int v3), some (.int x30), some (.int (0 : Int32))]) (And.intro rfl (And.intro rfl (And.intro rfl (And.intro rfl (And.intro rfl (And.intro rfl trivial)))))) (tb_X12_days_14 v0 v1 v2 v3 x30 n (0 : Int32) σ h)
def b_X12_does_138 (n : Nat) (v0 : Nat) (v3 : Int32) (v7 : Int64) (σ : Sg) : Option Sg :=
  ck (okO σ v0 11) <|
  bp (f_X12_plain n v0 v3 v7 σ) fun σ144 =>
  some σ144
set_option maxRecDepth 20000 in
theorem tb_X12_does_138 {G : Gl} {σr : Sg} (n : Nat) (v0 : Nat) (v3 : Int32) (v7 : Int64) (σ : Sg) (h : b_X12_does_138 n v0 v3 v7 σ = some σr) : RN G M_X12_does 138 [some (.ref v0), none, none, some (.int v3), none, none, none, some (.long v7)] [] σ (.inl none) σr := by
  unfold b_X12_does_138 at h
  refine RN_aload_n (pc := 138) (k := 0) (by decide +kernel) rfl rfl ?_
  refine RN_iload_n (pc := 139) (k := 3) (by decide +kernel) rfl rfl ?_
  refine RN_lload (pc := 140) (i := 7) (by decide +kernel) rfl ?_
  obtain ⟨c142, h⟩ := ck_el h
  obtain ⟨σ144, f143, h⟩ := bp_el h
  refine RN_callV (M := M_X12_does) (pc := 142) (idx := 216) (as := [.int v3, .long v7]) (st := []) (t_X12_plain f143) (by decide +kernel) lk_RX12_216 rfl ⟨by decide, fun q hq => by cases hq; rfl⟩ c142 (Nat.le_of_ble_eq_true rfl) ⟨Nat.le_of_ble_eq_true rfl, Nat.le_of_ble_eq_true rfl⟩ rfl ?_
  show RN G M_X12_does 145 [some (.ref v0), none, none, some (.int v3), none, none, none, some (.long v7)] [] σ144 _ _
  refine RN_goto (pc := 145) (off := 297) (tgt := 442) (by decide +kernel) (by decide) ?_
  obtain rfl := some_el h
  exact RN_return (by decide +kernel) rfl
def b_X12_does_110 : Nat → Nat → Int32 → Int64 → Int32 → Sg → Option Sg
  | 0, _, _, _, _, _ => none
  | n + 1, v0, v3, v7, v9, σ =>
  ck (okO σ v0 11) <|
  if (gI σ v0 17) ≤ v9 then (
    b_X12_does_138 n v0 v3 v7 σ)
  else (
    ck (¬ gR σ v0 18 = 0) <|
    nm (gR σ v0 18) fun r146 =>
    ck (okA σ r146 13 v9) <|
    nm (v7 + ((gI σ r146 v9.toNatClampNeg).toInt64)) fun x148 =>
    nm (v9 + (1 : Int32)) fun x149 =>
    b_X12_does_110 n v0 v3 x148 x149 σ)
set_option maxRecDepth 20000 in
theorem tb_X12_does_110 {G : Gl} {σr : Sg} (v0 : Nat) (v3 : Int32) (σ : Sg) : ∀ (n : Nat) (v7 : Int64) (v9 : Int32), b_X12_does_110 n v0 v3 v7 v9 σ = some σr → RN G M_X12_does 110 [some (.ref v0), none, none, some (.int v3), none, none, none, some (.long v7), none, some (.int v9)] [] σ (.inl none) σr := by
  intro n
  induction n with
  | zero =>
    intro v7 v9 h
    exact none_el h
  | succ n ih =>
    intro v7 v9 h
    rw [b_X12_does_110] at h
    refine RN_iload (pc := 110) (i := 9) (by decide +kernel) rfl ?_
    refine RN_aload_n (pc := 112) (k := 0) (by decide +kernel) rfl rfl ?_
    obtain ⟨c140, h⟩ := ck_el h
    refine RN_getI (pc := 113) (idx := 209) (ci := 11) (k := 17) (by decide +kernel) lf_RX12_209 (Or.inl rfl) c140 ?_
    refine RN_icmp_ge (pc := 116) (off := 22) (tgt := 138) (by decide +kernel) (by decide) (fun c141 => ?_) (fun c141 => ?_)
    · replace h := it_t c141 h
      exact RN_weak (l := [some (.ref v0), none, none, some (.int v3), none, none, none, some (.long v7)]) (And.intro rfl (And.intro rfl (And.intro rfl trivial))) (tb_X12_does_138 n v0 v3 v7 σ h)
    · replace h := it_f c141 h
      refine RN_lload (pc := 119) (i := 7) (by decide +kernel) rfl ?_
      refine RN_aload_n (pc := 121) (k := 0) (by decide +kernel) rfl rfl ?_
      obtain ⟨c145, h⟩ := ck_el h
      refine RN_getR (pc := 122) (idx := 44) (ci := 11) (k := 18) (by decide +kernel) lf_RX12_44 rfl c140 c145 ?_
      obtain ⟨r146, er146, h⟩ := nm_el h
      refine RN_nmR er146 ?_
      refine RN_iload (pc := 125) (i := 9) (by decide +kernel) rfl ?_
      obtain ⟨c147, h⟩ := ck_el h
      refine RN_iald (pc := 127) (by decide +kernel) c147 ?_
      refine RN_i2l (pc := 128) (by decide +kernel) ?_
      refine RN_ladd (pc := 129) (by decide +kernel) ?_
      obtain ⟨x148, ex148, h⟩ := nm_el h
      refine RN_nmJ ex148 ?_
      refine RN_lstore (pc := 130) (i := 7) (ls2 := [some (.ref v0), none, none, some (.int v3), none, none, none, some (.long x148), none, some (.int v9)]) (by decide +kernel) (by decide) rfl ?_
      obtain ⟨x149, ex149, h⟩ := nm_el h
      refine RN_iinc (pc := 132) (i := 9) (n := 1) (v := x149) (ls2 := [some (.ref v0), none, none, some (.int v3), none, none, none, some (.long x148), none, some (.int x149)]) (by decide +kernel) rfl (by rw [ex149]; rfl) (by decide) rfl ?_
      refine RN_goto (pc := 135) (off := -25) (tgt := 110) (by decide +kernel) (by decide) ?_
      exact RN_weak (l := [some (.ref v0), none, none, some (.int v3), none, none, none, some (.long x148), none, some (.int x149)]) (And.intro rfl (And.intro rfl (And.intro rfl (And.intro rfl trivial)))) (ih x148 x149 h)
def b_X12_does_169 (n : Nat) (s0 : Int32) (s1 : Int32) (s2 : Int32) (s3 : Int32) (s4 : Nat) (σ : Sg) : Option Sg :=
  ck (okO σ s4 11) <|
  bp (f_X12_taxes n s4 s3 s2 s1 s0 σ) fun σ156 =>
  some σ156
set_option maxRecDepth 20000 in
theorem tb_X12_does_169 {G : Gl} {σr : Sg} (n : Nat) (s0 : Int32) (s1 : Int32) (s2 : Int32) (s3 : Int32) (s4 : Nat) (σ : Sg) (h : b_X12_does_169 n s0 s1 s2 s3 s4 σ = some σr) : RN G M_X12_does 169 [] [.int s0, .int s1, .int s2, .int s3, .ref s4] σ (.inl none) σr := by
  unfold b_X12_does_169 at h
  obtain ⟨c154, h⟩ := ck_el h
  obtain ⟨σ156, f155, h⟩ := bp_el h
  refine RN_callV (M := M_X12_does) (pc := 169) (idx := 238) (as := [.int s3, .int s2, .int s1, .int s0]) (st := []) (t_X12_taxes f155) (by decide +kernel) lk_RX12_238 rfl ⟨by decide, fun q hq => by cases hq; rfl⟩ c154 (Nat.le_of_ble_eq_true rfl) ⟨Nat.le_of_ble_eq_true rfl, Nat.le_of_ble_eq_true rfl⟩ rfl ?_
  show RN G M_X12_does 172 [] [] σ156 _ _
  refine RN_goto (pc := 172) (off := 270) (tgt := 442) (by decide +kernel) (by decide) ?_
  obtain rfl := some_el h
  exact RN_return (by decide +kernel) rfl
def f_X12_does (n : Nat) (v0 : Nat) (v1 : Int32) (v2 : Int32) (σ : Sg) : Option Sg :=
  ck (okO σ v0 11) <|
  ck (¬ gR σ v0 10 = 0) <|
  nm (gR σ v0 10) fun r124 =>
  ck (okA σ r124 13 v2) <|
  nm (gI σ r124 v2.toNatClampNeg) fun x126 =>
  ck (¬ gR σ v0 11 = 0) <|
  nm (gR σ v0 11) fun r128 =>
  ck (okA σ r128 13 v2) <|
  nm (gI σ r128 v2.toNatClampNeg) fun x130 =>
  ck (¬ gR σ v0 12 = 0) <|
  nm (gR σ v0 12) fun r132 =>
  ck (okA σ r132 13 v2) <|
  nm (gI σ r132 v2.toNatClampNeg) fun x134 =>
  nm (((8 : Int32) * (gI σ v0 16)) + x126) fun x135 =>
  ck (¬ gR σ v0 9 = 0) <|
  nm (gR σ v0 9) fun r137 =>
  ck (okA σ r137 13 v2) <|
  if (gI σ r137 v2.toNatClampNeg) = 0 then (
    b_X12_does_110 n v0 x126 (0 : Int64) (0 : Int32) σ)
  else (
  if (gI σ r137 v2.toNatClampNeg) = 1 then (
    nm (gR σ v0 9) fun r151 =>
    ck (okA σ r151 13 v2) <|
    if (gI σ r151 v2.toNatClampNeg) = (2 : Int32) then (
      b_X12_does_169 n (1 : Int32) x134 x130 x126 v0 σ)
    else (
      b_X12_does_169 n (0 : Int32) x134 x130 x126 v0 σ))
  else (
  if (gI σ r137 v2.toNatClampNeg) = 2 then (
    nm (gR σ v0 9) fun r158 =>
    ck (okA σ r158 13 v2) <|
    if (gI σ r158 v2.toNatClampNeg) = (2 : Int32) then (
      b_X12_does_169 n (1 : Int32) x134 x130 x126 v0 σ)
    else (
      b_X12_does_169 n (0 : Int32) x134 x130 x126 v0 σ))
  else (
  if (gI σ r137 v2.toNatClampNeg) = 3 then (
    bp (f_X12_rates n v0 x126 x130 x134 σ) fun σ163 =>
    some σ163)
  else (
  if (gI σ r137 v2.toNatClampNeg) = 4 then (
    ck (¬ gR σ v0 19 = 0) <|
    nm (gR σ v0 19) fun r166 =>
    ck (okA σ r166 14 x135) <|
    ck (¬ gR σ v0 20 = 0) <|
    nm (gR σ v0 20) fun r169 =>
    ck (okA σ r169 14 x135) <|
    bp (f_X12_times (gJ σ r166 x135.toNatClampNeg) ((gJ σ r169 x135.toNatClampNeg) * (x134.toInt64)) x130) fun x172 =>
    bd (f_X12_becomesWhole n v0 x126 ((x134.toInt64) * x172) σ) fun x175 σ174 =>
    some σ174)
  else (
  if (gI σ r137 v2.toNatClampNeg) = 5 then (
    bp (f_X12_adds n v0 x126 x130 x134 σ) fun σ178 =>
    some σ178)
  else (
  if (gI σ r137 v2.toNatClampNeg) = 6 then (
    ck (¬ gR σ v0 20 = 0) <|
    nm (gR σ v0 20) fun r181 =>
    ck (okA σ r181 14 x135) <|
    if (gJ σ r181 x135.toNatClampNeg) = (1 : Int64) then (
      ck (¬ gR σ v0 19 = 0) <|
      nm (gR σ v0 19) fun r185 =>
      ck (okA σ r185 14 x135) <|
      bp (f_X12_splits n v0 (gJ σ r185 x135.toNatClampNeg) x130 x134 σ) fun σ188 =>
      ck (okO σ188 v0 11) <|
      nm (pI σ188 v0 27 (1 : Int32)) fun σ190 =>
      ck (okO σ190 v0 11) <|
      ck (¬ gR σ190 v0 26 = 0) <|
      nm (gR σ190 v0 26) fun r193 =>
      ck (okA σ190 r193 15 x135) <|
      ck ((gI σ190 r193 x135.toNatClampNeg) = 0 ∨ (gI σ190 r193 x135.toNatClampNeg) = 1) <|
      nm (pI σ190 v0 28 (gI σ190 r193 x135.toNatClampNeg)) fun σ196 =>
      ck (okO σ196 v0 11) <|
      ck (¬ gR σ196 v0 19 = 0) <|
      nm (gR σ196 v0 19) fun r199 =>
      ck (okA σ196 r199 14 x135) <|
      nm (pJ σ196 v0 29 (gJ σ196 r199 x135.toNatClampNeg)) fun σ201 =>
      ck (okO σ201 v0 11) <|
      nm (pI σ201 v0 30 x134) fun σ203 =>
      some σ203)
    else (
      nm (pI σ v0 32 (-5 : Int32)) fun σ204 =>
      some σ204))
  else (
  if (gI σ r137 v2.toNatClampNeg) = 7 then (
    ck (¬ gR σ v0 21 = 0) <|
    nm (gR σ v0 21) fun r207 =>
    ck (okA σ r207 14 (((8 : Int32) * (gI σ v0 16)) + x130)) <|
    bd (f_X12_becomesWhole n v0 x126 (gJ σ r207 (((8 : Int32) * (gI σ v0 16)) + x130).toNatClampNeg) σ) fun x211 σ210 =>
    if x211 = 0 then (
      some σ210)
    else (
      ck (okO σ210 v0 11) <|
      ck (¬ gR σ210 v0 26 = 0) <|
      nm (gR σ210 v0 26) fun r215 =>
      ck ((gI σ210 v0 28) = 0 ∨ (gI σ210 v0 28) = 1) <|
      ck (okW σ210 r215 15 x135) <|
      nm (pI σ210 r215 x135.toNatClampNeg (gI σ210 v0 28)) fun σ218 =>
      some σ218))
  else (
  if (gI σ r137 v2.toNatClampNeg) = 8 then (
    bp (f_X12_carries n v0 x126 v1 σ) fun σ221 =>
    some σ221)
  else (
  if (gI σ r137 v2.toNatClampNeg) = 9 then (
    bp (f_X12_caps v0 x126 x130 (x134.toInt64) σ) fun σ224 =>
    some σ224)
  else (
  if (gI σ r137 v2.toNatClampNeg) = 10 then (
    bp (f_X12_books v0 x126 x130 x134 σ) fun σ227 =>
    some σ227)
  else (
  if (gI σ r137 v2.toNatClampNeg) = 11 then (
    ck (¬ gR σ v0 19 = 0) <|
    nm (gR σ v0 19) fun r230 =>
    ck (okA σ r230 14 (((8 : Int32) * (gI σ v0 16)) + x130)) <|
    ck (¬ gR σ v0 20 = 0) <|
    nm (gR σ v0 20) fun r233 =>
    ck (okA σ r233 14 (((8 : Int32) * (gI σ v0 16)) + x130)) <|
    bp (f_X12_times (gJ σ r230 (((8 : Int32) * (gI σ v0 16)) + x130).toNatClampNeg) (gJ σ r233 (((8 : Int32) * (gI σ v0 16)) + x130).toNatClampNeg) x134) fun x236 =>
    bd (f_X12_becomesWhole n v0 x126 x236 σ) fun x239 σ238 =>
    if x239 = 0 then (
      some σ238)
    else (
      ck (okO σ238 v0 11) <|
      ck (¬ gR σ238 v0 26 = 0) <|
      nm (gR σ238 v0 26) fun r243 =>
      ck (okW σ238 r243 15 x135) <|
      nm (pI σ238 r243 x135.toNatClampNeg (1 : Int32)) fun σ245 =>
      some σ245))
  else (
    bp (f_X12_days n v0 x126 x130 x134 σ) fun σ247 =>
    some σ247))))))))))))
set_option maxRecDepth 20000 in
theorem t_X12_does {G : Gl} {σr : Sg} {n : Nat} {v0 : Nat} {v1 : Int32} {v2 : Int32} {σ : Sg} (h : f_X12_does n v0 v1 v2 σ = some σr) : MT G M_X12_does [.ref v0, .int v1, .int v2] σ none σr := by
  refine MT_of rfl rfl (Nat.le_of_ble_eq_true rfl) ?_
  show RN G M_X12_does 0 [some (.ref v0), some (.int v1), some (.int v2)] [] σ (.inl none) σr
  unfold f_X12_does at h
  refine RN_aload_n (pc := 0) (k := 0) (by decide +kernel) rfl rfl ?_
  obtain ⟨c122, h⟩ := ck_el h
  obtain ⟨c123, h⟩ := ck_el h
  refine RN_getR (pc := 1) (idx := 31) (ci := 11) (k := 10) (by decide +kernel) lf_RX12_31 rfl c122 c123 ?_
  obtain ⟨r124, er124, h⟩ := nm_el h
  refine RN_nmR er124 ?_
  refine RN_iload_n (pc := 4) (k := 2) (by decide +kernel) rfl rfl ?_
  obtain ⟨c125, h⟩ := ck_el h
  refine RN_iald (pc := 5) (by decide +kernel) c125 ?_
  obtain ⟨x126, ex126, h⟩ := nm_el h
  refine RN_nmI ex126 ?_
  refine RN_istore_n (pc := 6) (k := 3) (ls2 := [some (.ref v0), some (.int v1), some (.int v2), some (.int x126)]) (by decide +kernel) rfl (by decide) rfl ?_
  refine RN_aload_n (pc := 7) (k := 0) (by decide +kernel) rfl rfl ?_
  obtain ⟨c127, h⟩ := ck_el h
  refine RN_getR (pc := 8) (idx := 34) (ci := 11) (k := 11) (by decide +kernel) lf_RX12_34 rfl c122 c127 ?_
  obtain ⟨r128, er128, h⟩ := nm_el h
  refine RN_nmR er128 ?_
  refine RN_iload_n (pc := 11) (k := 2) (by decide +kernel) rfl rfl ?_
  obtain ⟨c129, h⟩ := ck_el h
  refine RN_iald (pc := 12) (by decide +kernel) c129 ?_
  obtain ⟨x130, ex130, h⟩ := nm_el h
  refine RN_nmI ex130 ?_
  refine RN_istore (pc := 13) (i := 4) (ls2 := [some (.ref v0), some (.int v1), some (.int v2), some (.int x126), some (.int x130)]) (by decide +kernel) (by decide) rfl ?_
  refine RN_aload_n (pc := 15) (k := 0) (by decide +kernel) rfl rfl ?_
  obtain ⟨c131, h⟩ := ck_el h
  refine RN_getR (pc := 16) (idx := 37) (ci := 11) (k := 12) (by decide +kernel) lf_RX12_37 rfl c122 c131 ?_
  obtain ⟨r132, er132, h⟩ := nm_el h
  refine RN_nmR er132 ?_
  refine RN_iload_n (pc := 19) (k := 2) (by decide +kernel) rfl rfl ?_
  obtain ⟨c133, h⟩ := ck_el h
  refine RN_iald (pc := 20) (by decide +kernel) c133 ?_
  obtain ⟨x134, ex134, h⟩ := nm_el h
  refine RN_nmI ex134 ?_
  refine RN_istore (pc := 21) (i := 5) (ls2 := [some (.ref v0), some (.int v1), some (.int v2), some (.int x126), some (.int x130), some (.int x134)]) (by decide +kernel) (by decide) rfl ?_
  refine RN_bipush (pc := 23) (n := 8) (v := 8) (by decide +kernel) (by decide) ?_
  refine RN_aload_n (pc := 25) (k := 0) (by decide +kernel) rfl rfl ?_
  refine RN_getI (pc := 26) (idx := 146) (ci := 11) (k := 16) (by decide +kernel) lf_RX12_146 (Or.inl rfl) c122 ?_
  refine RN_imul (pc := 29) (by decide +kernel) ?_
  refine RN_iload_n (pc := 30) (k := 3) (by decide +kernel) rfl rfl ?_
  refine RN_iadd (pc := 31) (by decide +kernel) ?_
  obtain ⟨x135, ex135, h⟩ := nm_el h
  refine RN_nmI ex135 ?_
  refine RN_istore (pc := 32) (i := 6) (ls2 := [some (.ref v0), some (.int v1), some (.int v2), some (.int x126), some (.int x130), some (.int x134), some (.int x135)]) (by decide +kernel) (by decide) rfl ?_
  refine RN_aload_n (pc := 34) (k := 0) (by decide +kernel) rfl rfl ?_
  obtain ⟨c136, h⟩ := ck_el h
  refine RN_getR (pc := 35) (idx := 28) (ci := 11) (k := 9) (by decide +kernel) lf_RX12_28 rfl c122 c136 ?_
  obtain ⟨r137, er137, h⟩ := nm_el h
  refine RN_nmR er137 ?_
  refine RN_iload_n (pc := 38) (k := 2) (by decide +kernel) rfl rfl ?_
  obtain ⟨c138, h⟩ := ck_el h
  refine RN_iald (pc := 39) (by decide +kernel) c138 ?_
  by_cases c139 : (gI σ r137 v2.toNatClampNeg) = 0
  · replace h := it_t c139 h
    refine RN_tsw (pc := 40) (dflt := 393) (lo := 0) (hi := 11) (offs := #[64, 108, 108, 135, 147, 184, 196, 268, 305, 314, 327, 339]) (len := 64) (v := 0) (off := 64) (tgt := 104) c139 (by decide +kernel) (by decide) (by decide) (by decide +kernel) (by decide) ?_
    refine RN_lconst (pc := 104) (n := 0) (v := 0) (by decide +kernel) (by decide) ?_
    refine RN_lstore (pc := 105) (i := 7) (ls2 := [some (.ref v0), some (.int v1), some (.int v2), some (.int x126), some (.int x130), some (.int x134), some (.int x135), some (.long (0 : Int64)), none]) (by decide +kernel) (by decide) rfl ?_
    refine RN_iconst (pc := 107) (n := 0) (v := 0) (by decide +kernel) (by decide) ?_
    refine RN_istore (pc := 108) (i := 9) (ls2 := [some (.ref v0), some (.int v1), some (.int v2), some (.int x126), some (.int x130), some (.int x134), some (.int x135), some (.long (0 : Int64)), none, some (.int (0 : Int32))]) (by decide +kernel) (by decide) rfl ?_
    exact RN_weak (l := [some (.ref v0), none, none, some (.int x126), none, none, none, some (.long (0 : Int64)), none, some (.int (0 : Int32))]) (And.intro rfl (And.intro rfl (And.intro rfl (And.intro rfl trivial)))) (tb_X12_does_110 v0 x126 σ n (0 : Int64) (0 : Int32) h)
  · replace h := it_f c139 h
    by_cases c150 : (gI σ r137 v2.toNatClampNeg) = 1
    · replace h := it_t c150 h
      refine RN_tsw (pc := 40) (dflt := 393) (lo := 0) (hi := 11) (offs := #[64, 108, 108, 135, 147, 184, 196, 268, 305, 314, 327, 339]) (len := 64) (v := 1) (off := 108) (tgt := 148) c150 (by decide +kernel) (by decide) (by decide) (by decide +kernel) (by decide) ?_
      refine RN_aload_n (pc := 148) (k := 0) (by decide +kernel) rfl rfl ?_
      refine RN_iload_n (pc := 149) (k := 3) (by decide +kernel) rfl rfl ?_
      refine RN_iload (pc := 150) (i := 4) (by decide +kernel) rfl ?_
      refine RN_iload (pc := 152) (i := 5) (by decide +kernel) rfl ?_
      refine RN_aload_n (pc := 154) (k := 0) (by decide +kernel) rfl rfl ?_
      refine RN_getR (pc := 155) (idx := 28) (ci := 11) (k := 9) (by decide +kernel) lf_RX12_28 rfl c122 c136 ?_
      obtain ⟨r151, er151, h⟩ := nm_el h
      refine RN_nmR er151 ?_
      refine RN_iload_n (pc := 158) (k := 2) (by decide +kernel) rfl rfl ?_
      obtain ⟨c152, h⟩ := ck_el h
      refine RN_iald (pc := 159) (by decide +kernel) c152 ?_
      refine RN_iconst (pc := 160) (n := 2) (v := 2) (by decide +kernel) (by decide) ?_
      refine RN_icmp_ne (pc := 161) (off := 7) (tgt := 168) (by decide +kernel) (by decide) (fun c153 => ?_) (fun c153 => ?_)
      · replace h := it_f c153 h
        refine RN_iconst (pc := 168) (n := 0) (v := 0) (by decide +kernel) (by decide) ?_
        exact RN_weak (l := []) trivial (tb_X12_does_169 n (0 : Int32) x134 x130 x126 v0 σ h)
      · replace h := it_t c153 h
        refine RN_iconst (pc := 164) (n := 1) (v := 1) (by decide +kernel) (by decide) ?_
        refine RN_goto (pc := 165) (off := 4) (tgt := 169) (by decide +kernel) (by decide) ?_
        exact RN_weak (l := []) trivial (tb_X12_does_169 n (1 : Int32) x134 x130 x126 v0 σ h)
    · replace h := it_f c150 h
      by_cases c157 : (gI σ r137 v2.toNatClampNeg) = 2
      · replace h := it_t c157 h
        refine RN_tsw (pc := 40) (dflt := 393) (lo := 0) (hi := 11) (offs := #[64, 108, 108, 135, 147, 184, 196, 268, 305, 314, 327, 339]) (len := 64) (v := 2) (off := 108) (tgt := 148) c157 (by decide +kernel) (by decide) (by decide) (by decide +kernel) (by decide) ?_
        refine RN_aload_n (pc := 148) (k := 0) (by decide +kernel) rfl rfl ?_
        refine RN_iload_n (pc := 149) (k := 3) (by decide +kernel) rfl rfl ?_
        refine RN_iload (pc := 150) (i := 4) (by decide +kernel) rfl ?_
        refine RN_iload (pc := 152) (i := 5) (by decide +kernel) rfl ?_
        refine RN_aload_n (pc := 154) (k := 0) (by decide +kernel) rfl rfl ?_
        refine RN_getR (pc := 155) (idx := 28) (ci := 11) (k := 9) (by decide +kernel) lf_RX12_28 rfl c122 c136 ?_
        obtain ⟨r158, er158, h⟩ := nm_el h
        refine RN_nmR er158 ?_
        refine RN_iload_n (pc := 158) (k := 2) (by decide +kernel) rfl rfl ?_
        obtain ⟨c159, h⟩ := ck_el h
        refine RN_iald (pc := 159) (by decide +kernel) c159 ?_
        refine RN_iconst (pc := 160) (n := 2) (v := 2) (by decide +kernel) (by decide) ?_
        refine RN_icmp_ne (pc := 161) (off := 7) (tgt := 168) (by decide +kernel) (by decide) (fun c160 => ?_) (fun c160 => ?_)
        · replace h := it_f c160 h
          refine RN_iconst (pc := 168) (n := 0) (v := 0) (by decide +kernel) (by decide) ?_
          exact RN_weak (l := []) trivial (tb_X12_does_169 n (0 : Int32) x134 x130 x126 v0 σ h)
        · replace h := it_t c160 h
          refine RN_iconst (pc := 164) (n := 1) (v := 1) (by decide +kernel) (by decide) ?_
          refine RN_goto (pc := 165) (off := 4) (tgt := 169) (by decide +kernel) (by decide) ?_
          exact RN_weak (l := []) trivial (tb_X12_does_169 n (1 : Int32) x134 x130 x126 v0 σ h)
      · replace h := it_f c157 h
        by_cases c161 : (gI σ r137 v2.toNatClampNeg) = 3
        · replace h := it_t c161 h
          refine RN_tsw (pc := 40) (dflt := 393) (lo := 0) (hi := 11) (offs := #[64, 108, 108, 135, 147, 184, 196, 268, 305, 314, 327, 339]) (len := 64) (v := 3) (off := 135) (tgt := 175) c161 (by decide +kernel) (by decide) (by decide) (by decide +kernel) (by decide) ?_
          refine RN_aload_n (pc := 175) (k := 0) (by decide +kernel) rfl rfl ?_
          refine RN_iload_n (pc := 176) (k := 3) (by decide +kernel) rfl rfl ?_
          refine RN_iload (pc := 177) (i := 4) (by decide +kernel) rfl ?_
          refine RN_iload (pc := 179) (i := 5) (by decide +kernel) rfl ?_
          obtain ⟨σ163, f162, h⟩ := bp_el h
          refine RN_callV (M := M_X12_does) (pc := 181) (idx := 242) (as := [.int x126, .int x130, .int x134]) (st := []) (t_X12_rates f162) (by decide +kernel) lk_RX12_242 rfl ⟨by decide, fun q hq => by cases hq; rfl⟩ c122 (Nat.le_of_ble_eq_true rfl) ⟨Nat.le_of_ble_eq_true rfl, Nat.le_of_ble_eq_true rfl⟩ rfl ?_
          show RN G M_X12_does 184 [some (.ref v0), some (.int v1), some (.int v2), some (.int x126), some (.int x130), some (.int x134), some (.int x135)] [] σ163 _ _
          refine RN_goto (pc := 184) (off := 258) (tgt := 442) (by decide +kernel) (by decide) ?_
          obtain rfl := some_el h
          exact RN_return (by decide +kernel) rfl
        · replace h := it_f c161 h
          by_cases c164 : (gI σ r137 v2.toNatClampNeg) = 4
          · replace h := it_t c164 h
            refine RN_tsw (pc := 40) (dflt := 393) (lo := 0) (hi := 11) (offs := #[64, 108, 108, 135, 147, 184, 196, 268, 305, 314, 327, 339]) (len := 64) (v := 4) (off := 147) (tgt := 187) c164 (by decide +kernel) (by decide) (by decide) (by decide +kernel) (by decide) ?_
            refine RN_aload_n (pc := 187) (k := 0) (by decide +kernel) rfl rfl ?_
            refine RN_iload_n (pc := 188) (k := 3) (by decide +kernel) rfl rfl ?_
            refine RN_iload (pc := 189) (i := 5) (by decide +kernel) rfl ?_
            refine RN_i2l (pc := 191) (by decide +kernel) ?_
            refine RN_aload_n (pc := 192) (k := 0) (by decide +kernel) rfl rfl ?_
            obtain ⟨c165, h⟩ := ck_el h
            refine RN_getR (pc := 193) (idx := 47) (ci := 11) (k := 19) (by decide +kernel) lf_RX12_47 rfl c122 c165 ?_
            obtain ⟨r166, er166, h⟩ := nm_el h
            refine RN_nmR er166 ?_
            refine RN_iload (pc := 196) (i := 6) (by decide +kernel) rfl ?_
            obtain ⟨c167, h⟩ := ck_el h
            refine RN_lald (pc := 198) (by decide +kernel) c167 ?_
            refine RN_aload_n (pc := 199) (k := 0) (by decide +kernel) rfl rfl ?_
            obtain ⟨c168, h⟩ := ck_el h
            refine RN_getR (pc := 200) (idx := 51) (ci := 11) (k := 20) (by decide +kernel) lf_RX12_51 rfl c122 c168 ?_
            obtain ⟨r169, er169, h⟩ := nm_el h
            refine RN_nmR er169 ?_
            refine RN_iload (pc := 203) (i := 6) (by decide +kernel) rfl ?_
            obtain ⟨c170, h⟩ := ck_el h
            refine RN_lald (pc := 205) (by decide +kernel) c170 ?_
            refine RN_iload (pc := 206) (i := 5) (by decide +kernel) rfl ?_
            refine RN_i2l (pc := 208) (by decide +kernel) ?_
            refine RN_lmul (pc := 209) (by decide +kernel) ?_
            refine RN_iload (pc := 210) (i := 4) (by decide +kernel) rfl ?_
            obtain ⟨x172, f171, h⟩ := bp_el h
            refine RN_callS (M := M_X12_does) (pc := 212) (idx := 212) (as := [.long (gJ σ r166 x135.toNatClampNeg), .long ((gJ σ r169 x135.toNatClampNeg) * (x134.toInt64)), .int x130]) (st := [.long (x134.toInt64), .int x126, .ref v0]) (t_X12_times f171) (by decide +kernel) lk_RX12_212 rfl (Nat.le_of_ble_eq_true rfl) ⟨Nat.le_of_ble_eq_true rfl, Nat.le_of_ble_eq_true rfl⟩ rfl ?_
            show RN G M_X12_does 215 [some (.ref v0), some (.int v1), some (.int v2), some (.int x126), some (.int x130), some (.int x134), some (.int x135)] [.long x172, .long (x134.toInt64), .int x126, .ref v0] σ _ _
            refine RN_lmul (pc := 215) (by decide +kernel) ?_
            obtain ⟨x175, σ174, f173, h⟩ := bd_el h
            refine RN_callV (M := M_X12_does) (pc := 216) (idx := 205) (as := [.int x126, .long ((x134.toInt64) * x172)]) (st := []) (t_X12_becomesWhole f173) (by decide +kernel) lk_RX12_205 rfl ⟨by decide, fun q hq => by cases hq; rfl⟩ c122 (Nat.le_of_ble_eq_true rfl) ⟨Nat.le_of_ble_eq_true rfl, Nat.le_of_ble_eq_true rfl⟩ rfl ?_
            show RN G M_X12_does 219 [some (.ref v0), some (.int v1), some (.int v2), some (.int x126), some (.int x130), some (.int x134), some (.int x135)] [.int x175] σ174 _ _
            refine RN_istore (pc := 219) (i := 9) (ls2 := [some (.ref v0), some (.int v1), some (.int v2), some (.int x126), some (.int x130), some (.int x134), some (.int x135), none, none, some (.int x175)]) (by decide +kernel) (by decide) rfl ?_
            refine RN_goto (pc := 221) (off := 221) (tgt := 442) (by decide +kernel) (by decide) ?_
            obtain rfl := some_el h
            exact RN_return (by decide +kernel) rfl
          · replace h := it_f c164 h
            by_cases c176 : (gI σ r137 v2.toNatClampNeg) = 5
            · replace h := it_t c176 h
              refine RN_tsw (pc := 40) (dflt := 393) (lo := 0) (hi := 11) (offs := #[64, 108, 108, 135, 147, 184, 196, 268, 305, 314, 327, 339]) (len := 64) (v := 5) (off := 184) (tgt := 224) c176 (by decide +kernel) (by decide) (by decide) (by decide +kernel) (by decide) ?_
              refine RN_aload_n (pc := 224) (k := 0) (by decide +kernel) rfl rfl ?_
              refine RN_iload_n (pc := 225) (k := 3) (by decide +kernel) rfl rfl ?_
              refine RN_iload (pc := 226) (i := 4) (by decide +kernel) rfl ?_
              refine RN_iload (pc := 228) (i := 5) (by decide +kernel) rfl ?_
              obtain ⟨σ178, f177, h⟩ := bp_el h
              refine RN_callV (M := M_X12_does) (pc := 230) (idx := 246) (as := [.int x126, .int x130, .int x134]) (st := []) (t_X12_adds f177) (by decide +kernel) lk_RX12_246 rfl ⟨by decide, fun q hq => by cases hq; rfl⟩ c122 (Nat.le_of_ble_eq_true rfl) ⟨Nat.le_of_ble_eq_true rfl, Nat.le_of_ble_eq_true rfl⟩ rfl ?_
              show RN G M_X12_does 233 [some (.ref v0), some (.int v1), some (.int v2), some (.int x126), some (.int x130), some (.int x134), some (.int x135)] [] σ178 _ _
              refine RN_goto (pc := 233) (off := 209) (tgt := 442) (by decide +kernel) (by decide) ?_
              obtain rfl := some_el h
              exact RN_return (by decide +kernel) rfl
            · replace h := it_f c176 h
              by_cases c179 : (gI σ r137 v2.toNatClampNeg) = 6
              · replace h := it_t c179 h
                refine RN_tsw (pc := 40) (dflt := 393) (lo := 0) (hi := 11) (offs := #[64, 108, 108, 135, 147, 184, 196, 268, 305, 314, 327, 339]) (len := 64) (v := 6) (off := 196) (tgt := 236) c179 (by decide +kernel) (by decide) (by decide) (by decide +kernel) (by decide) ?_
                refine RN_aload_n (pc := 236) (k := 0) (by decide +kernel) rfl rfl ?_
                obtain ⟨c180, h⟩ := ck_el h
                refine RN_getR (pc := 237) (idx := 51) (ci := 11) (k := 20) (by decide +kernel) lf_RX12_51 rfl c122 c180 ?_
                obtain ⟨r181, er181, h⟩ := nm_el h
                refine RN_nmR er181 ?_
                refine RN_iload (pc := 240) (i := 6) (by decide +kernel) rfl ?_
                obtain ⟨c182, h⟩ := ck_el h
                refine RN_lald (pc := 242) (by decide +kernel) c182 ?_
                refine RN_lconst (pc := 243) (n := 1) (v := 1) (by decide +kernel) (by decide) ?_
                refine RN_lc_eq (pc := 244) (off := 12) (tgt := 257) (by decide +kernel) (by decide +kernel) (by decide) (fun c183 => ?_) (fun c183 => ?_)
                · replace h := it_t c183 h
                  refine RN_aload_n (pc := 257) (k := 0) (by decide +kernel) rfl rfl ?_
                  refine RN_aload_n (pc := 258) (k := 0) (by decide +kernel) rfl rfl ?_
                  obtain ⟨c184, h⟩ := ck_el h
                  refine RN_getR (pc := 259) (idx := 47) (ci := 11) (k := 19) (by decide +kernel) lf_RX12_47 rfl c122 c184 ?_
                  obtain ⟨r185, er185, h⟩ := nm_el h
                  refine RN_nmR er185 ?_
                  refine RN_iload (pc := 262) (i := 6) (by decide +kernel) rfl ?_
                  obtain ⟨c186, h⟩ := ck_el h
                  refine RN_lald (pc := 264) (by decide +kernel) c186 ?_
                  refine RN_iload (pc := 265) (i := 4) (by decide +kernel) rfl ?_
                  refine RN_iload (pc := 267) (i := 5) (by decide +kernel) rfl ?_
                  obtain ⟨σ188, f187, h⟩ := bp_el h
                  refine RN_callV (M := M_X12_does) (pc := 269) (idx := 249) (as := [.long (gJ σ r185 x135.toNatClampNeg), .int x130, .int x134]) (st := []) (t_X12_splits f187) (by decide +kernel) lk_RX12_249 rfl ⟨by decide, fun q hq => by cases hq; rfl⟩ c122 (Nat.le_of_ble_eq_true rfl) ⟨Nat.le_of_ble_eq_true rfl, Nat.le_of_ble_eq_true rfl⟩ rfl ?_
                  show RN G M_X12_does 272 [some (.ref v0), some (.int v1), some (.int v2), some (.int x126), some (.int x130), some (.int x134), some (.int x135)] [] σ188 _ _
                  refine RN_aload_n (pc := 272) (k := 0) (by decide +kernel) rfl rfl ?_
                  refine RN_iconst (pc := 273) (n := 1) (v := 1) (by decide +kernel) (by decide) ?_
                  obtain ⟨c189, h⟩ := ck_el h
                  refine RN_putZ (pc := 274) (idx := 152) (ci := 11) (k := 27) (by decide +kernel) lf_RX12_152 rfl (fun q hq => by cases hq; exact Or.inl rfl) (Or.inr rfl) c189 ?_
                  obtain ⟨σ190, eσ190, h⟩ := nm_el h
                  refine RN_nmS eσ190 ?_
                  refine RN_aload_n (pc := 277) (k := 0) (by decide +kernel) rfl rfl ?_
                  refine RN_aload_n (pc := 278) (k := 0) (by decide +kernel) rfl rfl ?_
                  obtain ⟨c191, h⟩ := ck_el h
                  obtain ⟨c192, h⟩ := ck_el h
                  refine RN_getR (pc := 279) (idx := 69) (ci := 11) (k := 26) (by decide +kernel) lf_RX12_69 rfl c191 c192 ?_
                  obtain ⟨r193, er193, h⟩ := nm_el h
                  refine RN_nmR er193 ?_
                  refine RN_iload (pc := 282) (i := 6) (by decide +kernel) rfl ?_
                  obtain ⟨c194, h⟩ := ck_el h
                  refine RN_zald (pc := 284) (by decide +kernel) c194 ?_
                  obtain ⟨c195, h⟩ := ck_el h
                  refine RN_putZ (pc := 285) (idx := 156) (ci := 11) (k := 28) (by decide +kernel) lf_RX12_156 rfl (fun q hq => by cases hq; exact Or.inl rfl) c195 c191 ?_
                  obtain ⟨σ196, eσ196, h⟩ := nm_el h
                  refine RN_nmS eσ196 ?_
                  refine RN_aload_n (pc := 288) (k := 0) (by decide +kernel) rfl rfl ?_
                  refine RN_aload_n (pc := 289) (k := 0) (by decide +kernel) rfl rfl ?_
                  obtain ⟨c197, h⟩ := ck_el h
                  obtain ⟨c198, h⟩ := ck_el h
                  refine RN_getR (pc := 290) (idx := 47) (ci := 11) (k := 19) (by decide +kernel) lf_RX12_47 rfl c197 c198 ?_
                  obtain ⟨r199, er199, h⟩ := nm_el h
                  refine RN_nmR er199 ?_
                  refine RN_iload (pc := 293) (i := 6) (by decide +kernel) rfl ?_
                  obtain ⟨c200, h⟩ := ck_el h
                  refine RN_lald (pc := 295) (by decide +kernel) c200 ?_
                  refine RN_putJ (pc := 296) (idx := 253) (ci := 11) (k := 29) (by decide +kernel) lf_RX12_253 rfl (fun q hq => by cases hq; exact Or.inl rfl) c197 ?_
                  obtain ⟨σ201, eσ201, h⟩ := nm_el h
                  refine RN_nmS eσ201 ?_
                  refine RN_aload_n (pc := 299) (k := 0) (by decide +kernel) rfl rfl ?_
                  refine RN_iload (pc := 300) (i := 5) (by decide +kernel) rfl ?_
                  obtain ⟨c202, h⟩ := ck_el h
                  refine RN_putI (pc := 302) (idx := 257) (ci := 11) (k := 30) (by decide +kernel) lf_RX12_257 rfl (fun q hq => by cases hq; exact Or.inl rfl) c202 ?_
                  obtain ⟨σ203, eσ203, h⟩ := nm_el h
                  refine RN_nmS eσ203 ?_
                  refine RN_goto (pc := 305) (off := 137) (tgt := 442) (by decide +kernel) (by decide) ?_
                  obtain rfl := some_el h
                  exact RN_return (by decide +kernel) rfl
                · replace h := it_f c183 h
                  refine RN_aload_n (pc := 248) (k := 0) (by decide +kernel) rfl rfl ?_
                  refine RN_bipush (pc := 249) (n := -5) (v := -5) (by decide +kernel) (by decide) ?_
                  refine RN_putI (pc := 251) (idx := 198) (ci := 11) (k := 32) (by decide +kernel) lf_RX12_198 rfl (fun q hq => by cases hq; exact Or.inl rfl) c122 ?_
                  obtain ⟨σ204, eσ204, h⟩ := nm_el h
                  refine RN_nmS eσ204 ?_
                  refine RN_goto (pc := 254) (off := 188) (tgt := 442) (by decide +kernel) (by decide) ?_
                  obtain rfl := some_el h
                  exact RN_return (by decide +kernel) rfl
              · replace h := it_f c179 h
                by_cases c205 : (gI σ r137 v2.toNatClampNeg) = 7
                · replace h := it_t c205 h
                  refine RN_tsw (pc := 40) (dflt := 393) (lo := 0) (hi := 11) (offs := #[64, 108, 108, 135, 147, 184, 196, 268, 305, 314, 327, 339]) (len := 64) (v := 7) (off := 268) (tgt := 308) c205 (by decide +kernel) (by decide) (by decide) (by decide +kernel) (by decide) ?_
                  refine RN_aload_n (pc := 308) (k := 0) (by decide +kernel) rfl rfl ?_
                  refine RN_iload_n (pc := 309) (k := 3) (by decide +kernel) rfl rfl ?_
                  refine RN_aload_n (pc := 310) (k := 0) (by decide +kernel) rfl rfl ?_
                  obtain ⟨c206, h⟩ := ck_el h
                  refine RN_getR (pc := 311) (idx := 54) (ci := 11) (k := 21) (by decide +kernel) lf_RX12_54 rfl c122 c206 ?_
                  obtain ⟨r207, er207, h⟩ := nm_el h
                  refine RN_nmR er207 ?_
                  refine RN_bipush (pc := 314) (n := 8) (v := 8) (by decide +kernel) (by decide) ?_
                  refine RN_aload_n (pc := 316) (k := 0) (by decide +kernel) rfl rfl ?_
                  refine RN_getI (pc := 317) (idx := 146) (ci := 11) (k := 16) (by decide +kernel) lf_RX12_146 (Or.inl rfl) c122 ?_
                  refine RN_imul (pc := 320) (by decide +kernel) ?_
                  refine RN_iload (pc := 321) (i := 4) (by decide +kernel) rfl ?_
                  refine RN_iadd (pc := 323) (by decide +kernel) ?_
                  obtain ⟨c208, h⟩ := ck_el h
                  refine RN_lald (pc := 324) (by decide +kernel) c208 ?_
                  obtain ⟨x211, σ210, f209, h⟩ := bd_el h
                  refine RN_callV (M := M_X12_does) (pc := 325) (idx := 205) (as := [.int x126, .long (gJ σ r207 (((8 : Int32) * (gI σ v0 16)) + x130).toNatClampNeg)]) (st := []) (t_X12_becomesWhole f209) (by decide +kernel) lk_RX12_205 rfl ⟨by decide, fun q hq => by cases hq; rfl⟩ c122 (Nat.le_of_ble_eq_true rfl) ⟨Nat.le_of_ble_eq_true rfl, Nat.le_of_ble_eq_true rfl⟩ rfl ?_
                  show RN G M_X12_does 328 [some (.ref v0), some (.int v1), some (.int v2), some (.int x126), some (.int x130), some (.int x134), some (.int x135)] [.int x211] σ210 _ _
                  refine RN_if_eq (pc := 328) (off := 114) (tgt := 442) (by decide +kernel) (by decide) (fun c212 => ?_) (fun c212 => ?_)
                  · replace h := it_t c212 h
                    obtain rfl := some_el h
                    exact RN_return (by decide +kernel) rfl
                  · replace h := it_f c212 h
                    refine RN_aload_n (pc := 331) (k := 0) (by decide +kernel) rfl rfl ?_
                    obtain ⟨c213, h⟩ := ck_el h
                    obtain ⟨c214, h⟩ := ck_el h
                    refine RN_getR (pc := 332) (idx := 69) (ci := 11) (k := 26) (by decide +kernel) lf_RX12_69 rfl c213 c214 ?_
                    obtain ⟨r215, er215, h⟩ := nm_el h
                    refine RN_nmR er215 ?_
                    refine RN_iload (pc := 335) (i := 6) (by decide +kernel) rfl ?_
                    refine RN_aload_n (pc := 337) (k := 0) (by decide +kernel) rfl rfl ?_
                    refine RN_getI (pc := 338) (idx := 156) (ci := 11) (k := 28) (by decide +kernel) lf_RX12_156 (Or.inr rfl) c213 ?_
                    obtain ⟨c216, h⟩ := ck_el h
                    obtain ⟨c217, h⟩ := ck_el h
                    refine RN_zast (pc := 341) (by decide +kernel) c216 c217 ?_
                    obtain ⟨σ218, eσ218, h⟩ := nm_el h
                    refine RN_nmS eσ218 ?_
                    refine RN_goto (pc := 342) (off := 100) (tgt := 442) (by decide +kernel) (by decide) ?_
                    obtain rfl := some_el h
                    exact RN_return (by decide +kernel) rfl
                · replace h := it_f c205 h
                  by_cases c219 : (gI σ r137 v2.toNatClampNeg) = 8
                  · replace h := it_t c219 h
                    refine RN_tsw (pc := 40) (dflt := 393) (lo := 0) (hi := 11) (offs := #[64, 108, 108, 135, 147, 184, 196, 268, 305, 314, 327, 339]) (len := 64) (v := 8) (off := 305) (tgt := 345) c219 (by decide +kernel) (by decide) (by decide) (by decide +kernel) (by decide) ?_
                    refine RN_aload_n (pc := 345) (k := 0) (by decide +kernel) rfl rfl ?_
                    refine RN_iload_n (pc := 346) (k := 3) (by decide +kernel) rfl rfl ?_
                    refine RN_iload_n (pc := 347) (k := 1) (by decide +kernel) rfl rfl ?_
                    obtain ⟨σ221, f220, h⟩ := bp_el h
                    refine RN_callV (M := M_X12_does) (pc := 348) (idx := 260) (as := [.int x126, .int v1]) (st := []) (t_X12_carries f220) (by decide +kernel) lk_RX12_260 rfl ⟨by decide, fun q hq => by cases hq; rfl⟩ c122 (Nat.le_of_ble_eq_true rfl) ⟨Nat.le_of_ble_eq_true rfl, Nat.le_of_ble_eq_true rfl⟩ rfl ?_
                    show RN G M_X12_does 351 [some (.ref v0), some (.int v1), some (.int v2), some (.int x126), some (.int x130), some (.int x134), some (.int x135)] [] σ221 _ _
                    refine RN_goto (pc := 351) (off := 91) (tgt := 442) (by decide +kernel) (by decide) ?_
                    obtain rfl := some_el h
                    exact RN_return (by decide +kernel) rfl
                  · replace h := it_f c219 h
                    by_cases c222 : (gI σ r137 v2.toNatClampNeg) = 9
                    · replace h := it_t c222 h
                      refine RN_tsw (pc := 40) (dflt := 393) (lo := 0) (hi := 11) (offs := #[64, 108, 108, 135, 147, 184, 196, 268, 305, 314, 327, 339]) (len := 64) (v := 9) (off := 314) (tgt := 354) c222 (by decide +kernel) (by decide) (by decide) (by decide +kernel) (by decide) ?_
                      refine RN_aload_n (pc := 354) (k := 0) (by decide +kernel) rfl rfl ?_
                      refine RN_iload_n (pc := 355) (k := 3) (by decide +kernel) rfl rfl ?_
                      refine RN_iload (pc := 356) (i := 4) (by decide +kernel) rfl ?_
                      refine RN_iload (pc := 358) (i := 5) (by decide +kernel) rfl ?_
                      refine RN_i2l (pc := 360) (by decide +kernel) ?_
                      obtain ⟨σ224, f223, h⟩ := bp_el h
                      refine RN_callV (M := M_X12_does) (pc := 361) (idx := 264) (as := [.int x126, .int x130, .long (x134.toInt64)]) (st := []) (t_X12_caps f223) (by decide +kernel) lk_RX12_264 rfl ⟨by decide, fun q hq => by cases hq; rfl⟩ c122 (Nat.le_of_ble_eq_true rfl) ⟨Nat.le_of_ble_eq_true rfl, Nat.le_of_ble_eq_true rfl⟩ rfl ?_
                      show RN G M_X12_does 364 [some (.ref v0), some (.int v1), some (.int v2), some (.int x126), some (.int x130), some (.int x134), some (.int x135)] [] σ224 _ _
                      refine RN_goto (pc := 364) (off := 78) (tgt := 442) (by decide +kernel) (by decide) ?_
                      obtain rfl := some_el h
                      exact RN_return (by decide +kernel) rfl
                    · replace h := it_f c222 h
                      by_cases c225 : (gI σ r137 v2.toNatClampNeg) = 10
                      · replace h := it_t c225 h
                        refine RN_tsw (pc := 40) (dflt := 393) (lo := 0) (hi := 11) (offs := #[64, 108, 108, 135, 147, 184, 196, 268, 305, 314, 327, 339]) (len := 64) (v := 10) (off := 327) (tgt := 367) c225 (by decide +kernel) (by decide) (by decide) (by decide +kernel) (by decide) ?_
                        refine RN_aload_n (pc := 367) (k := 0) (by decide +kernel) rfl rfl ?_
                        refine RN_iload_n (pc := 368) (k := 3) (by decide +kernel) rfl rfl ?_
                        refine RN_iload (pc := 369) (i := 4) (by decide +kernel) rfl ?_
                        refine RN_iload (pc := 371) (i := 5) (by decide +kernel) rfl ?_
                        obtain ⟨σ227, f226, h⟩ := bp_el h
                        refine RN_callV (M := M_X12_does) (pc := 373) (idx := 268) (as := [.int x126, .int x130, .int x134]) (st := []) (t_X12_books f226) (by decide +kernel) lk_RX12_268 rfl ⟨by decide, fun q hq => by cases hq; rfl⟩ c122 (Nat.le_of_ble_eq_true rfl) ⟨Nat.le_of_ble_eq_true rfl, Nat.le_of_ble_eq_true rfl⟩ rfl ?_
                        show RN G M_X12_does 376 [some (.ref v0), some (.int v1), some (.int v2), some (.int x126), some (.int x130), some (.int x134), some (.int x135)] [] σ227 _ _
                        refine RN_goto (pc := 376) (off := 66) (tgt := 442) (by decide +kernel) (by decide) ?_
                        obtain rfl := some_el h
                        exact RN_return (by decide +kernel) rfl
                      · replace h := it_f c225 h
                        by_cases c228 : (gI σ r137 v2.toNatClampNeg) = 11
                        · replace h := it_t c228 h
                          refine RN_tsw (pc := 40) (dflt := 393) (lo := 0) (hi := 11) (offs := #[64, 108, 108, 135, 147, 184, 196, 268, 305, 314, 327, 339]) (len := 64) (v := 11) (off := 339) (tgt := 379) c228 (by decide +kernel) (by decide) (by decide) (by decide +kernel) (by decide) ?_
                          refine RN_aload_n (pc := 379) (k := 0) (by decide +kernel) rfl rfl ?_
                          refine RN_iload_n (pc := 380) (k := 3) (by decide +kernel) rfl rfl ?_
                          refine RN_aload_n (pc := 381) (k := 0) (by decide +kernel) rfl rfl ?_
                          obtain ⟨c229, h⟩ := ck_el h
                          refine RN_getR (pc := 382) (idx := 47) (ci := 11) (k := 19) (by decide +kernel) lf_RX12_47 rfl c122 c229 ?_
                          obtain ⟨r230, er230, h⟩ := nm_el h
                          refine RN_nmR er230 ?_
                          refine RN_bipush (pc := 385) (n := 8) (v := 8) (by decide +kernel) (by decide) ?_
                          refine RN_aload_n (pc := 387) (k := 0) (by decide +kernel) rfl rfl ?_
                          refine RN_getI (pc := 388) (idx := 146) (ci := 11) (k := 16) (by decide +kernel) lf_RX12_146 (Or.inl rfl) c122 ?_
                          refine RN_imul (pc := 391) (by decide +kernel) ?_
                          refine RN_iload (pc := 392) (i := 4) (by decide +kernel) rfl ?_
                          refine RN_iadd (pc := 394) (by decide +kernel) ?_
                          obtain ⟨c231, h⟩ := ck_el h
                          refine RN_lald (pc := 395) (by decide +kernel) c231 ?_
                          refine RN_aload_n (pc := 396) (k := 0) (by decide +kernel) rfl rfl ?_
                          obtain ⟨c232, h⟩ := ck_el h
                          refine RN_getR (pc := 397) (idx := 51) (ci := 11) (k := 20) (by decide +kernel) lf_RX12_51 rfl c122 c232 ?_
                          obtain ⟨r233, er233, h⟩ := nm_el h
                          refine RN_nmR er233 ?_
                          refine RN_bipush (pc := 400) (n := 8) (v := 8) (by decide +kernel) (by decide) ?_
                          refine RN_aload_n (pc := 402) (k := 0) (by decide +kernel) rfl rfl ?_
                          refine RN_getI (pc := 403) (idx := 146) (ci := 11) (k := 16) (by decide +kernel) lf_RX12_146 (Or.inl rfl) c122 ?_
                          refine RN_imul (pc := 406) (by decide +kernel) ?_
                          refine RN_iload (pc := 407) (i := 4) (by decide +kernel) rfl ?_
                          refine RN_iadd (pc := 409) (by decide +kernel) ?_
                          obtain ⟨c234, h⟩ := ck_el h
                          refine RN_lald (pc := 410) (by decide +kernel) c234 ?_
                          refine RN_iload (pc := 411) (i := 5) (by decide +kernel) rfl ?_
                          obtain ⟨x236, f235, h⟩ := bp_el h
                          refine RN_callS (M := M_X12_does) (pc := 413) (idx := 212) (as := [.long (gJ σ r230 (((8 : Int32) * (gI σ v0 16)) + x130).toNatClampNeg), .long (gJ σ r233 (((8 : Int32) * (gI σ v0 16)) + x130).toNatClampNeg), .int x134]) (st := [.int x126, .ref v0]) (t_X12_times f235) (by decide +kernel) lk_RX12_212 rfl (Nat.le_of_ble_eq_true rfl) ⟨Nat.le_of_ble_eq_true rfl, Nat.le_of_ble_eq_true rfl⟩ rfl ?_
                          show RN G M_X12_does 416 [some (.ref v0), some (.int v1), some (.int v2), some (.int x126), some (.int x130), some (.int x134), some (.int x135)] [.long x236, .int x126, .ref v0] σ _ _
                          obtain ⟨x239, σ238, f237, h⟩ := bd_el h
                          refine RN_callV (M := M_X12_does) (pc := 416) (idx := 205) (as := [.int x126, .long x236]) (st := []) (t_X12_becomesWhole f237) (by decide +kernel) lk_RX12_205 rfl ⟨by decide, fun q hq => by cases hq; rfl⟩ c122 (Nat.le_of_ble_eq_true rfl) ⟨Nat.le_of_ble_eq_true rfl, Nat.le_of_ble_eq_true rfl⟩ rfl ?_
                          show RN G M_X12_does 419 [some (.ref v0), some (.int v1), some (.int v2), some (.int x126), some (.int x130), some (.int x134), some (.int x135)] [.int x239] σ238 _ _
                          refine RN_if_eq (pc := 419) (off := 23) (tgt := 442) (by decide +kernel) (by decide) (fun c240 => ?_) (fun c240 => ?_)
                          · replace h := it_t c240 h
                            obtain rfl := some_el h
                            exact RN_return (by decide +kernel) rfl
                          · replace h := it_f c240 h
                            refine RN_aload_n (pc := 422) (k := 0) (by decide +kernel) rfl rfl ?_
                            obtain ⟨c241, h⟩ := ck_el h
                            obtain ⟨c242, h⟩ := ck_el h
                            refine RN_getR (pc := 423) (idx := 69) (ci := 11) (k := 26) (by decide +kernel) lf_RX12_69 rfl c241 c242 ?_
                            obtain ⟨r243, er243, h⟩ := nm_el h
                            refine RN_nmR er243 ?_
                            refine RN_iload (pc := 426) (i := 6) (by decide +kernel) rfl ?_
                            refine RN_iconst (pc := 428) (n := 1) (v := 1) (by decide +kernel) (by decide) ?_
                            obtain ⟨c244, h⟩ := ck_el h
                            refine RN_zast (pc := 429) (by decide +kernel) (Or.inr rfl) c244 ?_
                            obtain ⟨σ245, eσ245, h⟩ := nm_el h
                            refine RN_nmS eσ245 ?_
                            refine RN_goto (pc := 430) (off := 12) (tgt := 442) (by decide +kernel) (by decide) ?_
                            obtain rfl := some_el h
                            exact RN_return (by decide +kernel) rfl
                        · replace h := it_f c228 h
                          refine RN_tableOut (pc := 40) (dflt := 393) (lo := 0) (hi := 11) (offs := #[64, 108, 108, 135, 147, 184, 196, 268, 305, 314, 327, 339]) (len := 64) (tgt := 433) (by decide +kernel) (tsw_s (hi := 10) (hi' := 11) (tsw_s (hi := 9) (hi' := 10) (tsw_s (hi := 8) (hi' := 9) (tsw_s (hi := 7) (hi' := 8) (tsw_s (hi := 6) (hi' := 7) (tsw_s (hi := 5) (hi' := 6) (tsw_s (hi := 4) (hi' := 5) (tsw_s (hi := 3) (hi' := 4) (tsw_s (hi := 2) (hi' := 3) (tsw_s (hi := 1) (hi' := 2) (tsw_s (hi := 0) (hi' := 1) (tsw_s (hi := -1) (hi' := 0) (tsw_0 (0)) (by decide) (by decide) c139) (by decide) (by decide) c150) (by decide) (by decide) c157) (by decide) (by decide) c161) (by decide) (by decide) c164) (by decide) (by decide) c176) (by decide) (by decide) c179) (by decide) (by decide) c205) (by decide) (by decide) c219) (by decide) (by decide) c222) (by decide) (by decide) c225) (by decide) (by decide) c228) (by decide) ?_
                          refine RN_aload_n (pc := 433) (k := 0) (by decide +kernel) rfl rfl ?_
                          refine RN_iload_n (pc := 434) (k := 3) (by decide +kernel) rfl rfl ?_
                          refine RN_iload (pc := 435) (i := 4) (by decide +kernel) rfl ?_
                          refine RN_iload (pc := 437) (i := 5) (by decide +kernel) rfl ?_
                          obtain ⟨σ247, f246, h⟩ := bp_el h
                          refine RN_callV (M := M_X12_does) (pc := 439) (idx := 271) (as := [.int x126, .int x130, .int x134]) (st := []) (t_X12_days f246) (by decide +kernel) lk_RX12_271 rfl ⟨by decide, fun q hq => by cases hq; rfl⟩ c122 (Nat.le_of_ble_eq_true rfl) ⟨Nat.le_of_ble_eq_true rfl, Nat.le_of_ble_eq_true rfl⟩ rfl ?_
                          show RN G M_X12_does 442 [some (.ref v0), some (.int v1), some (.int v2), some (.int x126), some (.int x130), some (.int x134), some (.int x135)] [] σ247 _ _
                          obtain rfl := some_el h
                          exact RN_return (by decide +kernel) rfl
