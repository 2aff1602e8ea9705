section SPLM3
variable {b B p m z : Nat} {lk : Int32} {τ σ : Sg} {s t v : Int32} {X : Int64}
theorem Pf_eq {x S : Int} {W : Nat → Int} {N j : Nat} {rule : Int} (hj : j < N) : Pf x S W N rule j = q0 x S W rule j + (if rule = 0 then rI (fun i => x * W i % S) N (lft x S W rule N).toNat j else if rule = 1 then (if 0 < W j ∧ cnt W j < lft x S W rule N then 1 else 0) else if rule = 2 then (if j = N - 1 then lft x S W rule N else 0) else (if j = 0 then lft x S W rule N else 0)) := by
  unfold Pf; rw [if_neg (by omega)]
theorem Pf_b {x S : Int} {W : Nat → Int} {N j : Nat} {rule : Int} (hN : N ≤ 8) (hS : 1 ≤ S) (hx : -1099511627776 ≤ x) (hx2 : x ≤ 1099511627776) (hW : ∀ j, j < N → 0 ≤ W j ∧ W j ≤ 1000 ∧ W j ≤ S) (hs : isum W N = S) : -2199023255552 ≤ Pf x S W N rule j ∧ Pf x S W N rule j ≤ 2199023255552 := by
  by_cases q : N ≤ j
  · rw [Pf_hi q]; omega
  · rw [Pf_eq (by omega)]
    have qb := q0_b (r := rule) hS hx hx2 (hW j (by omega)).1 (hW j (by omega)).2.2
    have lb := lft_b (x := x) (rule := rule) hs (by omega)
    have r01 := rI_01 (r := fun i => x * W i % S) (N := N) (n := (lft x S W rule N).toNat) (j := j)
    repeat' split
    all_goals omega
theorem splits_v {n : Nat} (hn : 200 ≤ n) (hw : Wm z v τ σ) (hB : B ≤ 1) (hb0 : (gI σ 130 16).toInt = B) (ht : 0 ≤ t.toInt ∧ t.toInt ≤ 3) (hx : -1099511627776 ≤ X.toInt ∧ X.toInt ≤ 1099511627776) :
    ∃ σ', c_X12_splits n X t v σ = some σ' ∧ (∀ j, j < 8 → gJ σ' 144 (8 * B + j) = J (Pf X.toInt (wS τ z) (wW τ z) (wN τ z) t.toInt j)) ∧ (∀ j, ¬ (8 * B ≤ j ∧ j < 8 * B + 8) → gJ σ' 144 j = gJ σ 144 j) ∧ (∀ a, a ≠ 144 → gJ σ' a = gJ σ a) ∧ gI σ' = gI σ ∧ gD σ' = gD σ ∧ Lay σ' = Lay σ := by
  obtain ⟨P, p1, p2⟩ := m_parts hw (n := n) (by omega)
  have sp : Spm B z (wN τ z) X.toInt (wS τ z) (wW τ z) v P X τ σ := ⟨hw, hB, hb0, p2, rfl, rfl, rfl, rfl, hx.1, hx.2⟩
  obtain ⟨k1, k2, k3, k4, k5, k6⟩ := Spm_w sp
  have z0 : (0 : Int32).toNatClampNeg = 0 := rfl
  generalize hN : wN τ z = N at *
  generalize hS : wS τ z = S at *
  generalize hW : wW τ z = W at *
  generalize hX : X.toInt = x at *
  have lb := lft_b (x := x) (rule := t.toInt) k6 (by omega)
  obtain ⟨w, L', w1, w2, w3⟩ := al_spl (rule := t) 8 n 0 X σ sp ht.1 (by rw [hX, z0, isum]; omega) (by decide) (by decide) (by omega)
  rw [z0, Nat.add_zero] at w2
  unfold c_X12_splits
  rw [p1, bp_s, m_all hw (by omega), bp_s, hS, w2]
  have fin : ∀ (R : Sg), (∀ j, j < N → gJ R 144 (8 * B + j) = J (Pf x S W N t.toInt j)) → (∀ j, ¬ (8 * B ≤ j ∧ j < 8 * B + N) → gJ R 144 j = gJ (mJ σ 144 (8 * B) (8 * B + 8) (fun j => J (if N ≤ j - 8 * B then 0 else q0 x S W t.toInt (j - 8 * B)))) 144 j) → (∀ a, a ≠ 144 → gJ R a = gJ σ a) → gI R = gI σ → gD R = gD σ → Lay R = Lay σ → ∃ σ', some R = some σ' ∧ (∀ j, j < 8 → gJ σ' 144 (8 * B + j) = J (Pf x S W N t.toInt j)) ∧ (∀ j, ¬ (8 * B ≤ j ∧ j < 8 * B + 8) → gJ σ' 144 j = gJ σ 144 j) ∧ (∀ a, a ≠ 144 → gJ σ' a = gJ σ a) ∧ gI σ' = gI σ ∧ gD σ' = gD σ ∧ Lay σ' = Lay σ := by
    intro R q1 q2 q3 q4 q5 q6
    refine ⟨R, rfl, fun j hj => ?_, fun j hj => ?_, q3, q4, q5, q6⟩
    · by_cases e : j < N
      · exact q1 j e
      · rw [q2 _ (by omega), gJ_mJ_i (by omega), if_pos (by omega), Pf_hi (by omega)]
    · rw [q2 _ (by omega), gJ_mJ_o (by omega)]
  have rd : ∀ j, j < N → gJ (mJ σ 144 (8 * B) (8 * B + 8) (fun j => J (if N ≤ j - 8 * B then 0 else q0 x S W t.toInt (j - 8 * B)))) 144 (8 * B + j) = J (q0 x S W t.toInt j) := fun j hj => by
    rw [gJ_mJ_i (by omega), show 8 * B + j - 8 * B = j by omega, if_neg (by omega)]
  have sp2 : Spm B z N x S W v P X τ (mJ σ 144 (8 * B) (8 * B + 8) (fun j => J (if N ≤ j - 8 * B then 0 else q0 x S W t.toInt (j - 8 * B)))) := Spm_f sp rfl
  unfold d_X12_splits_118
  by_cases r1 : t.toInt ≤ 1
  · rw [if_pos (by rw [i32_le]; exact r1)]
    by_cases r0 : t.toInt = 0
    · obtain ⟨w, rfl⟩ : ∃ k, w = k + 1 := ⟨w - 1, by omega⟩
      rw [d_X12_splits_158, if_neg (by rw [i32_eq]; simp only [Int32.reduceToInt]; omega)]
      have nn := lb.2.2 (by omega)
      have g := al_givem (rule := t) L'.toInt.toNat w 0 L' (lft x S W t.toInt N) (mJ σ 144 (8 * B) (8 * B + 8) (fun j => J (if N ≤ j - 8 * B then 0 else q0 x S W t.toInt (j - 8 * B)))) sp2 (by omega) lb.2.1 (by omega) (by omega) (by omega)
      have e0 : mJ (mJ σ 144 (8 * B) (8 * B + 8) (fun j => J (if N ≤ j - 8 * B then 0 else q0 x S W t.toInt (j - 8 * B)))) 144 (8 * B) (8 * B + N) (fun j => J (q0 x S W t.toInt (j - 8 * B) + rI (fun i => x * W i % S) N 0 (j - 8 * B))) = mJ σ 144 (8 * B) (8 * B + 8) (fun j => J (if N ≤ j - 8 * B then 0 else q0 x S W t.toInt (j - 8 * B))) := by
        refine mJ_idt (fun j j1 j2 => ?_)
        rw [gJ_mJ_i (by omega), if_neg (by omega), rI, Int.add_zero]
      rw [e0, Nat.zero_add] at g
      rw [g]
      refine fin _ (fun j hj => ?_) (fun j hj => gJ_mJ_o hj) (fun a ha => ?_) rfl rfl rfl
      · rw [gJ_mJ_i (by omega), show 8 * B + j - 8 * B = j by omega, Pf_eq hj, if_pos r0, w3]
      · funext j; rw [gJ_mJ_a ha, gJ_mJ_a ha]
    · have r1' : t.toInt = 1 := by omega
      have cc := lft_cnt (x := x) (rule := t.toInt) k6 (by omega) (by omega) (fun j hj => (k5 j hj).1)
      have g := al_ordm (rule := t) N w 0 L' (lft x S W t.toInt N) (mJ σ 144 (8 * B) (8 * B + 8) (fun j => J (if N ≤ j - 8 * B then 0 else q0 x S W t.toInt (j - 8 * B)))) sp2 r1' (fun j _ hj => rd j hj) (by rw [w3, z0, cnt]; omega) cc (by omega) (by omega) (by decide) (by simp only [Int32.reduceToInt]; omega) (by omega)
      rw [z0, Nat.add_zero] at g
      rw [g]
      refine fin _ (fun j hj => ?_) (fun j hj => gJ_mJ_o hj) (fun a ha => ?_) rfl rfl rfl
      · rw [gJ_mJ_i (by omega), show 8 * B + j - 8 * B = j by omega, Pf_eq hj, if_neg r0, if_pos r1']
      · funext j; rw [gJ_mJ_a ha, gJ_mJ_a ha]
  · rw [if_neg (by rw [i32_le]; exact r1)]
    have one : ∀ (u : Int32) (i : Nat), u.toInt = i → i < N → (∀ j, j < N → Pf x S W N t.toInt j = q0 x S W t.toInt j + (if j = i then lft x S W t.toInt N else 0)) → ∃ σ', d_X12_splits_147 w L' u (8 * gI (mJ σ 144 (8 * B) (8 * B + 8) (fun j => J (if N ≤ j - 8 * B then 0 else q0 x S W t.toInt (j - 8 * B)))) 130 16) 144 (mJ σ 144 (8 * B) (8 * B + 8) (fun j => J (if N ≤ j - 8 * B then 0 else q0 x S W t.toInt (j - 8 * B)))) = some σ' ∧ (∀ j, j < 8 → gJ σ' 144 (8 * B + j) = J (Pf x S W N t.toInt j)) ∧ (∀ j, ¬ (8 * B ≤ j ∧ j < 8 * B + 8) → gJ σ' 144 j = gJ σ 144 j) ∧ (∀ a, a ≠ 144 → gJ σ' a = gJ σ a) ∧ gI σ' = gI σ ∧ gD σ' = gD σ ∧ Lay σ' = Lay σ := by
      intro u i hu hi hpf
      obtain ⟨x1, x2⟩ := ixB (v := u) hB (show (gI (mJ σ 144 (8 * B) (8 * B + 8) (fun j => J (if N ≤ j - 8 * B then 0 else q0 x S W t.toInt (j - 8 * B)))) 130 16).toInt = B from hb0) ⟨by omega, by omega⟩
      have eu : u.toNatClampNeg = i := by rw [i32_nat]; omega
      rw [eu] at x1
      unfold d_X12_splits_147
      rw [ck_t x2, ck_t x2, nm_t, x1]
      have qb := q0_b (x := x) (S := S) (W := W) (j := i) (r := t.toInt) (by omega) hx.1 hx.2 (k5 i hi).1 (k5 i hi).2.2
      have ea : gJ (mJ σ 144 (8 * B) (8 * B + 8) (fun j => J (if N ≤ j - 8 * B then 0 else q0 x S W t.toInt (j - 8 * B)))) 144 (8 * B + i) + L' = J (q0 x S W t.toInt i + lft x S W t.toInt N) := by
        rw [rd i hi]
        refine J_eq ?_
        have e2 : (J (q0 x S W t.toInt i)).toInt = q0 x S W t.toInt i := J_int (by omega) (by omega)
        rw [i64_add (by omega) (by omega), e2, w3]
      rw [ea]
      refine fin _ (fun j hj => ?_) (fun j hj => gJ_pJ_k (by omega)) (fun a ha => ?_) rfl rfl rfl
      · rw [hpf j hj]
        by_cases e : j = i
        · subst e; rw [gJ_pJ_s, if_pos rfl]
        · rw [gJ_pJ_k (by omega), rd j hj, if_neg e, Int.add_zero]
      · funext j; rw [gJ_pJ_a ha, gJ_mJ_a ha]
    by_cases r2 : t.toInt = 2
    · rw [if_pos (by rw [i32_eq]; exact r2)]
      refine one _ (N - 1) ?_ (by omega) (fun j hj => by rw [Pf_eq hj, if_neg (by omega), if_neg (by omega), if_pos r2])
      rw [i32_sub (by simp only [Int32.reduceToInt]; omega) (by simp only [Int32.reduceToInt]; omega), p2]
      simp only [Int32.reduceToInt]; omega
    · rw [if_neg (by rw [i32_eq]; exact r2)]
      exact one 0 0 rfl (by omega) (fun j hj => by rw [Pf_eq hj, if_neg (by omega), if_neg (by omega), if_neg r2])
/-- act 6: a whole slot is split -/
theorem a_split {n : Nat} (h : SR b B p m lk τ σ) (hf : gI σ 130 32 = 0) (hn : 200 ≤ n) (hs : 0 ≤ s.toInt ∧ s.toInt ≤ 7) (ht : 0 ≤ t.toInt ∧ t.toInt ≤ 3) (hv : 0 ≤ v.toInt ∧ v.toInt ≤ 3) (hw : Wm v.toNatClampNeg v τ σ) :
    AO b B p m lk σ (ck (ix s 8) <| if gJ τ (b + 10) s.toNatClampNeg = 1 then (ck (ix s 8) <| ck (gI τ (b + 11) s.toNatClampNeg = 0 ∨ gI τ (b + 11) s.toNatClampNeg = 1) <| nm (pI τ b 10 (gI τ (b + 11) s.toNatClampNeg)) fun τ1 => ck (ix s 8) <| ck (ix v 4) <| ck (ix v 4) <| bp (c_X7_divide n (b + 5) (gJ τ1 (b + 9) s.toNatClampNeg) t (v.toNatClampNeg + 9) (gI τ1 13 v.toNatClampNeg) τ1) fun τ2 => some (0, τ2)) else some (-5, τ))
      (ck (ix (8 * gI σ 130 16 + s) 16) <| if gJ σ 143 (8 * gI σ 130 16 + s).toNatClampNeg = 1 then (ck (ix (8 * gI σ 130 16 + s) 16) <| bp (c_X12_splits n (gJ σ 142 (8 * gI σ 130 16 + s).toNatClampNeg) t v σ) fun σ1 => nm (pI σ1 130 27 1) fun σ2 => ck (ix (8 * gI σ 130 16 + s) 16) <| ck (gI σ2 149 (8 * gI σ 130 16 + s).toNatClampNeg = 0 ∨ gI σ2 149 (8 * gI σ 130 16 + s).toNatClampNeg = 1) <| nm (pI σ2 130 28 (gI σ2 149 (8 * gI σ 130 16 + s).toNatClampNeg)) fun σ3 => ck (ix (8 * gI σ 130 16 + s) 16) <| nm (pJ σ3 130 29 (gJ σ3 142 (8 * gI σ 130 16 + s).toNatClampNeg)) fun σ4 => nm (pI σ4 130 30 v) fun σ5 => some σ5) else nm (pI σ 130 32 (-5)) fun σ6 => some σ6) := by
  obtain ⟨x1, x2⟩ := ixB (v := s) h.1.2.2.2.1 h.1.2.2.2.2.2 hs
  obtain ⟨c1, c2, c3, c4, l1, l2, l3, l4, l5⟩ := h.2.1 _ (n7 hs)
  have hxs : ix s 8 := ix_of hs.1 (by omega)
  have hxv : ix v 4 := ix_of hv.1 (by omega)
  have hB := h.1.2.2.2.1
  have hb0 := h.1.2.2.2.2.2
  have hb' : b = 20 ∨ b = 34 ∨ b = 47 := h.1.2.2.1
  have h7 := n7 hs
  have nv := nat0 hv.1
  simp only [ck_t hxs, ck_t hxv, ck_t x2, x1, c1, c2, ck_t c4, nm_t]
  by_cases q : gJ τ (b + 10) s.toNatClampNeg = 1
  · rw [if_pos q, if_pos q]
    have e13 : gI (pI τ b 10 (gI τ (b + 11) s.toNatClampNeg)) 13 = gI τ 13 := RI_pI (by omega)
    have e9 : ∀ a, 9 ≤ a ∧ a ≤ 13 → gI (pI τ b 10 (gI τ (b + 11) s.toNatClampNeg)) a = gI τ a := fun a ha => RI_pI (by omega)
    have ex : gJ (pI τ b 10 (gI τ (b + 11) s.toNatClampNeg)) (b + 9) = gJ τ (b + 9) := rfl
    rw [ex, e13]
    obtain ⟨τ', d1, d2, d3, d4, d5, d6, d7, d8, d9⟩ := divide_v (n := n) (A := b + 5) (z := v.toNatClampNeg) (τ := pI τ b 10 (gI τ (b + 11) s.toNatClampNeg)) (X := gJ τ (b + 9) s.toNatClampNeg) (rule := t) (sz := gI τ 13 v.toNatClampNeg) (by omega) (o4_2 h.1.2.2.1) hw.1 (by rw [e13]) ⟨hw.2.2.2.1, hw.2.2.2.2.1⟩ (fun j hj => by rw [e9 _ (by omega)]; exact (hw.2.2.2.2.2 j hj).2) ⟨l1, l2⟩ ht
    obtain ⟨σ', m1, m2, m3, m4, m5, m6, m7⟩ := splits_v (n := n) (t := t) (X := gJ τ (b + 9) s.toNatClampNeg) hn hw hB hb0 ht ⟨l1, l2⟩
    rw [wN_f e9 hw.1] at d5 d7
    rw [wS_f e9 hw.1] at d6
    have eWW : wW (pI τ b 10 (gI τ (b + 11) s.toNatClampNeg)) v.toNatClampNeg = wW τ v.toNatClampNeg := by funext j; exact wW_f e9 hw.1
    rw [wN_f e9 hw.1, wS_f e9 hw.1, eWW] at d2
    rw [eWW] at d7
    obtain ⟨k1, k2, k3, k4, k5, k6⟩ := wts_v (τ := τ) (z := v.toNatClampNeg) ⟨hw.2.2.2.1, hw.2.2.2.2.1⟩ (fun j hj => (hw.2.2.2.2.2 j hj).2)
    rw [d1, bp_s, m1, bp_s]
    have es1 : gI (pI σ' 130 27 1) 149 (8 * B + s.toNatClampNeg) = gI τ (b + 11) s.toNatClampNeg := by
      rw [gI_pI_a (by decide), m5, c3]
    have es2 : gJ (pI (pI σ' 130 27 1) 130 28 (gI τ (b + 11) s.toNatClampNeg)) 142 (8 * B + s.toNatClampNeg) = gJ τ (b + 9) s.toNatClampNeg := by
      rw [gJ_pI, gJ_pI, m4 142 (by decide), c1]
    rw [es1, ck_t c4, es2]
    obtain ⟨⟨lt, ls, hb, -, hp, -⟩, a1, a2, a3, a4, a5, a6, a7, a8, a9⟩ := h
    have gd : ∀ a, ¬ (b + 5 ≤ a ∧ a ≤ b + 5 + 3) → a ≠ b → Sm τ τ' a := fun a ha hne => Sm_tr (Sm_pI Sm_refl hne) (d8 a ha)
    have gb : gI τ' b = gI (pI τ b 10 (gI τ (b + 11) s.toNatClampNeg)) b ∧ gJ τ' b = gJ τ b := ⟨(d8 b (by omega)).1, (d8 b (by omega)).2.1⟩
    have lt' : Lay τ' := by rw [d9]; exact lt
    have ls' : Lay σ' := by rw [m7]; exact ls
    refine ⟨0, _, _, rfl, rfl, ⟨⟨lt', ls', hb, hB, hp, ?_⟩, ?_, ?_, ?_, ?_, ?_, ?_, ?_, ?_, ?_⟩, ?_, ?_⟩
    · simp (disch := omega) only [gI_pI_s, gJ_pJ_s, gD_pD_s, gI_pJ, gI_pD, gJ_pI, gJ_pD, gD_pI, gD_pJ, gI_pI_a, gJ_pJ_a, gD_pD_a, gI_pI_k, gJ_pJ_k, gD_pD_k]; rw [m5]; exact hb0
    · refine Ss_f a1 (gd _ (by omega) (by omega)).2.1 (gd _ (by omega) (by omega)).2.1 (gd _ (by omega) (by omega)).1 ?_ ?_ ?_
      · simp (disch := omega) only [RI_pI, RI_mI, RI_pJ, RI_mJ, RI_pD, RI_mD, RJ_pI, RJ_mI, RJ_pJ, RJ_mJ, RJ_pD, RJ_mD, RD_pI, RD_mI, RD_pJ, RD_mJ, RD_pD, RD_mD]; exact m4 142 (by decide)
      · simp (disch := omega) only [RI_pI, RI_mI, RI_pJ, RI_mJ, RI_pD, RI_mD, RJ_pI, RJ_mI, RJ_pJ, RJ_mJ, RJ_pD, RJ_mD, RD_pI, RD_mI, RD_pJ, RD_mJ, RD_pD, RD_mD]; exact m4 143 (by decide)
      · simp (disch := omega) only [RI_pI, RI_mI, RI_pJ, RI_mJ, RI_pD, RI_mD, RJ_pI, RJ_mI, RJ_pJ, RJ_mJ, RJ_pD, RJ_mD, RD_pI, RD_mI, RD_pJ, RD_mJ, RD_pD, RD_mD]; rw [m5]
    · intro k hk
      have pb := Pf_b (x := (gJ τ (b + 9) s.toNatClampNeg).toInt) (j := k) (rule := t.toInt) k2 k3 l1 l2 k5 k6
      have e2 := d2 k hk
      refine ⟨?_, ?_⟩
      · simp (disch := omega) only [gI_pI_s, gJ_pJ_s, gD_pD_s, gI_pJ, gI_pD, gJ_pI, gJ_pD, gD_pI, gD_pJ, gI_pI_a, gJ_pJ_a, gD_pD_a, gI_pI_k, gJ_pJ_k, gD_pD_k]
        rw [m2 k hk, show b + 6 = b + 5 + 1 by omega, e2]
      · rw [show b + 6 = b + 5 + 1 by omega, e2, J_int (by omega) (by omega)]
        exact pb
    · refine Sr_f a3 (gd _ (by omega) (by omega)).2.1 ?_
      simp (disch := omega) only [RI_pI, RI_mI, RI_pJ, RI_mJ, RI_pD, RI_mD, RJ_pI, RJ_mI, RJ_pJ, RJ_mJ, RJ_pD, RJ_mD, RD_pI, RD_mI, RD_pJ, RD_mJ, RD_pD, RD_mD]; exact m4 145 (by decide)
    · refine Sa_f a4 (gd _ (by omega) (by omega)).2.1 ?_
      simp (disch := omega) only [RI_pI, RI_mI, RI_pJ, RI_mJ, RI_pD, RI_mD, RJ_pI, RJ_mI, RJ_pJ, RJ_mJ, RJ_pD, RJ_mD, RD_pI, RD_mI, RD_pJ, RD_mJ, RD_pD, RD_mD]; exact m4 146 (by decide)
    · refine Sk_f a5 (by rw [(gd (b + 3) (by omega) (by omega)).1]) ?_
      simp (disch := omega) only [gI_pI_s, gJ_pJ_s, gD_pD_s, gI_pJ, gI_pD, gJ_pI, gJ_pD, gD_pI, gD_pJ, gI_pI_a, gJ_pJ_a, gD_pD_a, gI_pI_k, gJ_pJ_k, gD_pD_k]; rw [m5]
    · refine Sc_f a6 (by rw [gb.2]) (by rw [gb.2]) ?_ ?_
      · simp (disch := omega) only [RI_pI, RI_mI, RI_pJ, RI_mJ, RI_pD, RI_mD, RJ_pI, RJ_mI, RJ_pJ, RJ_mJ, RJ_pD, RJ_mD, RD_pI, RD_mI, RD_pJ, RD_mJ, RD_pD, RD_mD]; exact m4 147 (by decide)
      · simp (disch := omega) only [RI_pI, RI_mI, RI_pJ, RI_mJ, RI_pD, RI_mD, RJ_pI, RJ_mI, RJ_pJ, RJ_mJ, RJ_pD, RJ_mD, RD_pI, RD_mI, RD_pJ, RD_mJ, RD_pD, RD_mD]; exact m4 148 (by decide)
    · refine ⟨?_, Or.inr d3, ?_, ?_, ?_⟩
      · simp (disch := omega) only [gI_pI_s, gJ_pJ_s, gD_pD_s, gI_pJ, gI_pD, gJ_pI, gJ_pD, gD_pI, gD_pJ, gI_pI_a, gJ_pJ_a, gD_pD_a, gI_pI_k, gJ_pJ_k, gD_pD_k]; rw [d3]
      · simp (disch := omega) only [gI_pI_s, gJ_pJ_s, gD_pD_s, gI_pJ, gI_pD, gJ_pI, gJ_pD, gD_pI, gD_pJ, gI_pI_a, gJ_pJ_a, gD_pD_a, gI_pI_k, gJ_pJ_k, gD_pD_k]; rw [gb.1, gI_pI_s]
      · rw [gb.1, gI_pI_s]; exact c4
      · rw [gb.1, gI_pI_k (by decide)]; exact a7.2.2.2.2
    · intro _
      have e9' : ∀ a, 9 ≤ a ∧ a ≤ 13 → gI τ' a = gI τ a := fun a ha => (gd a (by omega) (by omega)).1
      simp (disch := omega) only [gI_pI_s, gJ_pJ_s, gD_pD_s, gI_pJ, gI_pD, gJ_pI, gJ_pD, gD_pI, gD_pJ, gI_pI_a, gJ_pJ_a, gD_pD_a, gI_pI_k, gJ_pJ_k, gD_pD_k]
      rw [wN_f e9' hw.1, wS_f e9' hw.1]
      refine ⟨by rw [d4], hv.1, hv.2, d5, d6, fun j hj => ?_⟩
      rw [wW_f e9' hw.1]
      exact d7 j hj
    · refine Sb_f a9 (by rw [(gd (b + 1) (by omega) (by omega)).1]) (gd (b + 2) (by omega) (by omega)).1 ?_ ?_
      · simp (disch := omega) only [gI_pI_s, gJ_pJ_s, gD_pD_s, gI_pJ, gI_pD, gJ_pI, gJ_pD, gD_pI, gD_pJ, gI_pI_a, gJ_pJ_a, gD_pD_a, gI_pI_k, gJ_pJ_k, gD_pD_k]; rw [m5]
      · simp (disch := omega) only [RI_pI, RI_mI, RI_pJ, RI_mJ, RI_pD, RI_mD, RJ_pI, RJ_mI, RJ_pJ, RJ_mJ, RJ_pD, RJ_mD, RD_pI, RD_mI, RD_pJ, RD_mJ, RD_pD, RD_mD]; rw [m5]
    · refine ⟨fun a ha => ?_, fun k hk => ?_, fun j hj => ?_, fun j hj => ?_, fun j hj => ?_⟩
      · exact Sm_pI (Sm_pJ (Sm_pI (Sm_pI ⟨by rw [m5], m4 a (by omega), by rw [m6]⟩ (by omega)) (by omega)) (by omega)) (by omega)
      · simp (disch := omega) only [gI_pI_s, gJ_pJ_s, gD_pD_s, gI_pJ, gI_pD, gJ_pI, gJ_pD, gD_pI, gD_pJ, gI_pI_a, gJ_pJ_a, gD_pD_a, gI_pI_k, gJ_pJ_k, gD_pD_k]; rw [m5]
      · simp (disch := omega) only [gI_pI_s, gJ_pJ_s, gD_pD_s, gI_pJ, gI_pD, gJ_pI, gJ_pD, gD_pI, gD_pJ, gI_pI_a, gJ_pJ_a, gD_pD_a, gI_pI_k, gJ_pJ_k, gD_pD_k]
        rw [m4 142 (by decide), m4 143 (by decide), m4 146 (by decide), m5]
        exact ⟨rfl, rfl, m3 j hj, rfl, rfl⟩
      · simp (disch := omega) only [gI_pI_s, gJ_pJ_s, gD_pD_s, gI_pJ, gI_pD, gJ_pI, gJ_pD, gD_pI, gD_pJ, gI_pI_a, gJ_pJ_a, gD_pD_a, gI_pI_k, gJ_pJ_k, gD_pD_k]; rw [m4 145 (by decide)]
      · simp (disch := omega) only [gI_pI_s, gJ_pJ_s, gD_pD_s, gI_pJ, gI_pD, gJ_pI, gJ_pD, gD_pI, gD_pJ, gI_pI_a, gJ_pJ_a, gD_pD_a, gI_pI_k, gJ_pJ_k, gD_pD_k]; rw [m4 147 (by decide), m4 148 (by decide)]; exact ⟨rfl, rfl⟩
    · simp (disch := omega) only [gI_pI_s, gJ_pJ_s, gD_pD_s, gI_pJ, gI_pD, gJ_pI, gJ_pD, gD_pI, gD_pJ, gI_pI_a, gJ_pJ_a, gD_pD_a, gI_pI_k, gJ_pJ_k, gD_pD_k]; rw [m5]; exact hf
  · rw [if_neg q, if_neg q]
    exact AO_spent h
end SPLM3
