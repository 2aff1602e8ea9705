section MEND
variable {p c : Nat} {P law fr to : Int32}
/-- the act's kind k chooses by row o (3: t, 4: v) among C -/
def Chk (k : Int32) (o : Nat) (C : Int) : Prop := ((k = 1 ∨ k = 2 ∨ k = 11) ∧ o = 4 ∧ C = 6) ∨ (k = 4 ∧ o = 3 ∧ C = 6) ∨ (k = 6 ∧ o = 3 ∧ C = 4)
theorem ch_Rl {τ σ : Sg} {i o : Nat} {C : Int} {v : Int32} (h : Rl c τ σ) (hp : p < 4) (hi : i < 20) (hk : Chk (gI τ (5 * p + 75) i) o C) (hv : 0 ≤ v.toInt) (hv2 : v.toInt < C) : Rl c (pI τ (5 * p + 74 + o) i v) (pI σ (136 + o) (20 * p + i) v) := by
  have ho : o = 3 ∨ o = 4 := by
    rcases hk with ⟨-, h, -⟩ | ⟨-, h, -⟩ | ⟨-, h, -⟩
    · exact Or.inr h
    · exact Or.inl h
    · exact Or.inl h
  obtain ⟨⟨lt, ls, h0⟩, h1, h2, h3, h4, h5, h6, h7, h8⟩ := h
  have E : ∀ a, ¬ (74 ≤ a ∧ a ≤ 93) → Sm τ (pI τ (5 * p + 74 + o) i v) a := fun a ha => Sm_pI Sm_refl (by omega)
  have E' : ∀ a, ¬ (139 ≤ a ∧ a ≤ 140) → Sm σ (pI σ (136 + o) (20 * p + i) v) a := fun a ha => Sm_pI Sm_refl (by omega)
  refine ⟨⟨lt, ls, Rold_f h0 (fun a ha => E a (by omega))⟩, Rtab_f h1 (fun a ha => E a (by omega)) (fun a ha => E' a (by omega)), Rwts_f h2 (fun a ha => E a (by omega)) (fun a ha => E' a (by omega)), Rbil_f h3 (fun a ha => E a (by omega)) (E' 133 (by decide)) (by rw [(E' 130 (by decide)).1]), Rled_f h4 (Nat.le_refl _) (fun a ha => E a (by omega)) (E' 146 (by decide)) (by rw [(E' 130 (by decide)).1]), ?_, Rlst_f h6 (fun a ha => E a (by omega)) (fun a ha => E' a (by omega)) (by rw [(E' 130 (by decide)).1]) (by rw [(E 20 (by decide)).1]), Rtap_f h7 (Nat.le_refl _) (fun a ha => E a (by omega)) (fun a ha => E' a (by omega)), Rmis_f h8 (by rw [(E' 130 (by decide)).1]) (by rw [(E' 130 (by decide)).1]) (by rw [(E 4 (by decide)).1])⟩
  refine ⟨by rw [(E' 130 (by decide)).1, (E 4 (by decide)).1]; exact h5.1, by rw [(E 4 (by decide)).1]; exact h5.2.1, by rw [(E 4 (by decide)).1]; exact h5.2.2.1, fun p' hp' => ?_⟩
  obtain ⟨j1, j2, j3, j4, j5⟩ := h5.2.2.2 p' hp'
  rw [(E 4 (by decide)).1, (E' 136 (by decide)).1, (E' 137 (by decide)).1, (E' 138 (by decide)).1, (E' 147 (by decide)).2.1, (E' 148 (by decide)).2.1]
  have e74 : gI (pI τ (5 * p + 74 + o) i v) (5 * p' + 74) = gI τ (5 * p' + 74) := RI_pI (by omega)
  have e75 : gI (pI τ (5 * p + 74 + o) i v) (5 * p' + 75) = gI τ (5 * p' + 75) := RI_pI (by omega)
  have e76 : gI (pI τ (5 * p + 74 + o) i v) (5 * p' + 76) = gI τ (5 * p' + 76) := RI_pI (by omega)
  rw [e74, e75, e76]
  refine ⟨j1, j2, j3, fun i' hi' => ?_, j5⟩
  obtain ⟨k1, k2, k3, k4, A⟩ := j4 i' hi'
  by_cases e : p' = p ∧ i' = i
  · obtain ⟨rfl, rfl⟩ := e
    obtain ⟨A1, A2, A3, A4, A5⟩ := A
    rcases hk with ⟨hk, rfl, rfl⟩ | ⟨hk, rfl, rfl⟩ | ⟨hk, rfl, rfl⟩
    · have x1 : gI (pI τ (5 * p' + 74 + 4) i' v) (5 * p' + 78) i' = v := gI_pI_s
      have x2 : gI (pI σ (136 + 4) (20 * p' + i') v) 140 (20 * p' + i') = v := gI_pI_s
      have x3 : gI (pI τ (5 * p' + 74 + 4) i' v) (5 * p' + 77) i' = gI τ (5 * p' + 77) i' := gI_pI_a (by omega)
      have x4 : gI (pI σ (136 + 4) (20 * p' + i') v) 139 (20 * p' + i') = gI σ 139 (20 * p' + i') := gI_pI_a (by omega)
      rw [x1, x2, x3, x4]
      refine ⟨k1, k2, k3, rfl, A1, A2, A3, A4, ?_⟩
      rcases hk with hk | hk | hk
      all_goals
        rw [hk] at A5 ⊢
        simp only [fitP, TM, VL, VM, Int32.reduceToNatClampNeg, List.getD_cons_zero, List.getD_cons_succ] at A5 ⊢
        omega
    · have x1 : gI (pI τ (5 * p' + 74 + 3) i' v) (5 * p' + 77) i' = v := gI_pI_s
      have x2 : gI (pI σ (136 + 3) (20 * p' + i') v) 139 (20 * p' + i') = v := gI_pI_s
      have x3 : gI (pI τ (5 * p' + 74 + 3) i' v) (5 * p' + 78) i' = gI τ (5 * p' + 78) i' := gI_pI_a (by omega)
      have x4 : gI (pI σ (136 + 3) (20 * p' + i') v) 140 (20 * p' + i') = gI σ 140 (20 * p' + i') := gI_pI_a (by omega)
      rw [x1, x2, x3, x4]
      refine ⟨k1, k2, rfl, k4, A1, A2, A3, A4, ?_⟩
      rw [hk] at A5 ⊢
      simp only [fitP, TM, VL, VM, Int32.reduceToNatClampNeg, List.getD_cons_zero, List.getD_cons_succ] at A5 ⊢
      omega
    · have x1 : gI (pI τ (5 * p' + 74 + 3) i' v) (5 * p' + 77) i' = v := gI_pI_s
      have x2 : gI (pI σ (136 + 3) (20 * p' + i') v) 139 (20 * p' + i') = v := gI_pI_s
      have x3 : gI (pI τ (5 * p' + 74 + 3) i' v) (5 * p' + 78) i' = gI τ (5 * p' + 78) i' := gI_pI_a (by omega)
      have x4 : gI (pI σ (136 + 3) (20 * p' + i') v) 140 (20 * p' + i') = gI σ 140 (20 * p' + i') := gI_pI_a (by omega)
      rw [x1, x2, x3, x4]
      refine ⟨k1, k2, rfl, k4, A1, A2, A3, A4, ?_⟩
      rw [hk] at A5 ⊢
      simp only [fitP, TM, VL, VM, Int32.reduceToNatClampNeg, List.getD_cons_zero, List.getD_cons_succ] at A5 ⊢
      omega
  · have u1 : gI (pI τ (5 * p + 74 + o) i v) (5 * p' + 77) i' = gI τ (5 * p' + 77) i' := by
      by_cases e2 : p' = p
      · subst e2; exact gI_pI_k (fun z => e ⟨rfl, z⟩)
      · exact gI_pI_a (by omega)
    have u2 : gI (pI τ (5 * p + 74 + o) i v) (5 * p' + 78) i' = gI τ (5 * p' + 78) i' := by
      by_cases e2 : p' = p
      · subst e2; exact gI_pI_k (fun z => e ⟨rfl, z⟩)
      · exact gI_pI_a (by omega)
    have u3 : gI (pI σ (136 + o) (20 * p + i) v) 139 (20 * p' + i') = gI σ 139 (20 * p' + i') := gI_pI_k (by omega)
    have u4 : gI (pI σ (136 + o) (20 * p + i) v) 140 (20 * p' + i') = gI σ 140 (20 * p' + i') := gI_pI_k (by omega)
    rw [u1, u2, u3, u4]
    exact ⟨k1, k2, k3, k4, A⟩
/-- both choose -/
theorem ch_v {τ σ : Sg} {i v : Int32} {o : Nat} {C : Int} (h : Rl c τ σ) (hp : p < 4) (hP : P.toInt = p) (hi : 0 ≤ i.toInt ∧ i.toInt < 20) (hk : Chk (gI τ (5 * p + 75) i.toNatClampNeg) o C) : c_X6_choose (5 * p + 74) i v τ = some (pI τ (5 * p + 74 + o) i.toNatClampNeg v) ∧ c_X12_chooses (20 * P + i) v σ = some (pI σ (136 + o) (20 * p + i.toNatClampNeg) v) := by
  have ni := nat0 hi.1
  have hxi : ix i 20 := ix_of hi.1 (by omega)
  obtain ⟨-, x2, x3⟩ := ix2 (c := 20) (m := 4) (k := 20) (v := P) (w := i) (by decide) (ix_of (by omega) (by omega)) hxi rfl (by decide)
  have eP : P.toNatClampNeg = p := by rw [i32_nat]; omega
  rw [eP] at x2
  have x3' : ix (20 * P + i) 80 := x3
  have hK := ((h.2.2.2.2.2.1.2.2.2 p hp).2.2.2.1 i.toNatClampNeg (by omega)).1
  unfold c_X6_choose c_X6_choosesByT c_X12_chooses d_X12_chooses_21
  have g1 : gI τ (5 * p + 74 + 1) i.toNatClampNeg = gI τ (5 * p + 75) i.toNatClampNeg := rfl
  simp only [ck_t hxi, ck_t x3', nm_t, x2, hK, g1]
  generalize gI τ (5 * p + 75) i.toNatClampNeg = K at *
  rcases hk with ⟨hk, rfl, rfl⟩ | ⟨hk, rfl, rfl⟩ | ⟨hk, rfl, rfl⟩
  · have n4 : ¬ K = 4 := by rcases hk with rfl | rfl | rfl <;> decide
    have n6 : ¬ K = 6 := by rcases hk with rfl | rfl | rfl <;> decide
    simp only [if_neg n4, if_neg n6]
    exact ⟨rfl, trivial⟩
  · simp only [if_pos hk]
    exact ⟨rfl, trivial⟩
  · have n4 : ¬ K = 4 := by rw [hk]; decide
    simp only [if_neg n4, if_pos hk]
    exact ⟨rfl, trivial⟩
theorem To_gI {τ τ' : Sg} (t : To 33 69 τ τ') {a k : Nat} (h : ¬ (33 ≤ a ∧ a < 69)) : gI τ' a k = gI τ a k := by rw [(Sm_to t h).1]
/-- the choices of one act -/
theorem al_in (hF : FLT) (hp : p < 4) (hP : P.toInt = p) (hl : 0 ≤ law.toInt ∧ law.toInt ≤ 6) (hl2 : law ≠ 2) (hfr : -1000000 ≤ fr.toInt) (hto : to.toInt ≤ 1000000) (hsp : to.toInt - fr.toInt ≤ 300) (hsp2 : fr.toInt ≤ to.toInt) {k76 : Int32 → Int32 → Sg → Option (Int32 × Sg)} {k60 : Int32 → Sg → Option (Int32 × Sg)} {i pr K : Int32} {o : Nat} {C : Int} {C32 : Int32} (hi : 0 ≤ i.toInt ∧ i.toInt < 20) (hk : Chk K o C) (hC : C32.toInt = C) (hpr : 0 ≤ pr.toInt ∧ pr.toInt < C) :
    ∀ (d n n' : Nat) (v b0 : Int32) (τ σ : Sg), Rl c τ σ → gI τ (5 * p + 75) i.toNatClampNeg = K → gI τ (5 * p + 74 + o) i.toNatClampNeg = pr → fr.toInt ≤ b0.toInt → b0.toInt ≤ to.toInt → 0 ≤ v.toInt → v.toInt + d = C → d + 2500 < n → d + 2500 < n' →
    (∃ r τ' σ', d_X11_mend_107 k76 n law fr to (5 * p + 74) b0 i pr C32 v τ = some (r, τ') ∧ d_X12_mend_125 k60 n' P law fr to i (20 * P + i) pr v σ = some (r, σ') ∧ Rl c τ' σ') ∨
    (∃ b1 τ' σ', d_X11_mend_107 k76 n law fr to (5 * p + 74) b0 i pr C32 v τ = k76 b1 (i + 1) τ' ∧ d_X12_mend_125 k60 n' P law fr to i (20 * P + i) pr v σ = k60 (i + 1) σ' ∧ Rl c τ' σ' ∧ fr.toInt ≤ b1.toInt ∧ b1.toInt ≤ to.toInt ∧ gI τ' (5 * p + 74) 4 = gI τ (5 * p + 74) 4 ∧ gI τ' 4 8 = gI τ 4 8) := by
  have ni := nat0 hi.1
  have hxi : ix i 20 := ix_of hi.1 (by omega)
  obtain ⟨-, x2, x3⟩ := ix2 (c := 20) (m := 4) (k := 20) (v := P) (w := i) (by decide) (ix_of (by omega) (by omega)) hxi rfl (by decide)
  have eP : P.toNatClampNeg = p := by rw [i32_nat]; omega
  rw [eP] at x2
  have x3' : ix (20 * P + i) 80 := x3
  have ho : (o = 3 ∨ o = 4) ∧ C ≤ 6 := by
    rcases hk with ⟨-, h, hC⟩ | ⟨-, h, hC⟩ | ⟨-, h, hC⟩
    · exact ⟨Or.inr h, by omega⟩
    · exact ⟨Or.inl h, by omega⟩
    · exact ⟨Or.inl h, by omega⟩
  -- the reference's bound and choice
  have lim : ∀ (k125 : Int32 → Sg → Option (Int32 × Sg)) (n v : Int32) (m : Nat) (σ : Sg), gI σ 137 (20 * p + i.toNatClampNeg) = K → (if gI σ 137 (20 * p + i.toNatClampNeg) = 6 then d_X12_mend_145 k60 k125 m P law fr to i (20 * P + i) pr v 4 v σ else d_X12_mend_145 k60 k125 m P law fr to i (20 * P + i) pr v 6 v σ) = d_X12_mend_145 k60 k125 m P law fr to i (20 * P + i) pr v C32 v σ := by
    intro k125 _ v m σ e
    rw [e]
    rcases hk with ⟨hk, -, hc⟩ | ⟨hk, -, hc⟩ | ⟨hk, -, hc⟩
    · have n6 : ¬ K = 6 := by rcases hk with rfl | rfl | rfl <;> decide
      have e6 : C32 = 6 := by rw [i32_eq]; simp only [Int32.reduceToInt]; omega
      rw [if_neg n6, e6]
    · have n6 : ¬ K = 6 := by rw [hk]; decide
      have e6 : C32 = 6 := by rw [i32_eq]; simp only [Int32.reduceToInt]; omega
      rw [if_neg n6, e6]
    · have e6 : C32 = 4 := by rw [i32_eq]; simp only [Int32.reduceToInt]; omega
      rw [if_pos hk, e6]
  have hasC : f_X12_hasChoice 130 K = some 1 := by
    rcases hk with ⟨rfl | rfl | rfl, -, -⟩ | ⟨rfl, -, -⟩ | ⟨rfl, -, -⟩ <;> rfl
  intro d
  induction d with
  | zero =>
    intro n n' v b0 τ σ h hK hpr' hb1 hb2 h3 h4 h5 h6
    obtain ⟨n, rfl⟩ : ∃ k, n = k + 1 := ⟨n - 1, by omega⟩
    obtain ⟨n', rfl⟩ : ∃ k, n' = k + 1 := ⟨n' - 1, by omega⟩
    have hK' : gI σ 137 (20 * p + i.toNatClampNeg) = K := by rw [((h.2.2.2.2.2.1.2.2.2 p hp).2.2.2.1 i.toNatClampNeg (by omega)).1]; exact hK
    right
    refine ⟨b0, τ, σ, ?_, ?_, h, hb1, hb2, rfl, rfl⟩
    · rw [d_X11_mend_107, if_pos (by rw [i32_le]; omega)]; rfl
    · rw [d_X12_mend_125, ck_t x3', x2, lim _ 0 _ _ _ hK']
      unfold d_X12_mend_145
      rw [if_pos (by rw [i32_le]; omega)]; rfl
  | succ d ih =>
    intro n n' v b0 τ σ h hK hpr' hb1 hb2 h3 h4 h5 h6
    obtain ⟨n, rfl⟩ : ∃ k, n = k + 1 := ⟨n - 1, by omega⟩
    obtain ⟨n', rfl⟩ : ∃ k, n' = k + 1 := ⟨n' - 1, by omega⟩
    obtain ⟨c1, c2, c3⟩ := cnt1 (v := v) (m := 64) h3 (by omega) (by decide)
    have hact := (h.2.2.2.2.2.1.2.2.2 p hp).2.2.2.1 i.toNatClampNeg (by omega)
    have hK' : gI σ 137 (20 * p + i.toNatClampNeg) = K := by rw [hact.1]; exact hK
    have hw : gI σ (136 + o) (20 * p + i.toNatClampNeg) = pr := by
      rcases ho.1 with rfl | rfl
      · exact hact.2.2.1.trans hpr'
      · exact hact.2.2.2.1.trans hpr'
    have hkk : Chk (gI τ (5 * p + 75) i.toNatClampNeg) o C := by rw [hK]; exact hk
    have hle : ¬ C32 ≤ v := by rw [i32_le]; omega
    obtain ⟨s1, s2⟩ := ch_v (v := v) h hp hP hi hkk
    rw [d_X11_mend_107, if_neg hle, d_X12_mend_125, ck_t x3', x2, lim _ 0 _ _ _ hK']
    unfold d_X12_mend_145
    rw [if_neg hle, ck_t x3', x2, hK', hasC, bp_s, if_neg (show ¬ (1 : Int32) = 0 by decide), s2, bp_s]
    by_cases q : v = pr
    · rw [if_pos q, if_pos q]
      -- the present one: nothing changes
      have idσ : pI σ (136 + o) (20 * p + i.toNatClampNeg) v = σ := pI_id (by rw [hw, q])
      rw [idσ]
      obtain ⟨-, s3⟩ := ch_v (v := pr) h hp hP hi hkk
      unfold d_X11_mend_200 d_X12_mend_197 d_X12_mend_198
      rw [nm_t, s3, bp_s, if_pos rfl, nm_t, pI_id hw]
      exact ih n n' (v + 1) b0 τ σ h hK hpr' hb1 hb2 (by omega) (by omega) (by omega) (by omega)
    · rw [if_neg q, if_neg q, s1, bp_s]
      have hc := ch_Rl (v := v) h hp (by omega : i.toNatClampNeg < 20) hkk (by omega) (by omega)
      generalize hT : pI τ (5 * p + 74 + o) i.toNatClampNeg v = τ1 at *
      generalize hS : pI σ (136 + o) (20 * p + i.toNatClampNeg) v = σ1 at *
      have kT : ∀ a j, a ≠ 5 * p + 74 + o → gI τ1 a j = gI τ a j := fun a j ha => by rw [← hT]; exact gI_pI_a ha
      -- the component first tries the amount that broke the law
      obtain ⟨r, τ2, σ2, e1, e2, e3, e4, e5⟩ := breaks_v (n := 2000) (p := p) (q := p) (P := P) (Q := -1) (law := law) (a := b0) (c := c) hF (Nat.le_refl _) hc hp hP hp (fun k => absurd k hl2) (fun _ => rfl) hl (by omega)
      have f1 := Le_up (f := fun n => c_X10_breaks n (5 * p + 74) (5 * p + 74) law b0 τ1) (fun n => u_c_X10_breaks) (show 2000 ≤ n by omega) _ e1
      rw [f1, bd_s]
      have hc2 : Rl c τ2 σ1 := Rl_try hc e4 (Ft_refl hc.1.2.1 (Rl_0 hc))
      -- the search, from the heap behind that try
      obtain ⟨x, τ3, σ3, g1, g2, g3, g4, g5⟩ := al_least (p := p) (q := p) (P := P) (Q := -1) (law := law) (c := c) hF hp hP hp (fun k => absurd k hl2) (fun _ => rfl) hl (to.toInt - fr.toInt + 1).toNat n n' fr to τ2 σ1 hc2 (by omega) (by omega) (by omega) (by omega) (by omega)
      have g2' : c_X12_leastOf n' P law (-1) fr to σ1 = some (x, σ3) := g2
      have g1' : c_X10_firstBreak n (5 * p + 74) (5 * p + 74) law fr to τ2 = some (x, τ3) := g1
      rw [g2', bd_s]
      -- back to the present choice, from the component's heap τx
      have back : ∀ (τx : Sg) (b1 : Int32), To 33 69 τ1 τx → fr.toInt ≤ b1.toInt → b1.toInt ≤ to.toInt → x ≠ 9999999 →
          ((∃ r τ' σ', d_X11_mend_175 k76 (fun c6 c10 τ => d_X11_mend_107 k76 n law fr to (5 * p + 74) c6 i pr C32 c10 τ) n law fr to (5 * p + 74) b1 i pr C32 v τx = some (r, τ') ∧ d_X12_mend_197 k60 (fun c8 τ => d_X12_mend_125 k60 n' P law fr to i (20 * P + i) pr c8 τ) n' P law fr to i (20 * P + i) pr v σ3 = some (r, σ') ∧ Rl c τ' σ') ∨
          (∃ b1' τ' σ', d_X11_mend_175 k76 (fun c6 c10 τ => d_X11_mend_107 k76 n law fr to (5 * p + 74) c6 i pr C32 c10 τ) n law fr to (5 * p + 74) b1 i pr C32 v τx = k76 b1' (i + 1) τ' ∧ d_X12_mend_197 k60 (fun c8 τ => d_X12_mend_125 k60 n' P law fr to i (20 * P + i) pr c8 τ) n' P law fr to i (20 * P + i) pr v σ3 = k60 (i + 1) σ' ∧ Rl c τ' σ' ∧ fr.toInt ≤ b1'.toInt ∧ b1'.toInt ≤ to.toInt ∧ gI τ' (5 * p + 74) 4 = gI τ (5 * p + 74) 4 ∧ gI τ' 4 8 = gI τ 4 8)) := by
        intro τx b1 tx hb3 hb4 hx
        have hx3 : Rl c τx σ3 := by
          have y1 : Rl c τx σ1 := Rl_try hc tx (Ft_refl hc.1.2.1 (Rl_0 hc))
          exact Rl_try y1 (To_refl tx.1) g4
        have kx : gI τx (5 * p + 75) i.toNatClampNeg = K := by rw [To_gI tx (by omega), kT _ _ (by omega)]; exact hK
        have hkx : Chk (gI τx (5 * p + 75) i.toNatClampNeg) o C := by rw [kx]; exact hk
        obtain ⟨s4, s5⟩ := ch_v (v := pr) hx3 hp hP hi hkx
        have hr := ch_Rl (v := pr) hx3 hp (by omega : i.toNatClampNeg < 20) hkx hpr.1 hpr.2
        have nb : ¬ b1 = 9999999 := by rw [i32_eq]; simp only [Int32.reduceToInt]; omega
        unfold d_X11_mend_175 d_X11_mend_200 d_X12_mend_197 d_X12_mend_198
        rw [s4, s5, bp_s, bp_s, if_neg nb, if_pos rfl, nm_t, nm_t]
        have z := ih n n' (v + 1) b1 (pI τx (5 * p + 74 + o) i.toNatClampNeg pr) (pI σ3 (136 + o) (20 * p + i.toNatClampNeg) pr) hr (by rw [gI_pI_a (by omega)]; exact kx) gI_pI_s hb3 hb4 (by omega) (by omega) (by omega) (by omega)
        rcases z with z | ⟨b2, τ', σ', z1, z2, z3, z4, z5, z6, z7⟩
        · left; exact z
        · right
          refine ⟨b2, τ', σ', z1, z2, z3, z4, z5, ?_, ?_⟩
          · rw [z6, gI_pI_a (by omega), To_gI tx (by omega), kT _ _ (by omega)]
          · rw [z7, gI_pI_a (by omega), To_gI tx (by omega), kT _ _ (by omega)]
      rcases e3 with e3 | e3
      · -- it holds there now: the component searches too
        rw [if_pos e3, g1', bd_s]
        rcases g5 with ⟨g5, -⟩ | g5
        · -- the law holds
          rw [if_pos g5]
          have tx : To 33 69 τ1 τ3 := To_trans e4 g3
          have hx3 : Rl c τ3 σ3 := Rl_try hc2 g3 g4
          have kx : gI τ3 (5 * p + 75) i.toNatClampNeg = K := by rw [To_gI tx (by omega), kT _ _ (by omega)]; exact hK
          have hkx : Chk (gI τ3 (5 * p + 75) i.toNatClampNeg) o C := by rw [kx]; exact hk
          obtain ⟨s4, s5⟩ := ch_v (v := pr) hx3 hp hP hi hkx
          have hr := ch_Rl (v := pr) hx3 hp (by omega : i.toNatClampNeg < 20) hkx hpr.1 hpr.2
          left
          unfold d_X11_mend_175 d_X12_mend_198
          rw [s4, s5, bp_s, bp_s, if_pos g5, if_neg (show ¬ (1 : Int32) = 0 by decide)]
          exact ⟨_, _, _, rfl, rfl, hr⟩
        · have nx : ¬ x = 9999999 := by rw [i32_eq]; simp only [Int32.reduceToInt]; omega
          rw [if_neg nx]
          exact back τ3 x (To_trans e4 g3) g5.1 g5.2 nx
      · -- it still breaks there: the reference's search finds something too
        have e0 : ¬ r = 0 := by rw [e3]; decide
        have nx : ¬ x = 9999999 := by
          intro hx
          rcases g5 with ⟨-, g6⟩ | g5
          · have bz := Bz_same (τ := τ1) (τ' := τ2) (σ := σ1) (a := b0) (P := P) (Q := -1) hF hc e4 hp hP hp (fun k => absurd k hl2) (fun _ => rfl) hl (by omega) (g6 b0 hb1 hb2)
            obtain ⟨τ9, bz⟩ := bz
            rw [bz] at e1
            cases e1
            exact e0 rfl
          · rw [hx] at g5
            simp only [Int32.reduceToInt] at g5
            omega
        rw [if_neg e0, if_neg nx]
        exact back τ2 b0 e4 hb1 hb2 nx
end MEND
