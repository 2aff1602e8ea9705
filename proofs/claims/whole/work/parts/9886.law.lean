section LAW1
variable {L c Z n : Nat} {σ : Sg} {v4 : Int32}
theorem Rl_up {τ : Sg} (h : Rl c τ σ) : Rl (c + 1) τ σ := by
  obtain ⟨⟨lt, ls, h0⟩, h1, h2, h3, h4, h5, h6, h7, h8⟩ := h
  have E : ∀ a, 0 ≤ a → Sm τ τ a := fun a ha => Sm_refl
  have E' : ∀ a, 0 ≤ a → Sm σ σ a := fun a ha => Sm_refl
  exact ⟨⟨lt, ls, Rold_f h0 (fun a ha => E a (by omega))⟩, Rtab_f h1 (fun a ha => E a (by omega)) (fun a ha => E' a (by omega)), Rwts_f h2 (fun a ha => E a (by omega)) (fun a ha => E' a (by omega)), Rbil_f h3 (fun a ha => E a (by omega)) (E' 133 (by omega)) (by first | rfl | simp (disch := omega) only [gI_pI_s, gJ_pJ_s, gD_pD_s, gI_pJ, gI_pD, gJ_pI, gJ_pD, gD_pI, gD_pJ, gI_pI_a, gJ_pJ_a, gD_pD_a, gI_pI_k, gJ_pJ_k, gD_pD_k, gI_mI_i, gJ_mJ_i, gD_mD_i, gI_mJ, gI_mD, gJ_mI, gJ_mD, gD_mI, gD_mJ, gI_mI_a, gJ_mJ_a, gD_mD_a, gI_mI_o, gJ_mJ_o, gD_mD_o]), Rled_f h4 (Nat.le_succ _) (fun a ha => E a (by omega)) (E' 146 (by omega)) (by first | rfl | simp (disch := omega) only [gI_pI_s, gJ_pJ_s, gD_pD_s, gI_pJ, gI_pD, gJ_pI, gJ_pD, gD_pI, gD_pJ, gI_pI_a, gJ_pJ_a, gD_pD_a, gI_pI_k, gJ_pJ_k, gD_pD_k, gI_mI_i, gJ_mJ_i, gD_mD_i, gI_mJ, gI_mD, gJ_mI, gJ_mD, gD_mI, gD_mJ, gI_mI_a, gJ_mJ_a, gD_mD_a, gI_mI_o, gJ_mJ_o, gD_mD_o]), Rprg_f h5 (fun a ha => E a (by omega)) (fun a ha => E' a (by omega)) (by first | rfl | simp (disch := omega) only [gI_pI_s, gJ_pJ_s, gD_pD_s, gI_pJ, gI_pD, gJ_pI, gJ_pD, gD_pI, gD_pJ, gI_pI_a, gJ_pJ_a, gD_pD_a, gI_pI_k, gJ_pJ_k, gD_pD_k, gI_mI_i, gJ_mJ_i, gD_mD_i, gI_mJ, gI_mD, gJ_mI, gJ_mD, gD_mI, gD_mJ, gI_mI_a, gJ_mJ_a, gD_mD_a, gI_mI_o, gJ_mJ_o, gD_mD_o]) (by first | rfl | simp (disch := omega) only [gI_pI_s, gJ_pJ_s, gD_pD_s, gI_pJ, gI_pD, gJ_pI, gJ_pD, gD_pI, gD_pJ, gI_pI_a, gJ_pJ_a, gD_pD_a, gI_pI_k, gJ_pJ_k, gD_pD_k, gI_mI_i, gJ_mJ_i, gD_mD_i, gI_mJ, gI_mD, gJ_mI, gJ_mD, gD_mI, gD_mJ, gI_mI_a, gJ_mJ_a, gD_mD_a, gI_mI_o, gJ_mJ_o, gD_mD_o]), Rlst_f h6 (fun a ha => E a (by omega)) (fun a ha => E' a (by omega)) (by first | rfl | simp (disch := omega) only [gI_pI_s, gJ_pJ_s, gD_pD_s, gI_pJ, gI_pD, gJ_pI, gJ_pD, gD_pI, gD_pJ, gI_pI_a, gJ_pJ_a, gD_pD_a, gI_pI_k, gJ_pJ_k, gD_pD_k, gI_mI_i, gJ_mJ_i, gD_mD_i, gI_mJ, gI_mD, gJ_mI, gJ_mD, gD_mI, gD_mJ, gI_mI_a, gJ_mJ_a, gD_mD_a, gI_mI_o, gJ_mJ_o, gD_mD_o]) (by first | rfl | simp (disch := omega) only [gI_pI_s, gJ_pJ_s, gD_pD_s, gI_pJ, gI_pD, gJ_pI, gJ_pD, gD_pI, gD_pJ, gI_pI_a, gJ_pJ_a, gD_pD_a, gI_pI_k, gJ_pJ_k, gD_pD_k, gI_mI_i, gJ_mJ_i, gD_mD_i, gI_mJ, gI_mD, gJ_mI, gJ_mD, gD_mI, gD_mJ, gI_mI_a, gJ_mJ_a, gD_mD_a, gI_mI_o, gJ_mJ_o, gD_mD_o]), Rtap_f h7 (Nat.le_succ _) (fun a ha => E a (by omega)) (fun a ha => E' a (by omega)), Rmis_f h8 (by first | rfl | simp (disch := omega) only [gI_pI_s, gJ_pJ_s, gD_pD_s, gI_pJ, gI_pD, gJ_pI, gJ_pD, gD_pI, gD_pJ, gI_pI_a, gJ_pJ_a, gD_pD_a, gI_pI_k, gJ_pJ_k, gD_pD_k, gI_mI_i, gJ_mJ_i, gD_mD_i, gI_mJ, gI_mD, gJ_mI, gJ_mD, gD_mI, gD_mJ, gI_mI_a, gJ_mJ_a, gD_mD_a, gI_mI_o, gJ_mJ_o, gD_mD_o]) (by first | rfl | simp (disch := omega) only [gI_pI_s, gJ_pJ_s, gD_pD_s, gI_pJ, gI_pD, gJ_pI, gJ_pD, gD_pI, gD_pJ, gI_pI_a, gJ_pJ_a, gD_pD_a, gI_pI_k, gJ_pJ_k, gD_pD_k, gI_mI_i, gJ_mJ_i, gD_mD_i, gI_mJ, gI_mD, gJ_mI, gJ_mD, gD_mI, gD_mJ, gI_mI_a, gJ_mJ_a, gD_mD_a, gI_mI_o, gJ_mJ_o, gD_mD_o]) (by first | rfl | simp (disch := omega) only [gI_pI_s, gJ_pJ_s, gD_pD_s, gI_pJ, gI_pD, gJ_pI, gJ_pD, gD_pI, gD_pJ, gI_pI_a, gJ_pJ_a, gD_pD_a, gI_pI_k, gJ_pJ_k, gD_pD_k, gI_mI_i, gJ_mJ_i, gD_mD_i, gI_mJ, gI_mD, gJ_mI, gJ_mD, gD_mI, gD_mJ, gI_mI_a, gJ_mJ_a, gD_mD_a, gI_mI_o, gJ_mJ_o, gD_mD_o])⟩
/-- the law's heap behind c calls, with a script of L numbers -/
def Lw (L c Z : Nat) (σ : Sg) : Prop := Rl c σ σ ∧ sK σ 0 = (13, L) ∧ sN σ ≤ 169 + c ∧ sZ σ ≤ Z + 6 * c
/-- there is a call at v4 -/
def Wv (L : Nat) (v4 : Int32) : Prop := 0 ≤ v4.toInt ∧ v4.toInt + 5 < L ∧ L ≤ 3072
theorem ok0 (h0 : sK σ 0 = (13, L)) (hl : Lay σ) (hv : Wv L v4) (j : Int32) (h1 : 0 ≤ j.toInt) (h2 : j.toInt ≤ 5) : okA σ 0 13 (v4 + j) := by
  obtain ⟨a1, a2, a3⟩ := hv
  have e : (v4 + j).toInt = v4.toInt + j.toInt := i32_add (by omega) (by omega)
  have hn := hl.1
  have x : ix (v4 + j) L := ix_of (by omega) (by omega)
  refine ⟨by omega, by rw [h0], ?_⟩
  rw [h0]
  exact x
theorem okv (h0 : sK σ 0 = (13, L)) (hl : Lay σ) (hv : Wv L v4) : okA σ 0 13 v4 := by
  obtain ⟨a1, a2, a3⟩ := hv
  have hn := hl.1
  have x : ix v4 L := ix_of (by omega) (by omega)
  refine ⟨by omega, by rw [h0], ?_⟩
  rw [h0]
  exact x
theorem o10 (h : Lay σ) : okO σ 4 10 := lobj h (by decide) (by decide) (by decide)
theorem o11 (h : Lay σ) : okO σ 130 11 := lobj h (by decide) (by decide) (by decide)
theorem ar168 : Ar 14 1 168 := by decide
theorem ok168 (h : Lay σ) : okA σ 168 14 (0 : Int32) := (okA_iff h ar168).mpr (by decide)
theorem okw168 (h : Lay σ) : okW σ 168 14 (0 : Int32) := (okW_iff h ar168).mpr (by decide)
/-- a call that answers -/
theorem twoA {ρ : Type} {C D : Sg → Option (ρ × Sg)} (h : Lw L c Z σ) (S : ∀ τ σ, Rl c τ σ → ∃ r τ' σ', C τ = some (r, τ') ∧ D σ = some (r, σ') ∧ Rl (c + 1) τ' σ') (tC : ∀ b, C σ = some b → To 4 130 σ b.2) (tD : ∀ s b, Lay s → D s = some b → To 130 168 s b.2) :
    ∃ r τ' σ', C σ = some (r, τ') ∧ D τ' = some (r, σ') ∧ Lay τ' ∧ gI τ' 0 = gI σ 0 ∧ sK τ' 0 = (13, L) ∧ Lw L (c + 1) Z σ' := by
  obtain ⟨h1, h2, h3, h4⟩ := h
  obtain ⟨r, τ', σ', e1, -, -⟩ := S σ σ h1
  have t := tC _ e1
  have hr : Rl c σ τ' := Rl_f h1 h1.1.1 t.1 (fun _ _ => Sm_refl) (fun a ha => Sm_to t (by omega))
  obtain ⟨r2, τ2, σ2, e2, e3, e4⟩ := S σ τ' hr
  rw [e1] at e2
  injection e2 with e2
  injection e2 with e2 e5
  subst e2 e5
  have t2 := tD _ _ t.1 e3
  refine ⟨r, τ', σ2, e1, e3, t.1, (Sm_to t (by omega)).1, by rw [t.2.1.2.2.1]; exact h2, Rl_f e4 t2.1 t2.1 (fun a ha => Sm_to t2 (by omega)) (fun _ _ => Sm_refl), ?_, ?_, ?_⟩
  · rw [t2.2.1.2.2.1, t.2.1.2.2.1]; exact h2
  · rw [t2.2.1.1, t.2.1.1]; omega
  · rw [t2.2.1.2.1, t.2.1.2.1]; omega
theorem Lw_up (h : Lw L c Z σ) : Lw L (c + 1) Z σ := ⟨Rl_up h.1, h.2.1, by have := h.2.2.1; omega, by have := h.2.2.2; omega⟩
/-- a call that answers or throws -/
theorem twoY {ρ : Type} {cv : ρ → Int64} {C : Sg → Option ((ρ ⊕ String) × Sg)} {D : Sg → Option (ρ × Sg)} (h : Lw L c Z σ) (S : ∀ τ σ, Rl c τ σ → ∃ x v τ' σ', C τ = some (x, τ') ∧ D σ = some (v, σ') ∧ RXg x v (gI σ' 130 0) ∧ Rl (c + 1) τ' σ') (tC : ∀ b, C σ = some b → ToX 4 130 σ b.2) (tD : ∀ s b, Lay s → D s = some b → To 130 168 s b.2) :
    ∃ k σ1 v σ2, bx (C σ) (fun x5 σ6 => ck (okW σ6 168 14 (0 : Int32)) <| nm (pJ σ6 168 (0 : Int32).toNatClampNeg (cv x5)) fun σ9 => some ((0 : Int32), σ9)) (fun E7 σ6 => if E7 = nIA then some ((1 : Int32), σ6) else none) = some (k, σ1) ∧ D σ1 = some (v, σ2) ∧ gI σ2 130 0 = k ∧ (k = 0 → gJ σ2 168 0 = cv v) ∧ Lay σ1 ∧ gI σ1 0 = gI σ 0 ∧ sK σ1 0 = (13, L) ∧ Lw L (c + 1) Z σ2 := by
  obtain ⟨h1, h2, h3, h4⟩ := h
  obtain ⟨x, v, τ', σ', e1, -, -, -⟩ := S σ σ h1
  have t : ToX 4 130 σ τ' := tC _ e1
  have n169 := h1.1.1.1
  -- what stands behind the helper
  have go : ∀ (k : Int32) (σ1 : Sg), (σ1 = τ' ∨ ∃ w, σ1 = pJ τ' 168 0 w) → bx (C σ) (fun x5 σ6 => ck (okW σ6 168 14 (0 : Int32)) <| nm (pJ σ6 168 (0 : Int32).toNatClampNeg (cv x5)) fun σ9 => some ((0 : Int32), σ9)) (fun E7 σ6 => if E7 = nIA then some ((1 : Int32), σ6) else none) = some (k, σ1) → (∀ v σ2, RXg x v (gI σ2 130 0) → gJ σ2 168 = gJ σ1 168 → gI σ2 130 0 = k ∧ (k = 0 → gJ σ2 168 0 = cv v)) →
      ∃ k σ1 v σ2, bx (C σ) (fun x5 σ6 => ck (okW σ6 168 14 (0 : Int32)) <| nm (pJ σ6 168 (0 : Int32).toNatClampNeg (cv x5)) fun σ9 => some ((0 : Int32), σ9)) (fun E7 σ6 => if E7 = nIA then some ((1 : Int32), σ6) else none) = some (k, σ1) ∧ D σ1 = some (v, σ2) ∧ gI σ2 130 0 = k ∧ (k = 0 → gJ σ2 168 0 = cv v) ∧ Lay σ1 ∧ gI σ1 0 = gI σ 0 ∧ sK σ1 0 = (13, L) ∧ Lw L (c + 1) Z σ2 := by
    intro k σ1 hs e hk
    have l1 : Lay σ1 := by
      rcases hs with q | ⟨w, q⟩ <;> rw [q] <;> exact t.1
    have fr : σ1.1 = τ'.1 := by
      rcases hs with q | ⟨w, q⟩ <;> rw [q] <;> rfl
    have sm : ∀ a, a ≠ 168 → Sm τ' σ1 a := by
      intro a ha
      rcases hs with q | ⟨w, q⟩ <;> rw [q]
      · exact Sm_refl
      · exact Sm_pJ Sm_refl ha
    have st : ∀ a, a < 168 → ¬ (4 ≤ a ∧ a < 130) → Sm σ σ1 a := fun a ha hb => Sm_tr (t.2.2 a (by omega) hb) (sm a (by omega))
    have hr : Rl c σ σ1 := Rl_f h1 h1.1.1 l1 (fun _ _ => Sm_refl) (fun a ha => st a (by omega) (by omega))
    obtain ⟨x2, v, τ2, σ2, e2, e3, e4, e5⟩ := S σ σ1 hr
    rw [e1] at e2
    injection e2 with e2
    injection e2 with e2 e6
    subst e2 e6
    have t2 := tD _ _ l1 e3
    have hkk := hk v σ2 e4 (Sm_to t2 (by omega)).2.1
    have k0 : sK σ1 0 = (13, L) := by show σ1.1.2.2 0 = _; rw [fr]; exact t.2.1.2.2.2.trans h2
    refine ⟨k, σ1, v, σ2, e, e3, hkk.1, hkk.2, l1, (st 0 (by omega) (by omega)).1, k0, Rl_f e5 t2.1 t2.1 (fun a ha => Sm_tr (sm a (by omega)) (Sm_to t2 (by omega))) (fun _ _ => Sm_refl), ?_, ?_, ?_⟩
    · rw [t2.2.1.2.2.1]; exact k0
    · rw [t2.2.1.1]; show σ1.1.1 ≤ _; rw [fr]; show sN τ' ≤ _; have := t.2.1.2.1; omega
    · rw [t2.2.1.2.1]; show σ1.1.2.1 ≤ _; rw [fr]; show sZ τ' ≤ _; have := t.2.1.2.2.1; omega
  cases x with
  | inl w =>
    refine go 0 (pJ τ' 168 0 (cv w)) (Or.inr ⟨_, rfl⟩) ?_ ?_
    · rw [e1]
      show ck (okW τ' 168 14 (0 : Int32)) (nm (pJ τ' 168 (0 : Int32).toNatClampNeg (cv w)) fun σ9 => some ((0 : Int32), σ9)) = _
      rw [ck_t (okw168 t.1), nm_t]; rfl
    · intro v σ2 hx hg
      rcases hx with ⟨q1, q2⟩ | ⟨q1, -⟩
      · injection q1 with q1
        refine ⟨q2, fun _ => ?_⟩
        rw [hg, gJ_pJ_s, q1]
      · exact absurd q1 (by intro z; cases z)
  | inr E =>
    by_cases qE : E = nIA
    · refine go 1 τ' (Or.inl rfl) ?_ ?_
      · rw [e1]
        show (if E = nIA then some ((1 : Int32), τ') else none) = _
        rw [if_pos qE]
      · intro v σ2 hx hg
        rcases hx with ⟨q1, -⟩ | ⟨-, q2⟩
        · exact absurd q1 (by intro z; cases z)
        · exact ⟨q2, fun q => absurd q (by decide)⟩
    · obtain ⟨x2, v, τ2, σ2, e2, -, e4, -⟩ := S σ σ h1
      rw [e1] at e2
      injection e2 with e2
      injection e2 with e2 e6
      subst e2
      rcases e4 with ⟨q1, -⟩ | ⟨q1, -⟩
      · exact absurd q1 (by intro z; cases z)
      · injection q1 with q1; exact absurd q1 qE
/-- at may throw two ways -/
theorem twoX {C : Sg → Option ((Int64 ⊕ String) × Sg)} {D : Sg → Option (Int64 × Sg)} (h : Lw L c Z σ) (S : ∀ τ σ, Rl c τ σ → ∃ x v τ' σ', C τ = some (x, τ') ∧ D σ = some (v, σ') ∧ RX x v (gI σ' 130 0) ∧ Rl (c + 1) τ' σ') (tC : ∀ b, C σ = some b → ToX 4 130 σ b.2) (tD : ∀ s b, Lay s → D s = some b → To 130 168 s b.2) :
    ∃ k σ1 v σ2, bx (C σ) (fun x5 σ6 => ck (okW σ6 168 14 (0 : Int32)) <| nm (pJ σ6 168 (0 : Int32).toNatClampNeg x5) fun σ9 => some ((0 : Int32), σ9)) (fun E7 σ6 => if E7 = nIA then some ((1 : Int32), σ6) else if E7 = nIS then some ((2 : Int32), σ6) else none) = some (k, σ1) ∧ D σ1 = some (v, σ2) ∧ gI σ2 130 0 = k ∧ (k = 0 → gJ σ2 168 0 = v) ∧ Lay σ1 ∧ gI σ1 0 = gI σ 0 ∧ sK σ1 0 = (13, L) ∧ Lw L (c + 1) Z σ2 := by
  obtain ⟨h1, h2, h3, h4⟩ := h
  obtain ⟨x, v, τ', σ', e1, -, -, -⟩ := S σ σ h1
  have t : ToX 4 130 σ τ' := tC _ e1
  have n169 := h1.1.1.1
  have go : ∀ (k : Int32) (σ1 : Sg), (σ1 = τ' ∨ ∃ w, σ1 = pJ τ' 168 0 w) → bx (C σ) (fun x5 σ6 => ck (okW σ6 168 14 (0 : Int32)) <| nm (pJ σ6 168 (0 : Int32).toNatClampNeg x5) fun σ9 => some ((0 : Int32), σ9)) (fun E7 σ6 => if E7 = nIA then some ((1 : Int32), σ6) else if E7 = nIS then some ((2 : Int32), σ6) else none) = some (k, σ1) → (∀ v σ2, RX x v (gI σ2 130 0) → gJ σ2 168 = gJ σ1 168 → gI σ2 130 0 = k ∧ (k = 0 → gJ σ2 168 0 = v)) →
      ∃ k σ1 v σ2, bx (C σ) (fun x5 σ6 => ck (okW σ6 168 14 (0 : Int32)) <| nm (pJ σ6 168 (0 : Int32).toNatClampNeg x5) fun σ9 => some ((0 : Int32), σ9)) (fun E7 σ6 => if E7 = nIA then some ((1 : Int32), σ6) else if E7 = nIS then some ((2 : Int32), σ6) else none) = some (k, σ1) ∧ D σ1 = some (v, σ2) ∧ gI σ2 130 0 = k ∧ (k = 0 → gJ σ2 168 0 = v) ∧ Lay σ1 ∧ gI σ1 0 = gI σ 0 ∧ sK σ1 0 = (13, L) ∧ Lw L (c + 1) Z σ2 := by
    intro k σ1 hs e hk
    have l1 : Lay σ1 := by
      rcases hs with q | ⟨w, q⟩ <;> rw [q] <;> exact t.1
    have fr : σ1.1 = τ'.1 := by
      rcases hs with q | ⟨w, q⟩ <;> rw [q] <;> rfl
    have sm : ∀ a, a ≠ 168 → Sm τ' σ1 a := by
      intro a ha
      rcases hs with q | ⟨w, q⟩ <;> rw [q]
      · exact Sm_refl
      · exact Sm_pJ Sm_refl ha
    have st : ∀ a, a < 168 → ¬ (4 ≤ a ∧ a < 130) → Sm σ σ1 a := fun a ha hb => Sm_tr (t.2.2 a (by omega) hb) (sm a (by omega))
    have hr : Rl c σ σ1 := Rl_f h1 h1.1.1 l1 (fun _ _ => Sm_refl) (fun a ha => st a (by omega) (by omega))
    obtain ⟨x2, v, τ2, σ2, e2, e3, e4, e5⟩ := S σ σ1 hr
    rw [e1] at e2
    injection e2 with e2
    injection e2 with e2 e6
    subst e2 e6
    have t2 := tD _ _ l1 e3
    have hkk := hk v σ2 e4 (Sm_to t2 (by omega)).2.1
    have k0 : sK σ1 0 = (13, L) := by show σ1.1.2.2 0 = _; rw [fr]; exact t.2.1.2.2.2.trans h2
    refine ⟨k, σ1, v, σ2, e, e3, hkk.1, hkk.2, l1, (st 0 (by omega) (by omega)).1, k0, Rl_f e5 t2.1 t2.1 (fun a ha => Sm_tr (sm a (by omega)) (Sm_to t2 (by omega))) (fun _ _ => Sm_refl), ?_, ?_, ?_⟩
    · rw [t2.2.1.2.2.1]; exact k0
    · rw [t2.2.1.1]; show σ1.1.1 ≤ _; rw [fr]; show sN τ' ≤ _; have := t.2.1.2.1; omega
    · rw [t2.2.1.2.1]; show σ1.1.2.1 ≤ _; rw [fr]; show sZ τ' ≤ _; have := t.2.1.2.2.1; omega
  cases x with
  | inl w =>
    refine go 0 (pJ τ' 168 0 w) (Or.inr ⟨_, rfl⟩) ?_ ?_
    · rw [e1]
      show ck (okW τ' 168 14 (0 : Int32)) (nm (pJ τ' 168 (0 : Int32).toNatClampNeg w) fun σ9 => some ((0 : Int32), σ9)) = _
      rw [ck_t (okw168 t.1), nm_t]; rfl
    · intro v σ2 hx hg
      rcases hx with ⟨q1, q2⟩ | ⟨q1, -⟩ | ⟨q1, -⟩
      · injection q1 with q1
        refine ⟨q2, fun _ => ?_⟩
        rw [hg, gJ_pJ_s, q1]
      · exact absurd q1 (by intro z; cases z)
      · exact absurd q1 (by intro z; cases z)
  | inr E =>
    by_cases qE : E = nIA
    · refine go 1 τ' (Or.inl rfl) ?_ ?_
      · rw [e1]
        show (if E = nIA then some ((1 : Int32), τ') else if E = nIS then some ((2 : Int32), τ') else none) = _
        rw [if_pos qE]
      · intro v σ2 hx hg
        rcases hx with ⟨q1, -⟩ | ⟨-, q2⟩ | ⟨q1, -⟩
        · exact absurd q1 (by intro z; cases z)
        · exact ⟨q2, fun q => absurd q (by decide)⟩
        · injection q1 with q1; rw [qE] at q1; exact absurd q1 (by decide)
    · by_cases qS : E = nIS
      · refine go 2 τ' (Or.inl rfl) ?_ ?_
        · rw [e1]
          show (if E = nIA then some ((1 : Int32), τ') else if E = nIS then some ((2 : Int32), τ') else none) = _
          rw [if_neg qE, if_pos qS]
        · intro v σ2 hx hg
          rcases hx with ⟨q1, -⟩ | ⟨q1, -⟩ | ⟨-, q2⟩
          · exact absurd q1 (by intro z; cases z)
          · injection q1 with q1; exact absurd q1 qE
          · exact ⟨q2, fun q => absurd q (by decide)⟩
      · obtain ⟨x2, v, τ2, σ2, e2, -, e4, -⟩ := S σ σ h1
        rw [e1] at e2
        injection e2 with e2
        injection e2 with e2 e6
        subst e2
        rcases e4 with ⟨q1, -⟩ | ⟨q1, -⟩ | ⟨q1, -⟩
        · exact absurd q1 (by intro z; cases z)
        · injection q1 with q1; exact absurd q1 qE
        · injection q1 with q1; exact absurd q1 qS
/-- never an IllegalStateException -/
def NoS (o : Option ((Int64 ⊕ String) × Sg)) : Prop := ∀ b, o = some b → b.1 ≠ .inr nIS
theorem NoS_a {τ : Sg} : NoS (some (.inr nIA, τ)) := fun b e => by injection e with e; rw [← e]; intro z; injection z with z; exact absurd z (by decide)
theorem NoS_l {τ : Sg} {x : Int64} : NoS (some (.inl x, τ)) := fun b e => by injection e with e; rw [← e]; intro z; cases z
theorem NoS_i {P : Prop} [Decidable P] {x y : Option ((Int64 ⊕ String) × Sg)} (h : NoS x) (h' : NoS y) : NoS (if P then x else y) := by split <;> assumption
theorem NoS_c {P : Prop} [Decidable P] {x : Option ((Int64 ⊕ String) × Sg)} (h : NoS x) : NoS (ck P x) := by
  unfold ck
  split
  · exact h
  · intro b e; cases e
theorem NoS_b {α : Type} {o : Option α} {f : α → Option ((Int64 ⊕ String) × Sg)} (h : ∀ a, NoS (f a)) : NoS (bp o f) := by
  cases o with
  | none => intro b e; cases e
  | some a => exact h a
theorem RX_g {x : Int64 ⊕ String} {v : Int64} {t : Int32} (h : RX x v t) (hn : x ≠ .inr nIS) : RXg x v t := by
  rcases h with h | h | h
  · exact Or.inl h
  · exact Or.inr h
  · exact absurd h.1 hn
end LAW1
