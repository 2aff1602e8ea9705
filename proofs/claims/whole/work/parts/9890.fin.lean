section FIN
theorem tm_v : ∀ k, k < 13 → (tmL.getD k 0).toInt = TM.getD k 0 ∧ (vlL.getD k 0).toInt = VL.getD k 0 ∧ (vmL.getD k 0).toInt = VM.getD k 0 := by decide
theorem kind_v {σ0 : Sg} {a : Nat} (h : ckKind σ0 a = true) : sK σ0 a = kt a := by
  unfold ckKind at h
  rw [Bool.and_eq_true] at h
  exact Prod.ext (Nat.eq_of_beq_eq_true h.1) (Nat.eq_of_beq_eq_true h.2)
theorem dec_v {P : Prop} [Decidable P] (h : decide P = true) : P := of_decide_eq_true h
theorem z32 : (0 : Int32).toInt = 0 := rfl
theorem act0 : Act 0 0 0 0 := by unfold Act; decide
theorem prg_v {σ0 : Sg} (h : kPrg σ0) (ha : ∀ p, p < 4 → kAct σ0 p) : Rprg σ0 σ0 := by
  obtain ⟨a1, a2, a3⟩ := h
  refine ⟨a1, by rw [a2]; decide, by rw [a2]; decide, fun p hp => ?_⟩
  obtain ⟨b1, b2, b3⟩ := a3 p hp
  refine ⟨b1, b2, b3, fun i hi => ?_, fun hh => ?_⟩
  · obtain ⟨x1, x2, x3, x4, x5, x6, x7, x8⟩ := ha p hp i hi
    rw [x1, x2, x3, x4, x5, x6, x7, x8]
    exact ⟨rfl, rfl, rfl, rfl, act0⟩
  · rw [a2, z32] at hh; omega
theorem tap_v {σ0 : Sg} (h : kTap σ0) : Rtap 0 σ0 σ0 := by
  intro d hd
  obtain ⟨x1, x2, x3, x4, x5, x6, x7, x8, x9, x10⟩ := h d hd
  rw [x1, x2, x3, x4, x5, x6, x7, x8, z32]
  refine ⟨rfl, by decide, by decide, rfl, by decide, by decide, fun j hj => by omega, rfl, by decide, by decide, rfl, by decide, by decide, x9, fun p hp => ?_⟩
  obtain ⟨y1, y2⟩ := x10 p hp
  exact ⟨y1, y2, fun hh => by omega⟩
theorem aO_got {T σ0 : Sg} {x y : Option Sg} (h : aO T x y) (e : x = some σ0) : ∃ τ0, y = some τ0 ∧ aL T σ0 τ0 := by
  subst e
  cases y with
  | none => exact h.elim
  | some τ0 => exact ⟨τ0, rfl, h⟩
theorem aL_get {n : Nat} {T σ τ σ0 : Sg} (hL : aL T σ τ) (e : st0 n σ = some σ0) : ∃ τ0, st0 n τ = some τ0 ∧ aL T σ0 τ0 := aO_got (aL_st0 hL) e
theorem start_ok (L : Nat) (xs : Nat → Int32) : ∃ τ0, st0 6000 (sg0 L xs) = some τ0 ∧ sN τ0 = 169 ∧ Lw L 0 3952 τ0 := by
  obtain ⟨σ0, e0, en⟩ := Option.map_eq_some_iff.mp st0_ok
  injection en with en ez
  obtain ⟨τ0, e1, r⟩ := aL_get (aL_sg0 L xs) e0
  · refine ⟨τ0, e1, r.1.symm.trans en, ?_⟩
    have E : ∀ a, 4 ≤ a → Sm σ0 τ0 a := fun a ha => ⟨funext fun k => (r.2.2.2.1 a k ha).1.symm, funext fun k => (r.2.2.2.1 a k ha).2.1.symm, funext fun k => (r.2.2.2.1 a k ha).2.2.1.symm⟩
    have c69 := st_get e0 ck_69
    simp only [Bool.and_eq_true] at c69
    have lt : Lay τ0 := by
      refine ⟨by rw [← r.1, en]; exact Nat.le_refl _, fun a h4 h => ?_, fun a k h4 h h69 hk => ?_, ⟨?_, ?_, ?_⟩, fun a h1 h4 => ?_⟩
      · have := allB_v (st_get e0 ck_kind) (a - 4) (by omega)
        rw [show 4 + (a - 4) = a by omega] at this
        exact (r.2.2.1 a h4).symm.trans (kind_v this)
      · rw [← (r.2.2.2.1 a k h4).2.2.2]; exact rows_v e0 a k h4 h h69 hk
      · rw [← (r.2.2.2.1 69 0 (by decide)).2.2.2]; exact Nat.eq_of_beq_eq_true c69.1.1.1
      · rw [← (r.2.2.2.1 69 1 (by decide)).2.2.2]; exact Nat.eq_of_beq_eq_true c69.1.1.2
      · rw [← (r.2.2.2.1 69 2 (by decide)).2.2.2, ← (r.2.2.2.1 69 3 (by decide)).2.2.2]
        exact Or.inl ⟨Nat.eq_of_beq_eq_true c69.1.2, Nat.eq_of_beq_eq_true c69.2⟩
      · rw [(r.2.2.2.2.2.2 a h4).1]
        show (if a = 0 then (13, L) else (13, 13)) = (13, 13)
        exact if_neg (by omega)
    obtain ⟨k1, k2, k3⟩ := dec_v (st_get e0 ck_tab)
    obtain ⟨k4, k5, k6, k8⟩ := dec_v (st_get e0 ck_led)
    have k7 := dec_v (st_get e0 ck_tap)
    have kA : ∀ p, p < 4 → kAct σ0 p := by
      intro p hp
      have : p = 0 ∨ p = 1 ∨ p = 2 ∨ p = 3 := by omega
      rcases this with q | q | q | q <;> rw [q]
      · exact dec_v (st_get e0 ck_act0)
      · exact dec_v (st_get e0 ck_act1)
      · exact dec_v (st_get e0 ck_act2)
      · exact dec_v (st_get e0 ck_act3)
    have e130 := (E 130 (by decide)).1
    have e4 := (E 4 (by decide)).1
    have e20 := (E 20 (by decide)).1
    have old : Rold τ0 := by
      intro k hk
      rw [(r.2.2.2.2.2.2 1 (by decide)).2 k, (r.2.2.2.2.2.2 2 (by decide)).2 k, (r.2.2.2.2.2.2 3 (by decide)).2 k]
      exact tm_v k hk
    have h4 : Rled 0 σ0 σ0 := ⟨k4.1, k4.2.1, by have := k4.2.2.1; omega, k4.2.2.2⟩
    refine ⟨⟨⟨lt, lt, old⟩, Rtab_f k1 (fun a ha => E a (by omega)) (fun a ha => E a (by omega)), Rwts_f k2 (fun a ha => E a (by omega)) (fun a ha => E a (by omega)), Rbil_f k3 (fun a ha => E a (by omega)) (E 133 (by decide)) (by rw [e130]), Rled_f h4 (Nat.le_refl _) (fun a ha => E a (by omega)) (E 146 (by decide)) (by rw [e130]), Rprg_f (prg_v k5 kA) (fun a ha => E a (by omega)) (fun a ha => E a (by omega)) (by rw [e130]) (by rw [e4]), Rlst_f k6 (fun a ha => E a (by omega)) (fun a ha => E a (by omega)) (by rw [e130]) (by rw [e20]), Rtap_f (tap_v k7) (Nat.le_refl _) (fun a ha => E a (by omega)) (fun a ha => E a (by omega)), Rmis_f k8 (by rw [e130]) (by rw [e130]) (by rw [e4])⟩, ?_, ?_, ?_⟩
    · rw [(r.2.2.2.2.2.2 0 (by decide)).1]; rfl
    · rw [← r.1, en]; exact Nat.le_refl _
    · rw [← r.2.1, ez]; exact Nat.le_refl _
/-- the first constructor alone -/
def st0a (n : Nat) (σ : Sg) : Option Sg :=
  nm (sN σ) fun r1 =>
  nm (nw σ 10 10) fun σ1 =>
  bp (f_X11_init n r1 σ1) fun σ2 =>
  some σ2
theorem aL_st0a {n : Nat} {T σ τ : Sg} (hL : aL T σ τ) : aO T (st0a n σ) (st0a n τ) := by
  unfold st0a
  refine aO_nm' hL.1 (fun r1 => ?_)
  refine aO_nmS (aL_nw hL) (fun _ _ hL => ?_)
  refine aO_bp (a_f_X11_init hL) (fun _ _ hL => ?_)
  exact hL
theorem aL_geta {n : Nat} {T σ τ σ0 : Sg} (hL : aL T σ τ) (e : st0a n σ = some σ0) : ∃ τ0, st0a n τ = some τ0 ∧ aL T σ0 τ0 := aO_got (aL_st0a hL) e
theorem st0a_ok : ((st0a 6000 (sg0 0 (fun _ => 0))).map (fun σ => sN σ)) = some 130 := by decide +kernel
theorem st0a_v (L : Nat) (xs : Nat → Int32) : ∃ τ1, st0a 6000 (sg0 L xs) = some τ1 ∧ sN τ1 = 130 := by
  obtain ⟨σ0, e0, en⟩ := Option.map_eq_some_iff.mp st0a_ok
  obtain ⟨τ0, e1, r⟩ := aL_geta (aL_sg0 L xs) e0
  exact ⟨τ0, e1, r.1.symm.trans en⟩
theorem bp_o {α β : Type} {x : Option α} {f : α → Option β} {b : β} (h : bp x f = some b) : ∃ a, x = some a ∧ f a = some b := by
  cases x with
  | none => cases h
  | some a => exact ⟨a, rfl, h⟩
theorem law_st {n : Nat} {σ τ1 τ0 : Sg} (h1 : st0a n σ = some τ1) (h0 : st0 n σ = some τ0) (n1 : sN τ1 = 130) (n0 : sN τ0 = 169) (ns : sN σ = 4) : f_L_law n 0 σ = b_L_law_23 n 0 4 130 168 0 τ0 := by
  unfold st0a at h1
  unfold st0 at h0
  rw [nm_t, nm_t] at h1 h0
  obtain ⟨s2, x1, x2⟩ := bp_o h1
  obtain ⟨s2', y1, y2⟩ := bp_o h0
  rw [x1] at y1
  injection y1 with y1
  subst y1
  injection x2 with x2
  subst x2
  rw [nm_t, nm_t] at y2
  obtain ⟨s4, z1, z2⟩ := bp_o y2
  rw [nm_t] at z2
  injection z2 with z2
  have n4 : sN s4 = 168 := by
    rw [← z2, sN_nw] at n0
    omega
  unfold f_L_law
  rw [nm_t, nm_t, x1, bp_s, nm_t, nm_t, z1, bp_s, nm_t, nm_t, z2, ns, n1, n4]
theorem lw_all : lw_pure := by
  intro L xs hL
  obtain ⟨τ0, e0, n0, hw⟩ := start_ok L xs
  obtain ⟨τ1, e1, n1⟩ := st0a_v L xs
  obtain ⟨σ', h1, h2, h3⟩ := law_loop (L := L) (Z := 3952) 512 6000 0 0 τ0 hw hL rfl (by decide) (by omega) (by decide)
  refine ⟨6000, σ', ?_, by omega, by omega⟩
  rw [law_st e1 e0 n1 n0 rfl]
  exact h1
end FIN
