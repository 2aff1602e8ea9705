theorem aO_nm' {T : Sg} {α : Type} {v w : α} {f g : α → Option Sg} (e : v = w) (h : ∀ x, aO T (f x) (g x)) : aO T (nm v f) (nm w g) := by subst e; exact h v
theorem aL_nwM {T σ τ : Sg} (h : aL T σ τ) : aL T (nwM σ) (nwM τ) := by
  obtain ⟨h0, hz, hk, hg, h4, h5, h7⟩ := h
  refine ⟨?_, ?_, fun b hb => ?_, fun b j hb => ?_, ?_, fun b hb => ?_, fun b hb => ?_⟩
  · show sN σ + 5 = sN τ + 5
    rw [h0]
  · show sZ σ + 36 = sZ τ + 36
    rw [hz]
  · have := hk b hb
    show (if b = sN σ then (18, 4) else if sN σ < b ∧ b ≤ sN σ + 4 then (13, 8) else sK σ b) = (if b = sN τ then (18, 4) else if sN τ < b ∧ b ≤ sN τ + 4 then (13, 8) else sK τ b)
    rw [h0, this]
  · obtain ⟨h1, h2, h3, h6⟩ := hg b j hb
    unfold nwM gI gJ gD gR at *
    dsimp only
    refine ⟨?_, ?_, ?_, ?_⟩ <;> simp only [h0, h1, h2, h3, h6]
  · show 4 ≤ sN σ + 5
    omega
  · have := h5 b hb
    constructor
    · show (if b = sN σ then (18, 4) else if sN σ < b ∧ b ≤ sN σ + 4 then (13, 8) else sK σ b).1 = 13
      rw [if_neg (by omega), if_neg (by omega)]
      exact this.1
    · show (if b = sN τ then (18, 4) else if sN τ < b ∧ b ≤ sN τ + 4 then (13, 8) else sK τ b).1 = 13
      rw [if_neg (by omega), if_neg (by omega)]
      exact this.2
  · have := h7 b hb
    constructor
    · show (if b = sN τ then (18, 4) else if sN τ < b ∧ b ≤ sN τ + 4 then (13, 8) else sK τ b) = _
      rw [if_neg (by omega), if_neg (by omega)]
      exact this.1
    · intro j
      rw [← this.2 j]
      unfold nwM gI
      dsimp only
      rw [if_neg (by omega)]
theorem a_f_X4_init {v0 : Nat} {T σ τ : Sg} (hL : aL T σ τ) : aO T (f_X4_init v0 σ) (f_X4_init v0 τ) := by
  unfold f_X4_init
  refine aO_nm' hL.1 (fun r6 => ?_)
  refine aO_nmS (aL_nw hL) (fun _ _ hL => ?_)
  refine aO_ck (aL_okO hL) (fun q1 => ?_)
  refine aO_ck Iff.rfl (fun q2 => ?_)
  refine aO_nmS (aL_pR hL) (fun _ _ hL => ?_)
  exact hL
theorem a_f_X9_init {v0 : Nat} {T σ τ : Sg} (hL : aL T σ τ) : aO T (f_X9_init v0 σ) (f_X9_init v0 τ) := by
  unfold f_X9_init
  refine aO_nm' hL.1 (fun r23 => ?_)
  refine aO_nmS (aL_nw hL) (fun _ _ hL => ?_)
  refine aO_ck (aL_okO hL) (fun q3 => ?_)
  refine aO_ck Iff.rfl (fun q4 => ?_)
  refine aO_nmS (aL_pR hL) (fun _ _ hL => ?_)
  refine aO_nm' hL.1 (fun r28 => ?_)
  refine aO_nmS (aL_nw hL) (fun _ _ hL => ?_)
  refine aO_bp (a_f_X4_init hL) (fun _ _ hL => ?_)
  refine aO_ck (aL_okO hL) (fun q5 => ?_)
  refine aO_ck Iff.rfl (fun q6 => ?_)
  refine aO_nmS (aL_pR hL) (fun _ _ hL => ?_)
  refine aO_nm' hL.1 (fun r35 => ?_)
  refine aO_nmS (aL_nw hL) (fun _ _ hL => ?_)
  refine aO_ck (aL_okO hL) (fun q7 => ?_)
  refine aO_ck Iff.rfl (fun q8 => ?_)
  refine aO_nmS (aL_pR hL) (fun _ _ hL => ?_)
  refine aO_nm' hL.1 (fun r40 => ?_)
  refine aO_nmS (aL_nw hL) (fun _ _ hL => ?_)
  refine aO_ck (aL_okO hL) (fun q9 => ?_)
  refine aO_ck Iff.rfl (fun q10 => ?_)
  refine aO_nmS (aL_pR hL) (fun _ _ hL => ?_)
  exact hL
theorem a_b_X8_reset_30 : ∀ (n : Nat) (v0 : Nat) (v1 : Int32) (T σ τ : Sg), aL T σ τ → aO T (b_X8_reset_30 n v0 v1 σ) (b_X8_reset_30 n v0 v1 τ) := by
  intro n
  induction n with
  | zero => intro v0 v1 T σ τ hL; exact trivial
  | succ n ih =>
    intro v0 v1 T σ τ hL
    unfold b_X8_reset_30
    refine aO_it Iff.rfl (fun _ => ?_) (fun _ => ?_)
    · exact hL
    · refine aO_ck (aL_okO hL) (fun q11 => ?_)
      rw [← (hL.2.2.2.1 v0 2 q11.1).2.2.2]
      refine aO_ck Iff.rfl (fun q12 => ?_)
      refine aO_nm' rfl (fun r38 => ?_)
      refine aO_ck (aL_okA hL (by decide)) (fun q13 => ?_)
      have gq13 := aL_ge hL (by decide) q13
      rw [← (hL.2.2.2.1 r38 (v1.toNatClampNeg) gq13).2.2.2]
      refine aO_ck Iff.rfl (fun q14 => ?_)
      refine aO_nm' rfl (fun r41 => ?_)
      refine aO_ck (aL_okW hL) (fun q15 => ?_)
      refine aO_nmS (aL_pI hL q15.1) (fun _ _ hL => ?_)
      refine aO_ck (aL_okO hL) (fun q16 => ?_)
      rw [← (hL.2.2.2.1 v0 2 q16.1).2.2.2]
      refine aO_ck Iff.rfl (fun q17 => ?_)
      refine aO_nm' rfl (fun r46 => ?_)
      refine aO_ck (aL_okA hL (by decide)) (fun q18 => ?_)
      have gq18 := aL_ge hL (by decide) q18
      rw [← (hL.2.2.2.1 r46 (v1.toNatClampNeg) gq18).2.2.2]
      refine aO_ck Iff.rfl (fun q19 => ?_)
      refine aO_nm' rfl (fun r49 => ?_)
      refine aO_ck (aL_okW hL) (fun q20 => ?_)
      refine aO_nmS (aL_pI hL q20.1) (fun _ _ hL => ?_)
      refine aO_ck (aL_okO hL) (fun q21 => ?_)
      rw [← (hL.2.2.2.1 v0 3 q21.1).2.2.2]
      refine aO_ck Iff.rfl (fun q22 => ?_)
      refine aO_nm' rfl (fun r54 => ?_)
      refine aO_ck (aL_okW hL) (fun q23 => ?_)
      refine aO_nmS (aL_pI hL q23.1) (fun _ _ hL => ?_)
      refine aO_nm' rfl (fun x57 => ?_)
      exact ih _ _ _ _ _ hL
theorem a_b_X8_reset_28 {n : Nat} {v0 : Nat} {T σ τ : Sg} (hL : aL T σ τ) : aO T (b_X8_reset_28 n v0 σ) (b_X8_reset_28 n v0 τ) := by
  unfold b_X8_reset_28
  exact a_b_X8_reset_30 _ _ _ _ _ _ hL
theorem a_b_X8_reset_2 : ∀ (n : Nat) (v0 : Nat) (v1 : Int32) (T σ τ : Sg), aL T σ τ → aO T (b_X8_reset_2 n v0 v1 σ) (b_X8_reset_2 n v0 v1 τ) := by
  intro n
  induction n with
  | zero => intro v0 v1 T σ τ hL; exact trivial
  | succ n ih =>
    intro v0 v1 T σ τ hL
    unfold b_X8_reset_2
    refine aO_it Iff.rfl (fun _ => ?_) (fun _ => ?_)
    · exact a_b_X8_reset_28 hL
    · refine aO_ck (aL_okO hL) (fun q24 => ?_)
      rw [← (hL.2.2.2.1 v0 0 q24.1).2.2.2]
      refine aO_ck Iff.rfl (fun q25 => ?_)
      refine aO_nm' rfl (fun r60 => ?_)
      refine aO_ck (aL_okW hL) (fun q26 => ?_)
      refine aO_nmS (aL_pI hL q26.1) (fun _ _ hL => ?_)
      refine aO_ck (aL_okO hL) (fun q27 => ?_)
      rw [← (hL.2.2.2.1 v0 1 q27.1).2.2.2]
      refine aO_ck Iff.rfl (fun q28 => ?_)
      refine aO_nm' rfl (fun r65 => ?_)
      refine aO_ck (aL_okW hL) (fun q29 => ?_)
      refine aO_nmS (aL_pI hL q29.1) (fun _ _ hL => ?_)
      refine aO_nm' rfl (fun x68 => ?_)
      exact ih _ _ _ _ _ hL
theorem a_f_X8_reset {n : Nat} {v0 : Nat} {T σ τ : Sg} (hL : aL T σ τ) : aO T (f_X8_reset n v0 σ) (f_X8_reset n v0 τ) := by
  unfold f_X8_reset
  exact a_b_X8_reset_2 _ _ _ _ _ _ hL
theorem a_f_X8_init {n : Nat} {v0 : Nat} {T σ τ : Sg} (hL : aL T σ τ) : aO T (f_X8_init n v0 σ) (f_X8_init n v0 τ) := by
  unfold f_X8_init
  refine aO_nm' hL.1 (fun r24 => ?_)
  refine aO_nmS (aL_nw hL) (fun _ _ hL => ?_)
  refine aO_ck (aL_okO hL) (fun q30 => ?_)
  refine aO_ck Iff.rfl (fun q31 => ?_)
  refine aO_nmS (aL_pR hL) (fun _ _ hL => ?_)
  refine aO_nm' hL.1 (fun r29 => ?_)
  refine aO_nmS (aL_nw hL) (fun _ _ hL => ?_)
  refine aO_ck (aL_okO hL) (fun q32 => ?_)
  refine aO_ck Iff.rfl (fun q33 => ?_)
  refine aO_nmS (aL_pR hL) (fun _ _ hL => ?_)
  refine aO_nm' hL.1 (fun r34 => ?_)
  refine aO_nmS (aL_nwM hL) (fun _ _ hL => ?_)
  refine aO_ck (aL_okO hL) (fun q34 => ?_)
  refine aO_ck Iff.rfl (fun q35 => ?_)
  refine aO_nmS (aL_pR hL) (fun _ _ hL => ?_)
  refine aO_nm' hL.1 (fun r39 => ?_)
  refine aO_nmS (aL_nw hL) (fun _ _ hL => ?_)
  refine aO_ck (aL_okO hL) (fun q36 => ?_)
  refine aO_ck Iff.rfl (fun q37 => ?_)
  refine aO_nmS (aL_pR hL) (fun _ _ hL => ?_)
  refine aO_ck (aL_okO hL) (fun q38 => ?_)
  refine aO_bp (a_f_X8_reset hL) (fun _ _ hL => ?_)
  exact hL
theorem a_f_X0_init {v0 : Nat} {T σ τ : Sg} (hL : aL T σ τ) : aO T (f_X0_init v0 σ) (f_X0_init v0 τ) := by
  unfold f_X0_init
  refine aO_nm' hL.1 (fun r6 => ?_)
  refine aO_nmS (aL_nw hL) (fun _ _ hL => ?_)
  refine aO_ck (aL_okO hL) (fun q39 => ?_)
  refine aO_ck Iff.rfl (fun q40 => ?_)
  refine aO_nmS (aL_pR hL) (fun _ _ hL => ?_)
  exact hL
theorem a_f_X7_init {v0 : Nat} {T σ τ : Sg} (hL : aL T σ τ) : aO T (f_X7_init v0 σ) (f_X7_init v0 τ) := by
  unfold f_X7_init
  refine aO_nm' hL.1 (fun r16 => ?_)
  refine aO_nmS (aL_nw hL) (fun _ _ hL => ?_)
  refine aO_ck (aL_okO hL) (fun q41 => ?_)
  refine aO_ck Iff.rfl (fun q42 => ?_)
  refine aO_nmS (aL_pR hL) (fun _ _ hL => ?_)
  refine aO_nm' hL.1 (fun r21 => ?_)
  refine aO_nmS (aL_nw hL) (fun _ _ hL => ?_)
  refine aO_ck (aL_okO hL) (fun q43 => ?_)
  refine aO_ck Iff.rfl (fun q44 => ?_)
  refine aO_nmS (aL_pR hL) (fun _ _ hL => ?_)
  refine aO_nm' hL.1 (fun r26 => ?_)
  refine aO_nmS (aL_nw hL) (fun _ _ hL => ?_)
  refine aO_ck (aL_okO hL) (fun q45 => ?_)
  refine aO_ck Iff.rfl (fun q46 => ?_)
  refine aO_nmS (aL_pR hL) (fun _ _ hL => ?_)
  exact hL
theorem a_b_X7_wipe_21 {n : Nat} {v0 : Nat} {T σ τ : Sg} (hL : aL T σ τ) : aO T (b_X7_wipe_21 n v0 σ) (b_X7_wipe_21 n v0 τ) := by
  unfold b_X7_wipe_21
  refine aO_ck (aL_okO hL) (fun q47 => ?_)
  refine aO_nmS (aL_pI hL q47.1) (fun _ _ hL => ?_)
  exact hL
theorem a_b_X7_wipe_2 : ∀ (n : Nat) (v0 : Nat) (v1 : Int32) (T σ τ : Sg), aL T σ τ → aO T (b_X7_wipe_2 n v0 v1 σ) (b_X7_wipe_2 n v0 v1 τ) := by
  intro n
  induction n with
  | zero => intro v0 v1 T σ τ hL; exact trivial
  | succ n ih =>
    intro v0 v1 T σ τ hL
    unfold b_X7_wipe_2
    refine aO_it Iff.rfl (fun _ => ?_) (fun _ => ?_)
    · exact a_b_X7_wipe_21 hL
    · refine aO_ck (aL_okO hL) (fun q48 => ?_)
      rw [← (hL.2.2.2.1 v0 0 q48.1).2.2.2]
      refine aO_ck Iff.rfl (fun q49 => ?_)
      refine aO_nm' rfl (fun r14 => ?_)
      refine aO_ck (aL_okW hL) (fun q50 => ?_)
      refine aO_nmS (aL_pJ hL) (fun _ _ hL => ?_)
      refine aO_nm' rfl (fun x17 => ?_)
      exact ih _ _ _ _ _ hL
theorem a_f_X7_wipe {n : Nat} {v0 : Nat} {T σ τ : Sg} (hL : aL T σ τ) : aO T (f_X7_wipe n v0 σ) (f_X7_wipe n v0 τ) := by
  unfold f_X7_wipe
  exact a_b_X7_wipe_2 _ _ _ _ _ _ hL
theorem a_b_X5_wipe_56 {n : Nat} {v0 : Nat} {T σ τ : Sg} (hL : aL T σ τ) : aO T (b_X5_wipe_56 n v0 σ) (b_X5_wipe_56 n v0 τ) := by
  unfold b_X5_wipe_56
  refine aO_ck (aL_okO hL) (fun q51 => ?_)
  rw [← (hL.2.2.2.1 v0 2 q51.1).2.2.2]
  refine aO_ck Iff.rfl (fun q52 => ?_)
  refine aO_nm' rfl (fun r37 => ?_)
  refine aO_ck (aL_okO hL) (fun q53 => ?_)
  refine aO_bp (a_f_X7_wipe hL) (fun _ _ hL => ?_)
  refine aO_ck (aL_okO hL) (fun q54 => ?_)
  refine aO_nmS (aL_pI hL q54.1) (fun _ _ hL => ?_)
  refine aO_ck (aL_okO hL) (fun q55 => ?_)
  refine aO_nmS (aL_pI hL q55.1) (fun _ _ hL => ?_)
  exact hL
theorem a_b_X5_wipe_37 : ∀ (n : Nat) (v0 : Nat) (v1 : Int32) (T σ τ : Sg), aL T σ τ → aO T (b_X5_wipe_37 n v0 v1 σ) (b_X5_wipe_37 n v0 v1 τ) := by
  intro n
  induction n with
  | zero => intro v0 v1 T σ τ hL; exact trivial
  | succ n ih =>
    intro v0 v1 T σ τ hL
    unfold b_X5_wipe_37
    refine aO_it Iff.rfl (fun _ => ?_) (fun _ => ?_)
    · exact a_b_X5_wipe_56 hL
    · refine aO_ck (aL_okO hL) (fun q56 => ?_)
      rw [← (hL.2.2.2.1 v0 6 q56.1).2.2.2]
      refine aO_ck Iff.rfl (fun q57 => ?_)
      refine aO_nm' rfl (fun r47 => ?_)
      refine aO_ck (aL_okW hL) (fun q58 => ?_)
      refine aO_nmS (aL_pJ hL) (fun _ _ hL => ?_)
      refine aO_nm' rfl (fun x50 => ?_)
      exact ih _ _ _ _ _ hL
theorem a_b_X5_wipe_35 {n : Nat} {v0 : Nat} {T σ τ : Sg} (hL : aL T σ τ) : aO T (b_X5_wipe_35 n v0 σ) (b_X5_wipe_35 n v0 τ) := by
  unfold b_X5_wipe_35
  exact a_b_X5_wipe_37 _ _ _ _ _ _ hL
theorem a_b_X5_wipe_2 : ∀ (n : Nat) (v0 : Nat) (v1 : Int32) (T σ τ : Sg), aL T σ τ → aO T (b_X5_wipe_2 n v0 v1 σ) (b_X5_wipe_2 n v0 v1 τ) := by
  intro n
  induction n with
  | zero => intro v0 v1 T σ τ hL; exact trivial
  | succ n ih =>
    intro v0 v1 T σ τ hL
    unfold b_X5_wipe_2
    refine aO_it Iff.rfl (fun _ => ?_) (fun _ => ?_)
    · exact a_b_X5_wipe_35 hL
    · refine aO_ck (aL_okO hL) (fun q59 => ?_)
      rw [← (hL.2.2.2.1 v0 3 q59.1).2.2.2]
      refine aO_ck Iff.rfl (fun q60 => ?_)
      refine aO_nm' rfl (fun r53 => ?_)
      refine aO_ck (aL_okW hL) (fun q61 => ?_)
      refine aO_nmS (aL_pJ hL) (fun _ _ hL => ?_)
      refine aO_ck (aL_okO hL) (fun q62 => ?_)
      rw [← (hL.2.2.2.1 v0 4 q62.1).2.2.2]
      refine aO_ck Iff.rfl (fun q63 => ?_)
      refine aO_nm' rfl (fun r58 => ?_)
      refine aO_ck (aL_okW hL) (fun q64 => ?_)
      refine aO_nmS (aL_pJ hL) (fun _ _ hL => ?_)
      refine aO_ck (aL_okO hL) (fun q65 => ?_)
      rw [← (hL.2.2.2.1 v0 5 q65.1).2.2.2]
      refine aO_ck Iff.rfl (fun q66 => ?_)
      refine aO_nm' rfl (fun r63 => ?_)
      refine aO_ck (aL_okW hL) (fun q67 => ?_)
      refine aO_nmS (aL_pI hL q67.1) (fun _ _ hL => ?_)
      refine aO_nm' rfl (fun x66 => ?_)
      exact ih _ _ _ _ _ hL
theorem a_f_X5_wipe {n : Nat} {v0 : Nat} {T σ τ : Sg} (hL : aL T σ τ) : aO T (f_X5_wipe n v0 σ) (f_X5_wipe n v0 τ) := by
  unfold f_X5_wipe
  exact a_b_X5_wipe_2 _ _ _ _ _ _ hL
theorem a_f_X5_init {n : Nat} {v0 : Nat} {T σ τ : Sg} (hL : aL T σ τ) : aO T (f_X5_init n v0 σ) (f_X5_init n v0 τ) := by
  unfold f_X5_init
  refine aO_nm' hL.1 (fun r47 => ?_)
  refine aO_nmS (aL_nw hL) (fun _ _ hL => ?_)
  refine aO_bp (a_f_X0_init hL) (fun _ _ hL => ?_)
  refine aO_ck (aL_okO hL) (fun q68 => ?_)
  refine aO_ck Iff.rfl (fun q69 => ?_)
  refine aO_nmS (aL_pR hL) (fun _ _ hL => ?_)
  refine aO_nm' hL.1 (fun r54 => ?_)
  refine aO_nmS (aL_nw hL) (fun _ _ hL => ?_)
  refine aO_bp (a_f_X4_init hL) (fun _ _ hL => ?_)
  refine aO_ck (aL_okO hL) (fun q70 => ?_)
  refine aO_ck Iff.rfl (fun q71 => ?_)
  refine aO_nmS (aL_pR hL) (fun _ _ hL => ?_)
  refine aO_nm' hL.1 (fun r61 => ?_)
  refine aO_nmS (aL_nw hL) (fun _ _ hL => ?_)
  refine aO_bp (a_f_X7_init hL) (fun _ _ hL => ?_)
  refine aO_ck (aL_okO hL) (fun q72 => ?_)
  refine aO_ck Iff.rfl (fun q73 => ?_)
  refine aO_nmS (aL_pR hL) (fun _ _ hL => ?_)
  refine aO_nm' hL.1 (fun r68 => ?_)
  refine aO_nmS (aL_nw hL) (fun _ _ hL => ?_)
  refine aO_ck (aL_okO hL) (fun q74 => ?_)
  refine aO_ck Iff.rfl (fun q75 => ?_)
  refine aO_nmS (aL_pR hL) (fun _ _ hL => ?_)
  refine aO_nm' hL.1 (fun r73 => ?_)
  refine aO_nmS (aL_nw hL) (fun _ _ hL => ?_)
  refine aO_ck (aL_okO hL) (fun q76 => ?_)
  refine aO_ck Iff.rfl (fun q77 => ?_)
  refine aO_nmS (aL_pR hL) (fun _ _ hL => ?_)
  refine aO_nm' hL.1 (fun r78 => ?_)
  refine aO_nmS (aL_nw hL) (fun _ _ hL => ?_)
  refine aO_ck (aL_okO hL) (fun q78 => ?_)
  refine aO_ck Iff.rfl (fun q79 => ?_)
  refine aO_nmS (aL_pR hL) (fun _ _ hL => ?_)
  refine aO_nm' hL.1 (fun r83 => ?_)
  refine aO_nmS (aL_nw hL) (fun _ _ hL => ?_)
  refine aO_ck (aL_okO hL) (fun q80 => ?_)
  refine aO_ck Iff.rfl (fun q81 => ?_)
  refine aO_nmS (aL_pR hL) (fun _ _ hL => ?_)
  refine aO_ck (aL_okO hL) (fun q82 => ?_)
  refine aO_nmS (aL_pJ hL) (fun _ _ hL => ?_)
  refine aO_ck (aL_okO hL) (fun q83 => ?_)
  refine aO_bp (a_f_X5_wipe hL) (fun _ _ hL => ?_)
  exact hL
theorem a_f_X2_init {v0 : Nat} {T σ τ : Sg} (hL : aL T σ τ) : aO T (f_X2_init v0 σ) (f_X2_init v0 τ) := by
  unfold f_X2_init
  refine aO_nm' hL.1 (fun r20 => ?_)
  refine aO_nmS (aL_nw hL) (fun _ _ hL => ?_)
  refine aO_bp (a_f_X4_init hL) (fun _ _ hL => ?_)
  refine aO_ck (aL_okO hL) (fun q84 => ?_)
  refine aO_ck Iff.rfl (fun q85 => ?_)
  refine aO_nmS (aL_pR hL) (fun _ _ hL => ?_)
  refine aO_nm' hL.1 (fun r27 => ?_)
  refine aO_nmS (aL_nw hL) (fun _ _ hL => ?_)
  refine aO_bp (a_f_X7_init hL) (fun _ _ hL => ?_)
  refine aO_ck (aL_okO hL) (fun q86 => ?_)
  refine aO_ck Iff.rfl (fun q87 => ?_)
  refine aO_nmS (aL_pR hL) (fun _ _ hL => ?_)
  refine aO_nm' hL.1 (fun r34 => ?_)
  refine aO_nmS (aL_nw hL) (fun _ _ hL => ?_)
  refine aO_ck (aL_okO hL) (fun q88 => ?_)
  refine aO_ck Iff.rfl (fun q89 => ?_)
  refine aO_nmS (aL_pR hL) (fun _ _ hL => ?_)
  exact hL
theorem a_f_X10_init {n : Nat} {v0 : Nat} {T σ τ : Sg} (hL : aL T σ τ) : aO T (f_X10_init n v0 σ) (f_X10_init n v0 τ) := by
  unfold f_X10_init
  refine aO_nm' hL.1 (fun r27 => ?_)
  refine aO_nmS (aL_nw hL) (fun _ _ hL => ?_)
  refine aO_bp (a_f_X5_init hL) (fun _ _ hL => ?_)
  refine aO_ck (aL_okO hL) (fun q90 => ?_)
  refine aO_ck Iff.rfl (fun q91 => ?_)
  refine aO_nmS (aL_pR hL) (fun _ _ hL => ?_)
  refine aO_nm' hL.1 (fun r34 => ?_)
  refine aO_nmS (aL_nw hL) (fun _ _ hL => ?_)
  refine aO_bp (a_f_X5_init hL) (fun _ _ hL => ?_)
  refine aO_ck (aL_okO hL) (fun q92 => ?_)
  refine aO_ck Iff.rfl (fun q93 => ?_)
  refine aO_nmS (aL_pR hL) (fun _ _ hL => ?_)
  refine aO_nm' hL.1 (fun r41 => ?_)
  refine aO_nmS (aL_nw hL) (fun _ _ hL => ?_)
  refine aO_bp (a_f_X2_init hL) (fun _ _ hL => ?_)
  refine aO_ck (aL_okO hL) (fun q94 => ?_)
  refine aO_ck Iff.rfl (fun q95 => ?_)
  refine aO_nmS (aL_pR hL) (fun _ _ hL => ?_)
  refine aO_nm' hL.1 (fun r48 => ?_)
  refine aO_nmS (aL_nw hL) (fun _ _ hL => ?_)
  refine aO_ck (aL_okO hL) (fun q96 => ?_)
  refine aO_ck Iff.rfl (fun q97 => ?_)
  refine aO_nmS (aL_pR hL) (fun _ _ hL => ?_)
  exact hL
theorem a_f_X1_init {v0 : Nat} {T σ τ : Sg} (hL : aL T σ τ) : aO T (f_X1_init v0 σ) (f_X1_init v0 τ) := by
  unfold f_X1_init
  refine aO_nm' hL.1 (fun r25 => ?_)
  refine aO_nmS (aL_nw hL) (fun _ _ hL => ?_)
  refine aO_ck (aL_okO hL) (fun q98 => ?_)
  refine aO_ck Iff.rfl (fun q99 => ?_)
  refine aO_nmS (aL_pR hL) (fun _ _ hL => ?_)
  refine aO_nm' hL.1 (fun r30 => ?_)
  refine aO_nmS (aL_nw hL) (fun _ _ hL => ?_)
  refine aO_ck (aL_okO hL) (fun q100 => ?_)
  refine aO_ck Iff.rfl (fun q101 => ?_)
  refine aO_nmS (aL_pR hL) (fun _ _ hL => ?_)
  refine aO_nm' hL.1 (fun r35 => ?_)
  refine aO_nmS (aL_nw hL) (fun _ _ hL => ?_)
  refine aO_ck (aL_okO hL) (fun q102 => ?_)
  refine aO_ck Iff.rfl (fun q103 => ?_)
  refine aO_nmS (aL_pR hL) (fun _ _ hL => ?_)
  refine aO_nm' hL.1 (fun r40 => ?_)
  refine aO_nmS (aL_nw hL) (fun _ _ hL => ?_)
  refine aO_ck (aL_okO hL) (fun q104 => ?_)
  refine aO_ck Iff.rfl (fun q105 => ?_)
  refine aO_nmS (aL_pR hL) (fun _ _ hL => ?_)
  refine aO_ck (aL_okO hL) (fun q106 => ?_)
  refine aO_nmS (aL_pI hL q106.1) (fun _ _ hL => ?_)
  refine aO_ck (aL_okO hL) (fun q107 => ?_)
  refine aO_nmS (aL_pI hL q107.1) (fun _ _ hL => ?_)
  exact hL
theorem a_f_X6_init {v0 : Nat} {T σ τ : Sg} (hL : aL T σ τ) : aO T (f_X6_init v0 σ) (f_X6_init v0 τ) := by
  unfold f_X6_init
  refine aO_nm' hL.1 (fun r23 => ?_)
  refine aO_nmS (aL_nw hL) (fun _ _ hL => ?_)
  refine aO_ck (aL_okO hL) (fun q108 => ?_)
  refine aO_ck Iff.rfl (fun q109 => ?_)
  refine aO_nmS (aL_pR hL) (fun _ _ hL => ?_)
  refine aO_nm' hL.1 (fun r28 => ?_)
  refine aO_nmS (aL_nw hL) (fun _ _ hL => ?_)
  refine aO_ck (aL_okO hL) (fun q110 => ?_)
  refine aO_ck Iff.rfl (fun q111 => ?_)
  refine aO_nmS (aL_pR hL) (fun _ _ hL => ?_)
  refine aO_nm' hL.1 (fun r33 => ?_)
  refine aO_nmS (aL_nw hL) (fun _ _ hL => ?_)
  refine aO_ck (aL_okO hL) (fun q112 => ?_)
  refine aO_ck Iff.rfl (fun q113 => ?_)
  refine aO_nmS (aL_pR hL) (fun _ _ hL => ?_)
  refine aO_nm' hL.1 (fun r38 => ?_)
  refine aO_nmS (aL_nw hL) (fun _ _ hL => ?_)
  refine aO_ck (aL_okO hL) (fun q114 => ?_)
  refine aO_ck Iff.rfl (fun q115 => ?_)
  refine aO_nmS (aL_pR hL) (fun _ _ hL => ?_)
  refine aO_ck (aL_okO hL) (fun q116 => ?_)
  refine aO_nmS (aL_pJ hL) (fun _ _ hL => ?_)
  exact hL
theorem a_b_X11_init_115 : ∀ (n : Nat) (v0 : Nat) (v1 : Int32) (T σ τ : Sg), aL T σ τ → aO T (b_X11_init_115 n v0 v1 σ) (b_X11_init_115 n v0 v1 τ) := by
  intro n
  induction n with
  | zero => intro v0 v1 T σ τ hL; exact trivial
  | succ n ih =>
    intro v0 v1 T σ τ hL
    unfold b_X11_init_115
    refine aO_it Iff.rfl (fun _ => ?_) (fun _ => ?_)
    · exact hL
    · refine aO_ck (aL_okO hL) (fun q117 => ?_)
      rw [← (hL.2.2.2.1 v0 4 q117.1).2.2.2]
      refine aO_ck Iff.rfl (fun q118 => ?_)
      refine aO_nm' rfl (fun r131 => ?_)
      refine aO_nm' hL.1 (fun r132 => ?_)
      refine aO_nmS (aL_nw hL) (fun _ _ hL => ?_)
      refine aO_bp (a_f_X9_init hL) (fun _ _ hL => ?_)
      refine aO_ck (aL_okW hL) (fun q119 => ?_)
      refine aO_ck (aL_okO hL) (fun q120 => ?_)
      refine aO_nmS (aL_pR hL) (fun _ _ hL => ?_)
      refine aO_nm' rfl (fun x139 => ?_)
      exact ih _ _ _ _ _ hL
theorem a_b_X11_init_113 {n : Nat} {v0 : Nat} {T σ τ : Sg} (hL : aL T σ τ) : aO T (b_X11_init_113 n v0 σ) (b_X11_init_113 n v0 τ) := by
  unfold b_X11_init_113
  exact a_b_X11_init_115 _ _ _ _ _ _ hL
theorem a_b_X11_init_89 : ∀ (n : Nat) (v0 : Nat) (v1 : Int32) (T σ τ : Sg), aL T σ τ → aO T (b_X11_init_89 n v0 v1 σ) (b_X11_init_89 n v0 v1 τ) := by
  intro n
  induction n with
  | zero => intro v0 v1 T σ τ hL; exact trivial
  | succ n ih =>
    intro v0 v1 T σ τ hL
    unfold b_X11_init_89
    refine aO_it Iff.rfl (fun _ => ?_) (fun _ => ?_)
    · exact a_b_X11_init_113 hL
    · refine aO_ck (aL_okO hL) (fun q121 => ?_)
      rw [← (hL.2.2.2.1 v0 3 q121.1).2.2.2]
      refine aO_ck Iff.rfl (fun q122 => ?_)
      refine aO_nm' rfl (fun r142 => ?_)
      refine aO_nm' hL.1 (fun r143 => ?_)
      refine aO_nmS (aL_nw hL) (fun _ _ hL => ?_)
      refine aO_bp (a_f_X6_init hL) (fun _ _ hL => ?_)
      refine aO_ck (aL_okW hL) (fun q123 => ?_)
      refine aO_ck (aL_okO hL) (fun q124 => ?_)
      refine aO_nmS (aL_pR hL) (fun _ _ hL => ?_)
      refine aO_nm' rfl (fun x150 => ?_)
      exact ih _ _ _ _ _ hL
theorem a_f_X11_init {n : Nat} {v0 : Nat} {T σ τ : Sg} (hL : aL T σ τ) : aO T (f_X11_init n v0 σ) (f_X11_init n v0 τ) := by
  unfold f_X11_init
  refine aO_nm' hL.1 (fun r75 => ?_)
  refine aO_nmS (aL_nw hL) (fun _ _ hL => ?_)
  refine aO_bp (a_f_X8_init hL) (fun _ _ hL => ?_)
  refine aO_ck (aL_okO hL) (fun q125 => ?_)
  refine aO_ck Iff.rfl (fun q126 => ?_)
  refine aO_nmS (aL_pR hL) (fun _ _ hL => ?_)
  refine aO_nm' hL.1 (fun r82 => ?_)
  refine aO_nmS (aL_nw hL) (fun _ _ hL => ?_)
  refine aO_bp (a_f_X0_init hL) (fun _ _ hL => ?_)
  refine aO_ck (aL_okO hL) (fun q127 => ?_)
  refine aO_ck Iff.rfl (fun q128 => ?_)
  refine aO_nmS (aL_pR hL) (fun _ _ hL => ?_)
  refine aO_nm' hL.1 (fun r89 => ?_)
  refine aO_nmS (aL_nw hL) (fun _ _ hL => ?_)
  refine aO_bp (a_f_X4_init hL) (fun _ _ hL => ?_)
  refine aO_ck (aL_okO hL) (fun q129 => ?_)
  refine aO_ck Iff.rfl (fun q130 => ?_)
  refine aO_nmS (aL_pR hL) (fun _ _ hL => ?_)
  refine aO_nm' hL.1 (fun r96 => ?_)
  refine aO_nmS (aL_nw hL) (fun _ _ hL => ?_)
  refine aO_ck (aL_okO hL) (fun q131 => ?_)
  refine aO_ck Iff.rfl (fun q132 => ?_)
  refine aO_nmS (aL_pR hL) (fun _ _ hL => ?_)
  refine aO_nm' hL.1 (fun r101 => ?_)
  refine aO_nmS (aL_nw hL) (fun _ _ hL => ?_)
  refine aO_ck (aL_okO hL) (fun q133 => ?_)
  refine aO_ck Iff.rfl (fun q134 => ?_)
  refine aO_nmS (aL_pR hL) (fun _ _ hL => ?_)
  refine aO_nm' hL.1 (fun r106 => ?_)
  refine aO_nmS (aL_nw hL) (fun _ _ hL => ?_)
  refine aO_bp (a_f_X5_init hL) (fun _ _ hL => ?_)
  refine aO_ck (aL_okO hL) (fun q135 => ?_)
  refine aO_ck Iff.rfl (fun q136 => ?_)
  refine aO_nmS (aL_pR hL) (fun _ _ hL => ?_)
  refine aO_nm' hL.1 (fun r113 => ?_)
  refine aO_nmS (aL_nw hL) (fun _ _ hL => ?_)
  refine aO_bp (a_f_X10_init hL) (fun _ _ hL => ?_)
  refine aO_ck (aL_okO hL) (fun q137 => ?_)
  refine aO_ck Iff.rfl (fun q138 => ?_)
  refine aO_nmS (aL_pR hL) (fun _ _ hL => ?_)
  refine aO_nm' hL.1 (fun r120 => ?_)
  refine aO_nmS (aL_nw hL) (fun _ _ hL => ?_)
  refine aO_bp (a_f_X1_init hL) (fun _ _ hL => ?_)
  refine aO_ck (aL_okO hL) (fun q139 => ?_)
  refine aO_ck Iff.rfl (fun q140 => ?_)
  refine aO_nmS (aL_pR hL) (fun _ _ hL => ?_)
  exact a_b_X11_init_89 _ _ _ _ _ _ hL
theorem a_b_X12_clears_74 {n : Nat} {v0 : Nat} {T σ τ : Sg} (hL : aL T σ τ) : aO T (b_X12_clears_74 n v0 σ) (b_X12_clears_74 n v0 τ) := by
  unfold b_X12_clears_74
  refine aO_ck (aL_okO hL) (fun q141 => ?_)
  refine aO_nmS (aL_pI hL q141.1) (fun _ _ hL => ?_)
  refine aO_ck (aL_okO hL) (fun q142 => ?_)
  refine aO_nmS (aL_pI hL q142.1) (fun _ _ hL => ?_)
  exact hL
theorem a_b_X12_clears_2 : ∀ (n : Nat) (v0 : Nat) (v1 : Int32) (T σ τ : Sg), aL T σ τ → aO T (b_X12_clears_2 n v0 v1 σ) (b_X12_clears_2 n v0 v1 τ) := by
  intro n
  induction n with
  | zero => intro v0 v1 T σ τ hL; exact trivial
  | succ n ih =>
    intro v0 v1 T σ τ hL
    unfold b_X12_clears_2
    refine aO_it Iff.rfl (fun _ => ?_) (fun _ => ?_)
    · exact a_b_X12_clears_74 hL
    · refine aO_ck (aL_okO hL) (fun q143 => ?_)
      rw [← (hL.2.2.2.1 v0 19 q143.1).2.2.2]
      refine aO_ck Iff.rfl (fun q144 => ?_)
      refine aO_nm' rfl (fun r33 => ?_)
      try rw [← (hL.2.2.2.1 v0 16 q143.1).1]
      refine aO_ck (aL_okW hL) (fun q145 => ?_)
      try rw [← (hL.2.2.2.1 v0 16 q143.1).1]
      refine aO_nmS (aL_pJ hL) (fun _ _ hL => ?_)
      refine aO_ck (aL_okO hL) (fun q146 => ?_)
      rw [← (hL.2.2.2.1 v0 20 q146.1).2.2.2]
      refine aO_ck Iff.rfl (fun q147 => ?_)
      refine aO_nm' rfl (fun r38 => ?_)
      try rw [← (hL.2.2.2.1 v0 16 q146.1).1]
      refine aO_ck (aL_okW hL) (fun q148 => ?_)
      try rw [← (hL.2.2.2.1 v0 16 q146.1).1]
      refine aO_nmS (aL_pJ hL) (fun _ _ hL => ?_)
      refine aO_ck (aL_okO hL) (fun q149 => ?_)
      rw [← (hL.2.2.2.1 v0 26 q149.1).2.2.2]
      refine aO_ck Iff.rfl (fun q150 => ?_)
      refine aO_nm' rfl (fun r43 => ?_)
      try rw [← (hL.2.2.2.1 v0 16 q149.1).1]
      refine aO_ck (aL_okW hL) (fun q151 => ?_)
      try rw [← (hL.2.2.2.1 v0 16 q149.1).1]
      refine aO_nmS (aL_pI hL q151.1) (fun _ _ hL => ?_)
      refine aO_ck (aL_okO hL) (fun q152 => ?_)
      rw [← (hL.2.2.2.1 v0 21 q152.1).2.2.2]
      refine aO_ck Iff.rfl (fun q153 => ?_)
      refine aO_nm' rfl (fun r48 => ?_)
      try rw [← (hL.2.2.2.1 v0 16 q152.1).1]
      refine aO_ck (aL_okW hL) (fun q154 => ?_)
      try rw [← (hL.2.2.2.1 v0 16 q152.1).1]
      refine aO_nmS (aL_pJ hL) (fun _ _ hL => ?_)
      refine aO_nm' rfl (fun x51 => ?_)
      exact ih _ _ _ _ _ hL
theorem a_f_X12_clears {n : Nat} {v0 : Nat} {T σ τ : Sg} (hL : aL T σ τ) : aO T (f_X12_clears n v0 σ) (f_X12_clears n v0 τ) := by
  unfold f_X12_clears
  exact a_b_X12_clears_2 _ _ _ _ _ _ hL
theorem a_b_X12_resets_128 : ∀ (n : Nat) (v0 : Nat) (v1 : Int32) (T σ τ : Sg), aL T σ τ → aO T (b_X12_resets_128 n v0 v1 σ) (b_X12_resets_128 n v0 v1 τ) := by
  intro n
  induction n with
  | zero => intro v0 v1 T σ τ hL; exact trivial
  | succ n ih =>
    intro v0 v1 T σ τ hL
    unfold b_X12_resets_128
    refine aO_it Iff.rfl (fun _ => ?_) (fun _ => ?_)
    · exact hL
    · refine aO_ck (aL_okO hL) (fun q155 => ?_)
      rw [← (hL.2.2.2.1 v0 22 q155.1).2.2.2]
      refine aO_ck Iff.rfl (fun q156 => ?_)
      refine aO_nm' rfl (fun r76 => ?_)
      refine aO_ck (aL_okW hL) (fun q157 => ?_)
      refine aO_nmS (aL_pJ hL) (fun _ _ hL => ?_)
      refine aO_nm' rfl (fun x79 => ?_)
      exact ih _ _ _ _ _ hL
theorem a_b_X12_resets_91 {n : Nat} {v0 : Nat} {T σ τ : Sg} (hL : aL T σ τ) : aO T (b_X12_resets_91 n v0 σ) (b_X12_resets_91 n v0 τ) := by
  unfold b_X12_resets_91
  refine aO_ck (aL_okO hL) (fun q158 => ?_)
  refine aO_nmS (aL_pI hL q158.1) (fun _ _ hL => ?_)
  refine aO_ck (aL_okO hL) (fun q159 => ?_)
  refine aO_nmS (aL_pI hL q159.1) (fun _ _ hL => ?_)
  refine aO_ck (aL_okO hL) (fun q160 => ?_)
  refine aO_nmS (aL_pI hL q160.1) (fun _ _ hL => ?_)
  refine aO_ck (aL_okO hL) (fun q161 => ?_)
  refine aO_nmS (aL_pI hL q161.1) (fun _ _ hL => ?_)
  refine aO_ck (aL_okO hL) (fun q162 => ?_)
  refine aO_nmS (aL_pI hL q162.1) (fun _ _ hL => ?_)
  refine aO_ck (aL_okO hL) (fun q163 => ?_)
  refine aO_nmS (aL_pI hL q163.1) (fun _ _ hL => ?_)
  refine aO_ck (aL_okO hL) (fun q164 => ?_)
  refine aO_bp (a_f_X12_clears hL) (fun _ _ hL => ?_)
  exact a_b_X12_resets_128 _ _ _ _ _ _ hL
theorem a_b_X12_resets_72 : ∀ (n : Nat) (v0 : Nat) (v1 : Int32) (T σ τ : Sg), aL T σ τ → aO T (b_X12_resets_72 n v0 v1 σ) (b_X12_resets_72 n v0 v1 τ) := by
  intro n
  induction n with
  | zero => intro v0 v1 T σ τ hL; exact trivial
  | succ n ih =>
    intro v0 v1 T σ τ hL
    unfold b_X12_resets_72
    refine aO_it Iff.rfl (fun _ => ?_) (fun _ => ?_)
    · exact a_b_X12_resets_91 hL
    · refine aO_ck (aL_okO hL) (fun q165 => ?_)
      rw [← (hL.2.2.2.1 v0 23 q165.1).2.2.2]
      refine aO_ck Iff.rfl (fun q166 => ?_)
      refine aO_nm' rfl (fun r82 => ?_)
      refine aO_ck (aL_okW hL) (fun q167 => ?_)
      refine aO_nmS (aL_pJ hL) (fun _ _ hL => ?_)
      refine aO_nm' rfl (fun x85 => ?_)
      exact ih _ _ _ _ _ hL
theorem a_b_X12_resets_70 {n : Nat} {v0 : Nat} {T σ τ : Sg} (hL : aL T σ τ) : aO T (b_X12_resets_70 n v0 σ) (b_X12_resets_70 n v0 τ) := by
  unfold b_X12_resets_70
  exact a_b_X12_resets_72 _ _ _ _ _ _ hL
theorem a_b_X12_resets_30 : ∀ (n : Nat) (v0 : Nat) (v1 : Int32) (T σ τ : Sg), aL T σ τ → aO T (b_X12_resets_30 n v0 v1 σ) (b_X12_resets_30 n v0 v1 τ) := by
  intro n
  induction n with
  | zero => intro v0 v1 T σ τ hL; exact trivial
  | succ n ih =>
    intro v0 v1 T σ τ hL
    unfold b_X12_resets_30
    refine aO_it Iff.rfl (fun _ => ?_) (fun _ => ?_)
    · exact a_b_X12_resets_70 hL
    · refine aO_ck (aL_okO hL) (fun q168 => ?_)
      rw [← (hL.2.2.2.1 v0 5 q168.1).2.2.2]
      refine aO_ck Iff.rfl (fun q169 => ?_)
      refine aO_nm' rfl (fun r88 => ?_)
      refine aO_ck (aL_okW hL) (fun q170 => ?_)
      refine aO_nmS (aL_pI hL q170.1) (fun _ _ hL => ?_)
      refine aO_ck (aL_okO hL) (fun q171 => ?_)
      rw [← (hL.2.2.2.1 v0 6 q171.1).2.2.2]
      refine aO_ck Iff.rfl (fun q172 => ?_)
      refine aO_nm' rfl (fun r93 => ?_)
      refine aO_ck (aL_okW hL) (fun q173 => ?_)
      refine aO_nmS (aL_pI hL q173.1) (fun _ _ hL => ?_)
      refine aO_ck (aL_okO hL) (fun q174 => ?_)
      rw [← (hL.2.2.2.1 v0 6 q174.1).2.2.2]
      refine aO_ck Iff.rfl (fun q175 => ?_)
      refine aO_nm' rfl (fun r98 => ?_)
      refine aO_ck (aL_okW hL) (fun q176 => ?_)
      refine aO_nmS (aL_pI hL q176.1) (fun _ _ hL => ?_)
      refine aO_nm' rfl (fun x101 => ?_)
      exact ih _ _ _ _ _ hL
theorem a_b_X12_resets_28 {n : Nat} {v0 : Nat} {T σ τ : Sg} (hL : aL T σ τ) : aO T (b_X12_resets_28 n v0 σ) (b_X12_resets_28 n v0 τ) := by
  unfold b_X12_resets_28
  exact a_b_X12_resets_30 _ _ _ _ _ _ hL
theorem a_b_X12_resets_2 : ∀ (n : Nat) (v0 : Nat) (v1 : Int32) (T σ τ : Sg), aL T σ τ → aO T (b_X12_resets_2 n v0 v1 σ) (b_X12_resets_2 n v0 v1 τ) := by
  intro n
  induction n with
  | zero => intro v0 v1 T σ τ hL; exact trivial
  | succ n ih =>
    intro v0 v1 T σ τ hL
    unfold b_X12_resets_2
    refine aO_it Iff.rfl (fun _ => ?_) (fun _ => ?_)
    · exact a_b_X12_resets_28 hL
    · refine aO_ck (aL_okO hL) (fun q177 => ?_)
      rw [← (hL.2.2.2.1 v0 1 q177.1).2.2.2]
      refine aO_ck Iff.rfl (fun q178 => ?_)
      refine aO_nm' rfl (fun r104 => ?_)
      refine aO_ck (aL_okW hL) (fun q179 => ?_)
      refine aO_nmS (aL_pI hL q179.1) (fun _ _ hL => ?_)
      refine aO_ck (aL_okO hL) (fun q180 => ?_)
      rw [← (hL.2.2.2.1 v0 2 q180.1).2.2.2]
      refine aO_ck Iff.rfl (fun q181 => ?_)
      refine aO_nm' rfl (fun r109 => ?_)
      refine aO_ck (aL_okW hL) (fun q182 => ?_)
      refine aO_nmS (aL_pI hL q182.1) (fun _ _ hL => ?_)
      refine aO_nm' rfl (fun x112 => ?_)
      exact ih _ _ _ _ _ hL
theorem a_f_X12_resets {n : Nat} {v0 : Nat} {T σ τ : Sg} (hL : aL T σ τ) : aO T (f_X12_resets n v0 σ) (f_X12_resets n v0 τ) := by
  unfold f_X12_resets
  exact a_b_X12_resets_2 _ _ _ _ _ _ hL
theorem a_f_X12_init {n : Nat} {v0 : Nat} {T σ τ : Sg} (hL : aL T σ τ) : aO T (f_X12_init n v0 σ) (f_X12_init n v0 τ) := by
  unfold f_X12_init
  refine aO_nm' hL.1 (fun r191 => ?_)
  refine aO_nmS (aL_nw hL) (fun _ _ hL => ?_)
  refine aO_ck (aL_okO hL) (fun q183 => ?_)
  refine aO_ck Iff.rfl (fun q184 => ?_)
  refine aO_nmS (aL_pR hL) (fun _ _ hL => ?_)
  refine aO_nm' hL.1 (fun r196 => ?_)
  refine aO_nmS (aL_nw hL) (fun _ _ hL => ?_)
  refine aO_ck (aL_okO hL) (fun q185 => ?_)
  refine aO_ck Iff.rfl (fun q186 => ?_)
  refine aO_nmS (aL_pR hL) (fun _ _ hL => ?_)
  refine aO_nm' hL.1 (fun r201 => ?_)
  refine aO_nmS (aL_nw hL) (fun _ _ hL => ?_)
  refine aO_ck (aL_okO hL) (fun q187 => ?_)
  refine aO_ck Iff.rfl (fun q188 => ?_)
  refine aO_nmS (aL_pR hL) (fun _ _ hL => ?_)
  refine aO_nm' hL.1 (fun r206 => ?_)
  refine aO_nmS (aL_nw hL) (fun _ _ hL => ?_)
  refine aO_ck (aL_okO hL) (fun q189 => ?_)
  refine aO_ck Iff.rfl (fun q190 => ?_)
  refine aO_nmS (aL_pR hL) (fun _ _ hL => ?_)
  refine aO_nm' hL.1 (fun r211 => ?_)
  refine aO_nmS (aL_nw hL) (fun _ _ hL => ?_)
  refine aO_ck (aL_okO hL) (fun q191 => ?_)
  refine aO_ck Iff.rfl (fun q192 => ?_)
  refine aO_nmS (aL_pR hL) (fun _ _ hL => ?_)
  refine aO_nm' hL.1 (fun r216 => ?_)
  refine aO_nmS (aL_nw hL) (fun _ _ hL => ?_)
  refine aO_ck (aL_okO hL) (fun q193 => ?_)
  refine aO_ck Iff.rfl (fun q194 => ?_)
  refine aO_nmS (aL_pR hL) (fun _ _ hL => ?_)
  refine aO_nm' hL.1 (fun r221 => ?_)
  refine aO_nmS (aL_nw hL) (fun _ _ hL => ?_)
  refine aO_ck (aL_okO hL) (fun q195 => ?_)
  refine aO_ck Iff.rfl (fun q196 => ?_)
  refine aO_nmS (aL_pR hL) (fun _ _ hL => ?_)
  refine aO_nm' hL.1 (fun r226 => ?_)
  refine aO_nmS (aL_nw hL) (fun _ _ hL => ?_)
  refine aO_ck (aL_okO hL) (fun q197 => ?_)
  refine aO_ck Iff.rfl (fun q198 => ?_)
  refine aO_nmS (aL_pR hL) (fun _ _ hL => ?_)
  refine aO_nm' hL.1 (fun r231 => ?_)
  refine aO_nmS (aL_nw hL) (fun _ _ hL => ?_)
  refine aO_ck (aL_okO hL) (fun q199 => ?_)
  refine aO_ck Iff.rfl (fun q200 => ?_)
  refine aO_nmS (aL_pR hL) (fun _ _ hL => ?_)
  refine aO_nm' hL.1 (fun r236 => ?_)
  refine aO_nmS (aL_nw hL) (fun _ _ hL => ?_)
  refine aO_ck (aL_okO hL) (fun q201 => ?_)
  refine aO_ck Iff.rfl (fun q202 => ?_)
  refine aO_nmS (aL_pR hL) (fun _ _ hL => ?_)
  refine aO_ck (aL_okO hL) (fun q203 => ?_)
  refine aO_nmS (aL_pI hL q203.1) (fun _ _ hL => ?_)
  refine aO_nm' hL.1 (fun r243 => ?_)
  refine aO_nmS (aL_nw hL) (fun _ _ hL => ?_)
  refine aO_ck (aL_okO hL) (fun q204 => ?_)
  refine aO_ck Iff.rfl (fun q205 => ?_)
  refine aO_nmS (aL_pR hL) (fun _ _ hL => ?_)
  refine aO_nm' hL.1 (fun r248 => ?_)
  refine aO_nmS (aL_nw hL) (fun _ _ hL => ?_)
  refine aO_ck (aL_okO hL) (fun q206 => ?_)
  refine aO_ck Iff.rfl (fun q207 => ?_)
  refine aO_nmS (aL_pR hL) (fun _ _ hL => ?_)
  refine aO_nm' hL.1 (fun r253 => ?_)
  refine aO_nmS (aL_nw hL) (fun _ _ hL => ?_)
  refine aO_ck (aL_okO hL) (fun q208 => ?_)
  refine aO_ck Iff.rfl (fun q209 => ?_)
  refine aO_nmS (aL_pR hL) (fun _ _ hL => ?_)
  refine aO_nm' hL.1 (fun r258 => ?_)
  refine aO_nmS (aL_nw hL) (fun _ _ hL => ?_)
  refine aO_ck (aL_okO hL) (fun q210 => ?_)
  refine aO_ck Iff.rfl (fun q211 => ?_)
  refine aO_nmS (aL_pR hL) (fun _ _ hL => ?_)
  refine aO_nm' hL.1 (fun r263 => ?_)
  refine aO_nmS (aL_nw hL) (fun _ _ hL => ?_)
  refine aO_ck (aL_okO hL) (fun q212 => ?_)
  refine aO_ck Iff.rfl (fun q213 => ?_)
  refine aO_nmS (aL_pR hL) (fun _ _ hL => ?_)
  refine aO_nm' hL.1 (fun r268 => ?_)
  refine aO_nmS (aL_nw hL) (fun _ _ hL => ?_)
  refine aO_ck (aL_okO hL) (fun q214 => ?_)
  refine aO_ck Iff.rfl (fun q215 => ?_)
  refine aO_nmS (aL_pR hL) (fun _ _ hL => ?_)
  refine aO_nm' hL.1 (fun r273 => ?_)
  refine aO_nmS (aL_nw hL) (fun _ _ hL => ?_)
  refine aO_ck (aL_okO hL) (fun q216 => ?_)
  refine aO_ck Iff.rfl (fun q217 => ?_)
  refine aO_nmS (aL_pR hL) (fun _ _ hL => ?_)
  refine aO_nm' hL.1 (fun r278 => ?_)
  refine aO_nmS (aL_nw hL) (fun _ _ hL => ?_)
  refine aO_ck (aL_okO hL) (fun q218 => ?_)
  refine aO_ck Iff.rfl (fun q219 => ?_)
  refine aO_nmS (aL_pR hL) (fun _ _ hL => ?_)
  refine aO_nm' hL.1 (fun r283 => ?_)
  refine aO_nmS (aL_nw hL) (fun _ _ hL => ?_)
  refine aO_ck (aL_okO hL) (fun q220 => ?_)
  refine aO_ck Iff.rfl (fun q221 => ?_)
  refine aO_nmS (aL_pR hL) (fun _ _ hL => ?_)
  refine aO_nm' hL.1 (fun r288 => ?_)
  refine aO_nmS (aL_nw hL) (fun _ _ hL => ?_)
  refine aO_ck (aL_okO hL) (fun q222 => ?_)
  refine aO_ck Iff.rfl (fun q223 => ?_)
  refine aO_nmS (aL_pR hL) (fun _ _ hL => ?_)
  refine aO_nm' hL.1 (fun r293 => ?_)
  refine aO_nmS (aL_nw hL) (fun _ _ hL => ?_)
  refine aO_ck (aL_okO hL) (fun q224 => ?_)
  refine aO_ck Iff.rfl (fun q225 => ?_)
  refine aO_nmS (aL_pR hL) (fun _ _ hL => ?_)
  refine aO_nm' hL.1 (fun r298 => ?_)
  refine aO_nmS (aL_nw hL) (fun _ _ hL => ?_)
  refine aO_ck (aL_okO hL) (fun q226 => ?_)
  refine aO_ck Iff.rfl (fun q227 => ?_)
  refine aO_nmS (aL_pR hL) (fun _ _ hL => ?_)
  refine aO_nm' hL.1 (fun r303 => ?_)
  refine aO_nmS (aL_nw hL) (fun _ _ hL => ?_)
  refine aO_ck (aL_okO hL) (fun q228 => ?_)
  refine aO_ck Iff.rfl (fun q229 => ?_)
  refine aO_nmS (aL_pR hL) (fun _ _ hL => ?_)
  refine aO_nm' hL.1 (fun r308 => ?_)
  refine aO_nmS (aL_nw hL) (fun _ _ hL => ?_)
  refine aO_ck (aL_okO hL) (fun q230 => ?_)
  refine aO_ck Iff.rfl (fun q231 => ?_)
  refine aO_nmS (aL_pR hL) (fun _ _ hL => ?_)
  refine aO_nm' hL.1 (fun r313 => ?_)
  refine aO_nmS (aL_nw hL) (fun _ _ hL => ?_)
  refine aO_ck (aL_okO hL) (fun q232 => ?_)
  refine aO_ck Iff.rfl (fun q233 => ?_)
  refine aO_nmS (aL_pR hL) (fun _ _ hL => ?_)
  refine aO_nm' hL.1 (fun r318 => ?_)
  refine aO_nmS (aL_nw hL) (fun _ _ hL => ?_)
  refine aO_ck (aL_okO hL) (fun q234 => ?_)
  refine aO_ck Iff.rfl (fun q235 => ?_)
  refine aO_nmS (aL_pR hL) (fun _ _ hL => ?_)
  refine aO_nm' hL.1 (fun r323 => ?_)
  refine aO_nmS (aL_nw hL) (fun _ _ hL => ?_)
  refine aO_ck (aL_okO hL) (fun q236 => ?_)
  refine aO_ck Iff.rfl (fun q237 => ?_)
  refine aO_nmS (aL_pR hL) (fun _ _ hL => ?_)
  refine aO_nm' hL.1 (fun r328 => ?_)
  refine aO_nmS (aL_nw hL) (fun _ _ hL => ?_)
  refine aO_ck (aL_okO hL) (fun q238 => ?_)
  refine aO_ck Iff.rfl (fun q239 => ?_)
  refine aO_nmS (aL_pR hL) (fun _ _ hL => ?_)
  refine aO_nm' hL.1 (fun r333 => ?_)
  refine aO_nmS (aL_nw hL) (fun _ _ hL => ?_)
  refine aO_ck (aL_okO hL) (fun q240 => ?_)
  refine aO_ck Iff.rfl (fun q241 => ?_)
  refine aO_nmS (aL_pR hL) (fun _ _ hL => ?_)
  refine aO_nm' hL.1 (fun r338 => ?_)
  refine aO_nmS (aL_nw hL) (fun _ _ hL => ?_)
  refine aO_ck (aL_okO hL) (fun q242 => ?_)
  refine aO_ck Iff.rfl (fun q243 => ?_)
  refine aO_nmS (aL_pR hL) (fun _ _ hL => ?_)
  refine aO_nm' hL.1 (fun r343 => ?_)
  refine aO_nmS (aL_nw hL) (fun _ _ hL => ?_)
  refine aO_ck (aL_okO hL) (fun q244 => ?_)
  refine aO_ck Iff.rfl (fun q245 => ?_)
  refine aO_nmS (aL_pR hL) (fun _ _ hL => ?_)
  refine aO_nm' hL.1 (fun r348 => ?_)
  refine aO_nmS (aL_nw hL) (fun _ _ hL => ?_)
  refine aO_ck (aL_okO hL) (fun q246 => ?_)
  refine aO_ck Iff.rfl (fun q247 => ?_)
  refine aO_nmS (aL_pR hL) (fun _ _ hL => ?_)
  refine aO_nm' hL.1 (fun r353 => ?_)
  refine aO_nmS (aL_nw hL) (fun _ _ hL => ?_)
  refine aO_ck (aL_okO hL) (fun q248 => ?_)
  refine aO_ck Iff.rfl (fun q249 => ?_)
  refine aO_nmS (aL_pR hL) (fun _ _ hL => ?_)
  refine aO_nm' hL.1 (fun r358 => ?_)
  refine aO_nmS (aL_nw hL) (fun _ _ hL => ?_)
  refine aO_ck (aL_okO hL) (fun q250 => ?_)
  refine aO_ck Iff.rfl (fun q251 => ?_)
  refine aO_nmS (aL_pR hL) (fun _ _ hL => ?_)
  refine aO_nm' hL.1 (fun r363 => ?_)
  refine aO_nmS (aL_nw hL) (fun _ _ hL => ?_)
  refine aO_ck (aL_okO hL) (fun q252 => ?_)
  refine aO_ck Iff.rfl (fun q253 => ?_)
  refine aO_nmS (aL_pR hL) (fun _ _ hL => ?_)
  refine aO_nm' hL.1 (fun r368 => ?_)
  refine aO_nmS (aL_nw hL) (fun _ _ hL => ?_)
  refine aO_ck (aL_okO hL) (fun q254 => ?_)
  refine aO_ck Iff.rfl (fun q255 => ?_)
  refine aO_nmS (aL_pR hL) (fun _ _ hL => ?_)
  refine aO_nm' hL.1 (fun r373 => ?_)
  refine aO_nmS (aL_nw hL) (fun _ _ hL => ?_)
  refine aO_ck (aL_okO hL) (fun q256 => ?_)
  refine aO_ck Iff.rfl (fun q257 => ?_)
  refine aO_nmS (aL_pR hL) (fun _ _ hL => ?_)
  refine aO_ck (aL_okO hL) (fun q258 => ?_)
  refine aO_bp (a_f_X12_resets hL) (fun _ _ hL => ?_)
  exact hL
