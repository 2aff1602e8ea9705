section LAW2
variable {L c Z n : Nat} {σ : Sg} {v4 : Int32}
theorem NoS_n : NoS none := fun b e => by cases e
theorem ns_account {a : Int32} {τ : Sg} : NoS (c_X11_account a τ) := by
  unfold c_X11_account d_X11_account_10
  repeat' first | exact NoS_n | exact NoS_a | exact NoS_l | apply NoS_i | apply NoS_c | (refine NoS_b (fun _ => ?_))
theorem ns_slot {a b : Int32} {τ : Sg} : NoS (c_X11_slot a b τ) := by
  unfold c_X11_slot d_X11_slot_16
  repeat' first | exact NoS_n | exact NoS_a | exact NoS_l | apply NoS_i | apply NoS_c | (refine NoS_b (fun _ => ?_))
theorem ns_part {a : Int32} {τ : Sg} : NoS (c_X11_part a τ) := by
  unfold c_X11_part d_X11_part_10
  repeat' first | exact NoS_n | exact NoS_a | exact NoS_l | apply NoS_i | apply NoS_c | (refine NoS_b (fun _ => ?_))
theorem ns_got {a : Int32} {τ : Sg} : NoS (c_X11_got a τ) := by
  unfold c_X11_got d_X11_got_10
  repeat' first | exact NoS_n | exact NoS_a | exact NoS_l | apply NoS_i | apply NoS_c | (refine NoS_b (fun _ => ?_))
theorem ns_carried {a b : Int32} {τ : Sg} : NoS (c_X11_carried a b τ) := by
  unfold c_X11_carried d_X11_carried_17
  repeat' first | exact NoS_n | exact NoS_a | exact NoS_l | apply NoS_i | apply NoS_c | (refine NoS_b (fun _ => ?_))
theorem ns_rounded {a : Int64} {b d e : Int32} {τ : Sg} : NoS (c_X11_rounded a b d e τ) := by
  unfold c_X11_rounded d_X11_rounded_24 d_X11_rounded_58
  repeat' first | exact NoS_n | exact NoS_a | exact NoS_l | apply NoS_i | apply NoS_c | (refine NoS_b (fun _ => ?_))
theorem w_188 (h : Lw L c Z σ) (hv : Wv L v4) (hn : 5000 ≤ n) (hc : c ≤ 600) : ∃ σ', Lw L (c + 1) Z σ' ∧ ∀ K, b_L_law_188 K n 0 4 130 168 v4 σ = K (v4 + 6) σ' := by
  have hl := h.1.1.1
  obtain ⟨r, τ', σ', e1, e2, lt, g0, k0, hw⟩ := twoA (C := fun s => c_X11_begin n  s) (D := fun s => c_X12_begin n  s) h (fun τ s hr => s_begin n (by omega)  hr) (fun b e => (k_f_X11_begin (lo := 4) (hi := 130) (To_refl hl) (by omega)).2 b e) (fun s b hs e => (k_f_X12_begin (lo := 130) (hi := 168) (To_refl hs) (by omega)).2 b e)
  refine ⟨σ', hw, fun K => ?_⟩
  unfold b_L_law_188 b_L_law_1762
  rw [ck_t (o10 hl), (k_f_X11_begin (lo := 4) (hi := 130) (To_refl hl) (by omega)).1]
  rw [show c_X11_begin n  σ = _ from e1, bd_s, ck_t (o11 lt), (k_f_X12_begin (lo := 130) (hi := 168) (To_refl lt) (by omega)).1]
  rw [show c_X12_begin n  τ' = _ from e2, bd_s, if_pos rfl, nm_t]
theorem w_201 (h : Lw L c Z σ) (hv : Wv L v4) (hn : 5000 ≤ n) (hc : c ≤ 600) : ∃ σ', Lw L (c + 1) Z σ' ∧ ∀ K, b_L_law_201 K n 0 4 130 168 v4 σ = K (v4 + 6) σ' := by
  have hl := h.1.1.1
  obtain ⟨r, τ', σ', e1, e2, lt, g0, k0, hw⟩ := twoA (C := fun s => c_X11_rate (gI σ 0 (v4 + (1 : Int32)).toNatClampNeg) (gI σ 0 (v4 + (2 : Int32)).toNatClampNeg) (gI σ 0 (v4 + (3 : Int32)).toNatClampNeg) s) (D := fun s => c_X12_rate (gI σ 0 (v4 + (1 : Int32)).toNatClampNeg) (gI σ 0 (v4 + (2 : Int32)).toNatClampNeg) (gI σ 0 (v4 + (3 : Int32)).toNatClampNeg) s) h (fun τ s hr => s_rate  _ _ _ hr) (fun b e => (k_f_X11_rate (lo := 4) (hi := 130) (To_refl hl) (by omega)).2 b e) (fun s b hs e => (k_f_X12_rate (lo := 130) (hi := 168) (To_refl hs) (by omega)).2 b e)
  refine ⟨σ', hw, fun K => ?_⟩
  unfold b_L_law_201 b_L_law_1762
  rw [ck_t (ok0 h.2.1 hl hv 1 (by decide) (by decide)), ck_t (ok0 h.2.1 hl hv 2 (by decide) (by decide)), ck_t (ok0 h.2.1 hl hv 3 (by decide) (by decide)), ck_t (o10 hl), (k_f_X11_rate (lo := 4) (hi := 130) (To_refl hl) (by omega)).1]
  rw [show c_X11_rate (gI σ 0 (v4 + (1 : Int32)).toNatClampNeg) (gI σ 0 (v4 + (2 : Int32)).toNatClampNeg) (gI σ 0 (v4 + (3 : Int32)).toNatClampNeg) σ = _ from e1, bd_s, ck_t (ok0 k0 lt hv 1 (by decide) (by decide)), ck_t (ok0 k0 lt hv 2 (by decide) (by decide)), ck_t (ok0 k0 lt hv 3 (by decide) (by decide)), ck_t (o11 lt), g0, (k_f_X12_rate (lo := 130) (hi := 168) (To_refl lt) (by omega)).1]
  rw [show c_X12_rate (gI σ 0 (v4 + (1 : Int32)).toNatClampNeg) (gI σ 0 (v4 + (2 : Int32)).toNatClampNeg) (gI σ 0 (v4 + (3 : Int32)).toNatClampNeg) τ' = _ from e2, bd_s, if_pos rfl, nm_t]
theorem w_250 (h : Lw L c Z σ) (hv : Wv L v4) (hn : 5000 ≤ n) (hc : c ≤ 600) : ∃ σ', Lw L (c + 1) Z σ' ∧ ∀ K, b_L_law_250 K n 0 4 130 168 v4 σ = K (v4 + 6) σ' := by
  have hl := h.1.1.1
  obtain ⟨r, τ', σ', e1, e2, lt, g0, k0, hw⟩ := twoA (C := fun s => c_X11_line (gI σ 0 (v4 + (1 : Int32)).toNatClampNeg) s) (D := fun s => c_X12_line (gI σ 0 (v4 + (1 : Int32)).toNatClampNeg) s) h (fun τ s hr => s_line  _ hr) (fun b e => (k_f_X11_line (lo := 4) (hi := 130) (To_refl hl) (by omega)).2 b e) (fun s b hs e => (k_f_X12_line (lo := 130) (hi := 168) (To_refl hs) (by omega)).2 b e)
  refine ⟨σ', hw, fun K => ?_⟩
  unfold b_L_law_250 b_L_law_1762
  rw [ck_t (ok0 h.2.1 hl hv 1 (by decide) (by decide)), ck_t (o10 hl), (k_f_X11_line (lo := 4) (hi := 130) (To_refl hl) (by omega)).1]
  rw [show c_X11_line (gI σ 0 (v4 + (1 : Int32)).toNatClampNeg) σ = _ from e1, bd_s, ck_t (ok0 k0 lt hv 1 (by decide) (by decide)), ck_t (o11 lt), g0, (k_f_X12_line (lo := 130) (hi := 168) (To_refl lt) (by omega)).1]
  rw [show c_X12_line (gI σ 0 (v4 + (1 : Int32)).toNatClampNeg) τ' = _ from e2, bd_s, if_pos rfl, nm_t]
theorem w_275 (h : Lw L c Z σ) (hv : Wv L v4) (hn : 5000 ≤ n) (hc : c ≤ 600) : ∃ σ', Lw L (c + 1) Z σ' ∧ ∀ K, b_L_law_275 K n 0 4 130 168 v4 σ = K (v4 + 6) σ' := by
  have hl := h.1.1.1
  obtain ⟨r, τ', σ', e1, e2, lt, g0, k0, hw⟩ := twoA (C := fun s => c_X11_bare  s) (D := fun s => c_X12_bare  s) h (fun τ s hr => s_bare   hr) (fun b e => (k_f_X11_bare (lo := 4) (hi := 130) (To_refl hl) (by omega)).2 b e) (fun s b hs e => (k_f_X12_bare (lo := 130) (hi := 168) (To_refl hs) (by omega)).2 b e)
  refine ⟨σ', hw, fun K => ?_⟩
  unfold b_L_law_275 b_L_law_1762
  rw [ck_t (o10 hl), (k_f_X11_bare (lo := 4) (hi := 130) (To_refl hl) (by omega)).1]
  rw [show c_X11_bare  σ = _ from e1, bd_s, ck_t (o11 lt), (k_f_X12_bare (lo := 130) (hi := 168) (To_refl lt) (by omega)).1]
  rw [show c_X12_bare  τ' = _ from e2, bd_s, if_pos rfl, nm_t]
theorem w_288 (h : Lw L c Z σ) (hv : Wv L v4) (hn : 5000 ≤ n) (hc : c ≤ 600) : ∃ σ', Lw L (c + 1) Z σ' ∧ ∀ K, b_L_law_288 K n 0 4 130 168 v4 σ = K (v4 + 6) σ' := by
  have hl := h.1.1.1
  obtain ⟨r, τ', σ', e1, e2, lt, g0, k0, hw⟩ := twoA (C := fun s => c_X11_weight (gI σ 0 (v4 + (1 : Int32)).toNatClampNeg) (gI σ 0 (v4 + (2 : Int32)).toNatClampNeg) s) (D := fun s => c_X12_weight (gI σ 0 (v4 + (1 : Int32)).toNatClampNeg) (gI σ 0 (v4 + (2 : Int32)).toNatClampNeg) s) h (fun τ s hr => s_weight  _ _ hr) (fun b e => (k_f_X11_weight (lo := 4) (hi := 130) (To_refl hl) (by omega)).2 b e) (fun s b hs e => (k_f_X12_weight (lo := 130) (hi := 168) (To_refl hs) (by omega)).2 b e)
  refine ⟨σ', hw, fun K => ?_⟩
  unfold b_L_law_288 b_L_law_1762
  rw [ck_t (ok0 h.2.1 hl hv 1 (by decide) (by decide)), ck_t (ok0 h.2.1 hl hv 2 (by decide) (by decide)), ck_t (o10 hl), (k_f_X11_weight (lo := 4) (hi := 130) (To_refl hl) (by omega)).1]
  rw [show c_X11_weight (gI σ 0 (v4 + (1 : Int32)).toNatClampNeg) (gI σ 0 (v4 + (2 : Int32)).toNatClampNeg) σ = _ from e1, bd_s, ck_t (ok0 k0 lt hv 1 (by decide) (by decide)), ck_t (ok0 k0 lt hv 2 (by decide) (by decide)), ck_t (o11 lt), g0, (k_f_X12_weight (lo := 130) (hi := 168) (To_refl lt) (by omega)).1]
  rw [show c_X12_weight (gI σ 0 (v4 + (1 : Int32)).toNatClampNeg) (gI σ 0 (v4 + (2 : Int32)).toNatClampNeg) τ' = _ from e2, bd_s, if_pos rfl, nm_t]
theorem w_325 (h : Lw L c Z σ) (hv : Wv L v4) (hn : 5000 ≤ n) (hc : c ≤ 600) : ∃ σ', Lw L (c + 1) Z σ' ∧ ∀ K, b_L_law_325 K n 0 4 130 168 v4 σ = K (v4 + 6) σ' := by
  have hl := h.1.1.1
  obtain ⟨r, τ', σ', e1, e2, lt, g0, k0, hw⟩ := twoA (C := fun s => c_X11_program  s) (D := fun s => c_X12_program  s) h (fun τ s hr => s_program   hr) (fun b e => (k_f_X11_program (lo := 4) (hi := 130) (To_refl hl) (by omega)).2 b e) (fun s b hs e => (k_f_X12_program (lo := 130) (hi := 168) (To_refl hs) (by omega)).2 b e)
  refine ⟨σ', hw, fun K => ?_⟩
  unfold b_L_law_325 b_L_law_1762
  rw [ck_t (o10 hl), (k_f_X11_program (lo := 4) (hi := 130) (To_refl hl) (by omega)).1]
  rw [show c_X11_program  σ = _ from e1, bd_s, ck_t (o11 lt), (k_f_X12_program (lo := 130) (hi := 168) (To_refl lt) (by omega)).1]
  rw [show c_X12_program  τ' = _ from e2, bd_s, if_pos rfl, nm_t]
theorem w_338 (h : Lw L c Z σ) (hv : Wv L v4) (hn : 5000 ≤ n) (hc : c ≤ 600) : ∃ σ', Lw L (c + 1) Z σ' ∧ ∀ K, b_L_law_338 K n 0 4 130 168 v4 σ = K (v4 + 6) σ' := by
  have hl := h.1.1.1
  obtain ⟨r, τ', σ', e1, e2, lt, g0, k0, hw⟩ := twoA (C := fun s => c_X11_act (gI σ 0 (v4 + (1 : Int32)).toNatClampNeg) (gI σ 0 (v4 + (2 : Int32)).toNatClampNeg) (gI σ 0 (v4 + (3 : Int32)).toNatClampNeg) (gI σ 0 (v4 + (4 : Int32)).toNatClampNeg) (gI σ 0 (v4 + (5 : Int32)).toNatClampNeg) s) (D := fun s => c_X12_act (gI σ 0 (v4 + (1 : Int32)).toNatClampNeg) (gI σ 0 (v4 + (2 : Int32)).toNatClampNeg) (gI σ 0 (v4 + (3 : Int32)).toNatClampNeg) (gI σ 0 (v4 + (4 : Int32)).toNatClampNeg) (gI σ 0 (v4 + (5 : Int32)).toNatClampNeg) s) h (fun τ s hr => s_act  _ _ _ _ _ hr) (fun b e => (k_f_X11_act (lo := 4) (hi := 130) (To_refl hl) (by omega)).2 b e) (fun s b hs e => (k_f_X12_act (lo := 130) (hi := 168) (To_refl hs) (by omega)).2 b e)
  refine ⟨σ', hw, fun K => ?_⟩
  unfold b_L_law_338 b_L_law_1762
  rw [ck_t (ok0 h.2.1 hl hv 1 (by decide) (by decide)), ck_t (ok0 h.2.1 hl hv 2 (by decide) (by decide)), ck_t (ok0 h.2.1 hl hv 3 (by decide) (by decide)), ck_t (ok0 h.2.1 hl hv 4 (by decide) (by decide)), ck_t (ok0 h.2.1 hl hv 5 (by decide) (by decide)), ck_t (o10 hl), (k_f_X11_act (lo := 4) (hi := 130) (To_refl hl) (by omega)).1]
  rw [show c_X11_act (gI σ 0 (v4 + (1 : Int32)).toNatClampNeg) (gI σ 0 (v4 + (2 : Int32)).toNatClampNeg) (gI σ 0 (v4 + (3 : Int32)).toNatClampNeg) (gI σ 0 (v4 + (4 : Int32)).toNatClampNeg) (gI σ 0 (v4 + (5 : Int32)).toNatClampNeg) σ = _ from e1, bd_s, ck_t (ok0 k0 lt hv 1 (by decide) (by decide)), ck_t (ok0 k0 lt hv 2 (by decide) (by decide)), ck_t (ok0 k0 lt hv 3 (by decide) (by decide)), ck_t (ok0 k0 lt hv 4 (by decide) (by decide)), ck_t (ok0 k0 lt hv 5 (by decide) (by decide)), ck_t (o11 lt), g0, (k_f_X12_act (lo := 130) (hi := 168) (To_refl lt) (by omega)).1]
  rw [show c_X12_act (gI σ 0 (v4 + (1 : Int32)).toNatClampNeg) (gI σ 0 (v4 + (2 : Int32)).toNatClampNeg) (gI σ 0 (v4 + (3 : Int32)).toNatClampNeg) (gI σ 0 (v4 + (4 : Int32)).toNatClampNeg) (gI σ 0 (v4 + (5 : Int32)).toNatClampNeg) τ' = _ from e2, bd_s, if_pos rfl, nm_t]
theorem w_411 (h : Lw L c Z σ) (hv : Wv L v4) (hn : 5000 ≤ n) (hc : c ≤ 600) : ∃ σ', Lw L (c + 1) Z σ' ∧ ∀ K, b_L_law_411 K n 0 4 130 168 v4 σ = K (v4 + 6) σ' := by
  have hl := h.1.1.1
  obtain ⟨r, τ', σ', e1, e2, lt, g0, k0, hw⟩ := twoA (C := fun s => c_X11_set (gI σ 0 (v4 + (1 : Int32)).toNatClampNeg) (gI σ 0 (v4 + (2 : Int32)).toNatClampNeg) (gI σ 0 (v4 + (3 : Int32)).toNatClampNeg) (gI σ 0 (v4 + (4 : Int32)).toNatClampNeg) s) (D := fun s => c_X12_set (gI σ 0 (v4 + (1 : Int32)).toNatClampNeg) (gI σ 0 (v4 + (2 : Int32)).toNatClampNeg) (gI σ 0 (v4 + (3 : Int32)).toNatClampNeg) (gI σ 0 (v4 + (4 : Int32)).toNatClampNeg) s) h (fun τ s hr => s_set  _ _ _ _ hr) (fun b e => (k_f_X11_set (lo := 4) (hi := 130) (To_refl hl) (by omega)).2 b e) (fun s b hs e => (k_f_X12_set (lo := 130) (hi := 168) (To_refl hs) (by omega)).2 b e)
  refine ⟨σ', hw, fun K => ?_⟩
  unfold b_L_law_411 b_L_law_1762
  rw [ck_t (ok0 h.2.1 hl hv 1 (by decide) (by decide)), ck_t (ok0 h.2.1 hl hv 2 (by decide) (by decide)), ck_t (ok0 h.2.1 hl hv 3 (by decide) (by decide)), ck_t (ok0 h.2.1 hl hv 4 (by decide) (by decide)), ck_t (o10 hl), (k_f_X11_set (lo := 4) (hi := 130) (To_refl hl) (by omega)).1]
  rw [show c_X11_set (gI σ 0 (v4 + (1 : Int32)).toNatClampNeg) (gI σ 0 (v4 + (2 : Int32)).toNatClampNeg) (gI σ 0 (v4 + (3 : Int32)).toNatClampNeg) (gI σ 0 (v4 + (4 : Int32)).toNatClampNeg) σ = _ from e1, bd_s, ck_t (ok0 k0 lt hv 1 (by decide) (by decide)), ck_t (ok0 k0 lt hv 2 (by decide) (by decide)), ck_t (ok0 k0 lt hv 3 (by decide) (by decide)), ck_t (ok0 k0 lt hv 4 (by decide) (by decide)), ck_t (o11 lt), g0, (k_f_X12_set (lo := 130) (hi := 168) (To_refl lt) (by omega)).1]
  rw [show c_X12_set (gI σ 0 (v4 + (1 : Int32)).toNatClampNeg) (gI σ 0 (v4 + (2 : Int32)).toNatClampNeg) (gI σ 0 (v4 + (3 : Int32)).toNatClampNeg) (gI σ 0 (v4 + (4 : Int32)).toNatClampNeg) τ' = _ from e2, bd_s, if_pos rfl, nm_t]
theorem w_472 (h : Lw L c Z σ) (hv : Wv L v4) (hn : 5000 ≤ n) (hc : c ≤ 600) : ∃ σ', Lw L (c + 1) Z σ' ∧ ∀ K, b_L_law_472 K n 0 4 130 168 v4 σ = K (v4 + 6) σ' := by
  have hl := h.1.1.1
  obtain ⟨r, e1, e2⟩ := s_told  (gI σ 0 (v4 + (1 : Int32)).toNatClampNeg) (gI σ 0 (v4 + (2 : Int32)).toNatClampNeg) (gI σ 0 (v4 + (3 : Int32)).toNatClampNeg) h.1
  refine ⟨σ, Lw_up h, fun K => ?_⟩
  unfold b_L_law_472 b_L_law_1762
  rw [ck_t (ok0 h.2.1 hl hv 1 (by decide) (by decide)), ck_t (ok0 h.2.1 hl hv 2 (by decide) (by decide)), ck_t (ok0 h.2.1 hl hv 3 (by decide) (by decide)), ck_t (o10 hl), (k_f_X11_told (lo := 4) (hi := 130) (To_refl hl)).1, e1, bp_s, ck_t (o11 hl), (k_f_X12_told (lo := 4) (hi := 130) (To_refl hl)).1, e2, bp_s, if_pos rfl, nm_t]
theorem w_521 (h : Lw L c Z σ) (hv : Wv L v4) (hn : 5000 ≤ n) (hc : c ≤ 600) : ∃ σ', Lw L (c + 1) Z σ' ∧ ∀ K, b_L_law_521 K n 0 4 130 168 v4 σ = K (v4 + 6) σ' := by
  have hl := h.1.1.1
  obtain ⟨r, τ', σ', e1, e2, lt, g0, k0, hw⟩ := twoA (C := fun s => c_X11_run n (gI σ 0 (v4 + (1 : Int32)).toNatClampNeg) s) (D := fun s => c_X12_run n (gI σ 0 (v4 + (1 : Int32)).toNatClampNeg) s) h (fun τ s hr => s_run n (by omega) _ hc hr) (fun b e => (k_f_X11_run (lo := 4) (hi := 130) (To_refl hl) (by omega)).2 b e) (fun s b hs e => (k_f_X12_run (lo := 130) (hi := 168) (To_refl hs) (by omega)).2 b e)
  refine ⟨σ', hw, fun K => ?_⟩
  unfold b_L_law_521 b_L_law_1762
  rw [ck_t (ok0 h.2.1 hl hv 1 (by decide) (by decide)), ck_t (o10 hl), (k_f_X11_run (lo := 4) (hi := 130) (To_refl hl) (by omega)).1]
  rw [show c_X11_run n (gI σ 0 (v4 + (1 : Int32)).toNatClampNeg) σ = _ from e1, bd_s, ck_t (ok0 k0 lt hv 1 (by decide) (by decide)), ck_t (o11 lt), g0, (k_f_X12_run (lo := 130) (hi := 168) (To_refl lt) (by omega)).1]
  rw [show c_X12_run n (gI σ 0 (v4 + (1 : Int32)).toNatClampNeg) τ' = _ from e2, bd_s, if_pos rfl, nm_t]
theorem w_546 (h : Lw L c Z σ) (hv : Wv L v4) (hn : 5000 ≤ n) (hc : c ≤ 600) : ∃ σ', Lw L (c + 1) Z σ' ∧ ∀ K, b_L_law_546 K n 0 4 130 168 v4 σ = K (v4 + 6) σ' := by
  have hl := h.1.1.1
  obtain ⟨r, τ', σ', e1, e2, lt, g0, k0, hw⟩ := twoA (C := fun s => c_X11_years n (gI σ 0 (v4 + (1 : Int32)).toNatClampNeg) (gI σ 0 (v4 + (2 : Int32)).toNatClampNeg) s) (D := fun s => c_X12_years n (gI σ 0 (v4 + (1 : Int32)).toNatClampNeg) (gI σ 0 (v4 + (2 : Int32)).toNatClampNeg) s) h (fun τ s hr => s_years n (by omega) _ _ hc hr) (fun b e => (k_f_X11_years (lo := 4) (hi := 130) (To_refl hl) (by omega)).2 b e) (fun s b hs e => (k_f_X12_years (lo := 130) (hi := 168) (To_refl hs) (by omega)).2 b e)
  refine ⟨σ', hw, fun K => ?_⟩
  unfold b_L_law_546 b_L_law_1762
  rw [ck_t (ok0 h.2.1 hl hv 1 (by decide) (by decide)), ck_t (ok0 h.2.1 hl hv 2 (by decide) (by decide)), ck_t (o10 hl), (k_f_X11_years (lo := 4) (hi := 130) (To_refl hl) (by omega)).1]
  rw [show c_X11_years n (gI σ 0 (v4 + (1 : Int32)).toNatClampNeg) (gI σ 0 (v4 + (2 : Int32)).toNatClampNeg) σ = _ from e1, bd_s, ck_t (ok0 k0 lt hv 1 (by decide) (by decide)), ck_t (ok0 k0 lt hv 2 (by decide) (by decide)), ck_t (o11 lt), g0, (k_f_X12_years (lo := 130) (hi := 168) (To_refl lt) (by omega)).1]
  rw [show c_X12_years n (gI σ 0 (v4 + (1 : Int32)).toNatClampNeg) (gI σ 0 (v4 + (2 : Int32)).toNatClampNeg) τ' = _ from e2, bd_s, if_pos rfl, nm_t]
theorem w_583 (h : Lw L c Z σ) (hv : Wv L v4) (hn : 5000 ≤ n) (hc : c ≤ 600) : ∃ σ', Lw L (c + 1) Z σ' ∧ ∀ K, b_L_law_583 K n 0 4 130 168 v4 σ = K (v4 + 6) σ' := by
  have hl := h.1.1.1
  obtain ⟨r, e1, e2⟩ := s_failed   h.1
  refine ⟨σ, Lw_up h, fun K => ?_⟩
  unfold b_L_law_583 b_L_law_1762
  rw [ck_t (o10 hl), (k_f_X11_failed (lo := 4) (hi := 130) (To_refl hl)).1, e1, bp_s, ck_t (o11 hl), (k_f_X12_failed (lo := 4) (hi := 130) (To_refl hl)).1, e2, bp_s, if_pos rfl, nm_t]
theorem w_596 (h : Lw L c Z σ) (hv : Wv L v4) (hn : 5000 ≤ n) (hc : c ≤ 600) : ∃ σ', Lw L (c + 1) Z σ' ∧ ∀ K, b_L_law_596 K n 0 4 130 168 v4 σ = K (v4 + 6) σ' := by
  have hl := h.1.1.1
  obtain ⟨k, σ1, v, σ2, e1, e2, e3, e4, lt, g0, k0, hw⟩ := twoY (cv := fun x => x) (C := fun s => c_X11_account (gI σ 0 (v4 + (1 : Int32)).toNatClampNeg) s) (D := fun s => c_X12_account (gI σ 0 (v4 + (1 : Int32)).toNatClampNeg) s) h (fun τ s hr => by obtain ⟨x, v, τ', s', a1, a2, a3, a4⟩ := s_account _ hr; exact ⟨x, v, τ', s', a1, a2, RX_g a3 (ns_account _ a1), a4⟩) (fun b e => (k_f_X11_account (lo := 4) (hi := 130) (To_refl hl)).2 b e) (fun s b hs e => (k_f_X12_account (lo := 130) (hi := 168) (To_refl hs) (by omega)).2 b e)
  have l2 : Lay σ2 := hw.1.1.1
  have eL : f_L_account 4 (gI σ 0 (v4 + (1 : Int32)).toNatClampNeg) 168 σ = some (k, σ1) := by
    unfold f_L_account
    rw [ck_t (o10 hl), (k_f_X11_account (lo := 4) (hi := 130) (To_refl hl)).1]
    exact e1
  refine ⟨σ2, hw, fun K => ?_⟩
  unfold b_L_law_596 b_L_law_648 b_L_law_1762
  rw [ck_t (ok0 h.2.1 hl hv 1 (by decide) (by decide)), eL, bd_s, ck_t (ok0 k0 lt hv 1 (by decide) (by decide)), ck_t (o11 lt), g0, (k_f_X12_account (lo := 130) (hi := 168) (To_refl lt) (by omega)).1]
  rw [show c_X12_account (gI σ 0 (v4 + (1 : Int32)).toNatClampNeg) σ1 = _ from e2, bd_s, ck_t (o11 l2), (k_f_X12_thrown (lo := 130) (hi := 168) (To_refl l2)).1]
  unfold c_X12_thrown
  rw [bp_s, if_pos e3, ck_t (ok168 l2), show (0 : Int32).toNatClampNeg = 0 from rfl, nm_t]
  by_cases q : k = 0
  · rw [if_pos q, if_pos (e4 q)]
  · rw [if_neg q]
theorem w_651 (h : Lw L c Z σ) (hv : Wv L v4) (hn : 5000 ≤ n) (hc : c ≤ 600) : ∃ σ', Lw L (c + 1) Z σ' ∧ ∀ K, b_L_law_651 K n 0 4 130 168 v4 σ = K (v4 + 6) σ' := by
  have hl := h.1.1.1
  obtain ⟨k, σ1, v, σ2, e1, e2, e3, e4, lt, g0, k0, hw⟩ := twoY (cv := fun x => x) (C := fun s => c_X11_slot (gI σ 0 (v4 + (1 : Int32)).toNatClampNeg) (gI σ 0 (v4 + (2 : Int32)).toNatClampNeg) s) (D := fun s => c_X12_slot (gI σ 0 (v4 + (1 : Int32)).toNatClampNeg) (gI σ 0 (v4 + (2 : Int32)).toNatClampNeg) s) h (fun τ s hr => by obtain ⟨x, v, τ', s', a1, a2, a3, a4⟩ := s_slot _ _ hr; exact ⟨x, v, τ', s', a1, a2, RX_g a3 (ns_slot _ a1), a4⟩) (fun b e => (k_f_X11_slot (lo := 4) (hi := 130) (To_refl hl)).2 b e) (fun s b hs e => (k_f_X12_slot (lo := 130) (hi := 168) (To_refl hs) (by omega)).2 b e)
  have l2 : Lay σ2 := hw.1.1.1
  have eL : f_L_slot 4 (gI σ 0 (v4 + (1 : Int32)).toNatClampNeg) (gI σ 0 (v4 + (2 : Int32)).toNatClampNeg) 168 σ = some (k, σ1) := by
    unfold f_L_slot
    rw [ck_t (o10 hl), (k_f_X11_slot (lo := 4) (hi := 130) (To_refl hl)).1]
    exact e1
  refine ⟨σ2, hw, fun K => ?_⟩
  unfold b_L_law_651 b_L_law_715 b_L_law_1762
  rw [ck_t (ok0 h.2.1 hl hv 1 (by decide) (by decide)), ck_t (ok0 h.2.1 hl hv 2 (by decide) (by decide)), eL, bd_s, ck_t (ok0 k0 lt hv 1 (by decide) (by decide)), ck_t (ok0 k0 lt hv 2 (by decide) (by decide)), ck_t (o11 lt), g0, (k_f_X12_slot (lo := 130) (hi := 168) (To_refl lt) (by omega)).1]
  rw [show c_X12_slot (gI σ 0 (v4 + (1 : Int32)).toNatClampNeg) (gI σ 0 (v4 + (2 : Int32)).toNatClampNeg) σ1 = _ from e2, bd_s, ck_t (o11 l2), (k_f_X12_thrown (lo := 130) (hi := 168) (To_refl l2)).1]
  unfold c_X12_thrown
  rw [bp_s, if_pos e3, ck_t (ok168 l2), show (0 : Int32).toNatClampNeg = 0 from rfl, nm_t]
  by_cases q : k = 0
  · rw [if_pos q, if_pos (e4 q)]
  · rw [if_neg q]
theorem w_718 (h : Lw L c Z σ) (hv : Wv L v4) (hn : 5000 ≤ n) (hc : c ≤ 600) : ∃ σ', Lw L (c + 1) Z σ' ∧ ∀ K, b_L_law_718 K n 0 4 130 168 v4 σ = K (v4 + 6) σ' := by
  have hl := h.1.1.1
  obtain ⟨k, σ1, v, σ2, e1, e2, e3, e4, lt, g0, k0, hw⟩ := twoY (cv := fun x => x) (C := fun s => c_X11_part (gI σ 0 (v4 + (1 : Int32)).toNatClampNeg) s) (D := fun s => c_X12_part (gI σ 0 (v4 + (1 : Int32)).toNatClampNeg) s) h (fun τ s hr => by obtain ⟨x, v, τ', s', a1, a2, a3, a4⟩ := s_part _ hr; exact ⟨x, v, τ', s', a1, a2, RX_g a3 (ns_part _ a1), a4⟩) (fun b e => (k_f_X11_part (lo := 4) (hi := 130) (To_refl hl)).2 b e) (fun s b hs e => (k_f_X12_part (lo := 130) (hi := 168) (To_refl hs) (by omega)).2 b e)
  have l2 : Lay σ2 := hw.1.1.1
  have eL : f_L_part 4 (gI σ 0 (v4 + (1 : Int32)).toNatClampNeg) 168 σ = some (k, σ1) := by
    unfold f_L_part
    rw [ck_t (o10 hl), (k_f_X11_part (lo := 4) (hi := 130) (To_refl hl)).1]
    exact e1
  refine ⟨σ2, hw, fun K => ?_⟩
  unfold b_L_law_718 b_L_law_770 b_L_law_1762
  rw [ck_t (ok0 h.2.1 hl hv 1 (by decide) (by decide)), eL, bd_s, ck_t (ok0 k0 lt hv 1 (by decide) (by decide)), ck_t (o11 lt), g0, (k_f_X12_part (lo := 130) (hi := 168) (To_refl lt) (by omega)).1]
  rw [show c_X12_part (gI σ 0 (v4 + (1 : Int32)).toNatClampNeg) σ1 = _ from e2, bd_s, ck_t (o11 l2), (k_f_X12_thrown (lo := 130) (hi := 168) (To_refl l2)).1]
  unfold c_X12_thrown
  rw [bp_s, if_pos e3, ck_t (ok168 l2), show (0 : Int32).toNatClampNeg = 0 from rfl, nm_t]
  by_cases q : k = 0
  · rw [if_pos q, if_pos (e4 q)]
  · rw [if_neg q]
theorem w_773 (h : Lw L c Z σ) (hv : Wv L v4) (hn : 5000 ≤ n) (hc : c ≤ 600) : ∃ σ', Lw L (c + 1) Z σ' ∧ ∀ K, b_L_law_773 K n 0 4 130 168 v4 σ = K (v4 + 6) σ' := by
  have hl := h.1.1.1
  obtain ⟨k, σ1, v, σ2, e1, e2, e3, e4, lt, g0, k0, hw⟩ := twoY (cv := fun x => x) (C := fun s => c_X11_got (gI σ 0 (v4 + (1 : Int32)).toNatClampNeg) s) (D := fun s => c_X12_got (gI σ 0 (v4 + (1 : Int32)).toNatClampNeg) s) h (fun τ s hr => by obtain ⟨x, v, τ', s', a1, a2, a3, a4⟩ := s_got _ hr; exact ⟨x, v, τ', s', a1, a2, RX_g a3 (ns_got _ a1), a4⟩) (fun b e => (k_f_X11_got (lo := 4) (hi := 130) (To_refl hl)).2 b e) (fun s b hs e => (k_f_X12_got (lo := 130) (hi := 168) (To_refl hs) (by omega)).2 b e)
  have l2 : Lay σ2 := hw.1.1.1
  have eL : f_L_got 4 (gI σ 0 (v4 + (1 : Int32)).toNatClampNeg) 168 σ = some (k, σ1) := by
    unfold f_L_got
    rw [ck_t (o10 hl), (k_f_X11_got (lo := 4) (hi := 130) (To_refl hl)).1]
    exact e1
  refine ⟨σ2, hw, fun K => ?_⟩
  unfold b_L_law_773 b_L_law_825 b_L_law_1762
  rw [ck_t (ok0 h.2.1 hl hv 1 (by decide) (by decide)), eL, bd_s, ck_t (ok0 k0 lt hv 1 (by decide) (by decide)), ck_t (o11 lt), g0, (k_f_X12_got (lo := 130) (hi := 168) (To_refl lt) (by omega)).1]
  rw [show c_X12_got (gI σ 0 (v4 + (1 : Int32)).toNatClampNeg) σ1 = _ from e2, bd_s, ck_t (o11 l2), (k_f_X12_thrown (lo := 130) (hi := 168) (To_refl l2)).1]
  unfold c_X12_thrown
  rw [bp_s, if_pos e3, ck_t (ok168 l2), show (0 : Int32).toNatClampNeg = 0 from rfl, nm_t]
  by_cases q : k = 0
  · rw [if_pos q, if_pos (e4 q)]
  · rw [if_neg q]
theorem w_828 (h : Lw L c Z σ) (hv : Wv L v4) (hn : 5000 ≤ n) (hc : c ≤ 600) : ∃ σ', Lw L (c + 1) Z σ' ∧ ∀ K, b_L_law_828 K n 0 4 130 168 v4 σ = K (v4 + 6) σ' := by
  have hl := h.1.1.1
  obtain ⟨k, σ1, v, σ2, e1, e2, e3, e4, lt, g0, k0, hw⟩ := twoY (cv := fun x => x) (C := fun s => c_X11_carried (gI σ 0 (v4 + (1 : Int32)).toNatClampNeg) (gI σ 0 (v4 + (2 : Int32)).toNatClampNeg) s) (D := fun s => c_X12_carried (gI σ 0 (v4 + (1 : Int32)).toNatClampNeg) (gI σ 0 (v4 + (2 : Int32)).toNatClampNeg) s) h (fun τ s hr => by obtain ⟨x, v, τ', s', a1, a2, a3, a4⟩ := s_carried _ _ hr; exact ⟨x, v, τ', s', a1, a2, RX_g a3 (ns_carried _ a1), a4⟩) (fun b e => (k_f_X11_carried (lo := 4) (hi := 130) (To_refl hl)).2 b e) (fun s b hs e => (k_f_X12_carried (lo := 130) (hi := 168) (To_refl hs) (by omega)).2 b e)
  have l2 : Lay σ2 := hw.1.1.1
  have eL : f_L_carried 4 (gI σ 0 (v4 + (1 : Int32)).toNatClampNeg) (gI σ 0 (v4 + (2 : Int32)).toNatClampNeg) 168 σ = some (k, σ1) := by
    unfold f_L_carried
    rw [ck_t (o10 hl), (k_f_X11_carried (lo := 4) (hi := 130) (To_refl hl)).1]
    exact e1
  refine ⟨σ2, hw, fun K => ?_⟩
  unfold b_L_law_828 b_L_law_892 b_L_law_1762
  rw [ck_t (ok0 h.2.1 hl hv 1 (by decide) (by decide)), ck_t (ok0 h.2.1 hl hv 2 (by decide) (by decide)), eL, bd_s, ck_t (ok0 k0 lt hv 1 (by decide) (by decide)), ck_t (ok0 k0 lt hv 2 (by decide) (by decide)), ck_t (o11 lt), g0, (k_f_X12_carried (lo := 130) (hi := 168) (To_refl lt) (by omega)).1]
  rw [show c_X12_carried (gI σ 0 (v4 + (1 : Int32)).toNatClampNeg) (gI σ 0 (v4 + (2 : Int32)).toNatClampNeg) σ1 = _ from e2, bd_s, ck_t (o11 l2), (k_f_X12_thrown (lo := 130) (hi := 168) (To_refl l2)).1]
  unfold c_X12_thrown
  rw [bp_s, if_pos e3, ck_t (ok168 l2), show (0 : Int32).toNatClampNeg = 0 from rfl, nm_t]
  by_cases q : k = 0
  · rw [if_pos q, if_pos (e4 q)]
  · rw [if_neg q]
theorem w_895 (h : Lw L c Z σ) (hv : Wv L v4) (hn : 5000 ≤ n) (hc : c ≤ 600) : ∃ σ', Lw L (c + 1) Z σ' ∧ ∀ K, b_L_law_895 K n 0 4 130 168 v4 σ = K (v4 + 6) σ' := by
  have hl := h.1.1.1
  obtain ⟨r, τ', σ', e1, e2, lt, g0, k0, hw⟩ := twoA (C := fun s => c_X11_least n (gI σ 0 (v4 + (1 : Int32)).toNatClampNeg) (gI σ 0 (v4 + (2 : Int32)).toNatClampNeg) (gI σ 0 (v4 + (3 : Int32)).toNatClampNeg) (gI σ 0 (v4 + (4 : Int32)).toNatClampNeg) (gI σ 0 (v4 + (5 : Int32)).toNatClampNeg) s) (D := fun s => c_X12_least n (gI σ 0 (v4 + (1 : Int32)).toNatClampNeg) (gI σ 0 (v4 + (2 : Int32)).toNatClampNeg) (gI σ 0 (v4 + (3 : Int32)).toNatClampNeg) (gI σ 0 (v4 + (4 : Int32)).toNatClampNeg) (gI σ 0 (v4 + (5 : Int32)).toNatClampNeg) s) h (fun τ s hr => s_least flt_all n (by omega) _ _ _ _ _ hr) (fun b e => (k_f_X11_least (lo := 4) (hi := 130) (To_refl hl) (by omega)).2 b e) (fun s b hs e => (k_f_X12_least (lo := 130) (hi := 168) (To_refl hs) (by omega)).2 b e)
  refine ⟨σ', hw, fun K => ?_⟩
  unfold b_L_law_895 b_L_law_1762
  rw [ck_t (ok0 h.2.1 hl hv 1 (by decide) (by decide)), ck_t (ok0 h.2.1 hl hv 2 (by decide) (by decide)), ck_t (ok0 h.2.1 hl hv 3 (by decide) (by decide)), ck_t (ok0 h.2.1 hl hv 4 (by decide) (by decide)), ck_t (ok0 h.2.1 hl hv 5 (by decide) (by decide)), ck_t (o10 hl), (k_f_X11_least (lo := 4) (hi := 130) (To_refl hl) (by omega)).1]
  rw [show c_X11_least n (gI σ 0 (v4 + (1 : Int32)).toNatClampNeg) (gI σ 0 (v4 + (2 : Int32)).toNatClampNeg) (gI σ 0 (v4 + (3 : Int32)).toNatClampNeg) (gI σ 0 (v4 + (4 : Int32)).toNatClampNeg) (gI σ 0 (v4 + (5 : Int32)).toNatClampNeg) σ = _ from e1, bd_s, ck_t (ok0 k0 lt hv 1 (by decide) (by decide)), ck_t (ok0 k0 lt hv 2 (by decide) (by decide)), ck_t (ok0 k0 lt hv 3 (by decide) (by decide)), ck_t (ok0 k0 lt hv 4 (by decide) (by decide)), ck_t (ok0 k0 lt hv 5 (by decide) (by decide)), ck_t (o11 lt), g0, (k_f_X12_least (lo := 130) (hi := 168) (To_refl lt) (by omega)).1]
  rw [show c_X12_least n (gI σ 0 (v4 + (1 : Int32)).toNatClampNeg) (gI σ 0 (v4 + (2 : Int32)).toNatClampNeg) (gI σ 0 (v4 + (3 : Int32)).toNatClampNeg) (gI σ 0 (v4 + (4 : Int32)).toNatClampNeg) (gI σ 0 (v4 + (5 : Int32)).toNatClampNeg) τ' = _ from e2, bd_s, if_pos rfl, nm_t]
theorem w_968 (h : Lw L c Z σ) (hv : Wv L v4) (hn : 5000 ≤ n) (hc : c ≤ 600) : ∃ σ', Lw L (c + 1) Z σ' ∧ ∀ K, b_L_law_968 K n 0 4 130 168 v4 σ = K (v4 + 6) σ' := by
  have hl := h.1.1.1
  obtain ⟨r, τ', σ', e1, e2, lt, g0, k0, hw⟩ := twoA (C := fun s => c_X11_order n (gI σ 0 (v4 + (1 : Int32)).toNatClampNeg) s) (D := fun s => c_X12_order n (gI σ 0 (v4 + (1 : Int32)).toNatClampNeg) s) h (fun τ s hr => s_order n (by omega) _ hr) (fun b e => (k_f_X11_order (lo := 4) (hi := 130) (To_refl hl) (by omega)).2 b e) (fun s b hs e => (k_f_X12_order (lo := 130) (hi := 168) (To_refl hs) (by omega)).2 b e)
  refine ⟨σ', hw, fun K => ?_⟩
  unfold b_L_law_968 b_L_law_1762
  rw [ck_t (ok0 h.2.1 hl hv 1 (by decide) (by decide)), ck_t (o10 hl), (k_f_X11_order (lo := 4) (hi := 130) (To_refl hl) (by omega)).1]
  rw [show c_X11_order n (gI σ 0 (v4 + (1 : Int32)).toNatClampNeg) σ = _ from e1, bd_s, ck_t (ok0 k0 lt hv 1 (by decide) (by decide)), ck_t (o11 lt), g0, (k_f_X12_order (lo := 130) (hi := 168) (To_refl lt) (by omega)).1]
  rw [show c_X12_order n (gI σ 0 (v4 + (1 : Int32)).toNatClampNeg) τ' = _ from e2, bd_s, if_pos rfl, nm_t]
theorem w_993 (h : Lw L c Z σ) (hv : Wv L v4) (hn : 5000 ≤ n) (hc : c ≤ 600) : ∃ σ', Lw L (c + 1) Z σ' ∧ ∀ K, b_L_law_993 K n 0 4 130 168 v4 σ = K (v4 + 6) σ' := by
  have hl := h.1.1.1
  obtain ⟨k, σ1, v, σ2, e1, e2, e3, e4, lt, g0, k0, hw⟩ := twoY (cv := fun x => x.toInt64) (C := fun s => f_X11_drift n 4 (gI σ 0 (v4 + (1 : Int32)).toNatClampNeg) (gI σ 0 (v4 + (2 : Int32)).toNatClampNeg) (gI σ 0 (v4 + (3 : Int32)).toNatClampNeg) (gI σ 0 (v4 + (4 : Int32)).toNatClampNeg) (gI σ 0 (v4 + (5 : Int32)).toNatClampNeg) s) (D := fun s => c_X12_drift n (gI σ 0 (v4 + (1 : Int32)).toNatClampNeg) (gI σ 0 (v4 + (2 : Int32)).toNatClampNeg) (gI σ 0 (v4 + (3 : Int32)).toNatClampNeg) (gI σ 0 (v4 + (4 : Int32)).toNatClampNeg) (gI σ 0 (v4 + (5 : Int32)).toNatClampNeg) s) h (fun τ s hr => by obtain ⟨x, v, τ', s', a1, a2, a3, a4, -⟩ := s_drift _ _ _ _ _ hr hn; exact ⟨x, v, τ', s', a1, a2, a3, a4⟩) (fun b e => by obtain ⟨x, v, τ', s', a1, -, -, -, a5⟩ := s_drift _ _ _ _ _ h.1 hn; have e' := a1.symm.trans e; injection e' with e'; rw [← e']; exact ⟨a5.1, a5.2.1, fun a h1 h2 => a5.2.2 a h1 (by omega)⟩) (fun s b hs e => (k_f_X12_drift (lo := 130) (hi := 168) (To_refl hs) (by omega)).2 b e)
  have l2 : Lay σ2 := hw.1.1.1
  have eL : f_L_drift n 4 (gI σ 0 (v4 + (1 : Int32)).toNatClampNeg) (gI σ 0 (v4 + (2 : Int32)).toNatClampNeg) (gI σ 0 (v4 + (3 : Int32)).toNatClampNeg) (gI σ 0 (v4 + (4 : Int32)).toNatClampNeg) (gI σ 0 (v4 + (5 : Int32)).toNatClampNeg) 168 σ = some (k, σ1) := by
    unfold f_L_drift
    rw [ck_t (o10 hl)]
    exact e1
  refine ⟨σ2, hw, fun K => ?_⟩
  unfold b_L_law_993 b_L_law_1094 b_L_law_1762
  rw [ck_t (ok0 h.2.1 hl hv 1 (by decide) (by decide)), ck_t (ok0 h.2.1 hl hv 2 (by decide) (by decide)), ck_t (ok0 h.2.1 hl hv 3 (by decide) (by decide)), ck_t (ok0 h.2.1 hl hv 4 (by decide) (by decide)), ck_t (ok0 h.2.1 hl hv 5 (by decide) (by decide)), eL, bd_s, ck_t (ok0 k0 lt hv 1 (by decide) (by decide)), ck_t (ok0 k0 lt hv 2 (by decide) (by decide)), ck_t (ok0 k0 lt hv 3 (by decide) (by decide)), ck_t (ok0 k0 lt hv 4 (by decide) (by decide)), ck_t (ok0 k0 lt hv 5 (by decide) (by decide)), ck_t (o11 lt), g0, (k_f_X12_drift (lo := 130) (hi := 168) (To_refl lt) (by omega)).1]
  rw [show c_X12_drift n (gI σ 0 (v4 + (1 : Int32)).toNatClampNeg) (gI σ 0 (v4 + (2 : Int32)).toNatClampNeg) (gI σ 0 (v4 + (3 : Int32)).toNatClampNeg) (gI σ 0 (v4 + (4 : Int32)).toNatClampNeg) (gI σ 0 (v4 + (5 : Int32)).toNatClampNeg) σ1 = _ from e2, bd_s, ck_t (o11 l2), (k_f_X12_thrown (lo := 130) (hi := 168) (To_refl l2)).1]
  unfold c_X12_thrown
  rw [bp_s, if_pos e3, ck_t (ok168 l2), show (0 : Int32).toNatClampNeg = 0 from rfl, nm_t]
  by_cases q : k = 0
  · rw [if_pos q, if_pos (e4 q)]
  · rw [if_neg q]
theorem w_1097 (h : Lw L c Z σ) (hv : Wv L v4) (hn : 5000 ≤ n) (hc : c ≤ 600) : ∃ σ', Lw L (c + 1) Z σ' ∧ ∀ K, b_L_law_1097 K n 0 4 130 168 v4 σ = K (v4 + 6) σ' := by
  have hl := h.1.1.1
  obtain ⟨r, τ', σ', e1, e2, lt, g0, k0, hw⟩ := twoA (C := fun s => c_X11_mend n (gI σ 0 (v4 + (1 : Int32)).toNatClampNeg) (gI σ 0 (v4 + (2 : Int32)).toNatClampNeg) (gI σ 0 (v4 + (3 : Int32)).toNatClampNeg) (gI σ 0 (v4 + (4 : Int32)).toNatClampNeg) s) (D := fun s => c_X12_mend n (gI σ 0 (v4 + (1 : Int32)).toNatClampNeg) (gI σ 0 (v4 + (2 : Int32)).toNatClampNeg) (gI σ 0 (v4 + (3 : Int32)).toNatClampNeg) (gI σ 0 (v4 + (4 : Int32)).toNatClampNeg) s) h (fun τ s hr => s_mend flt_all n (by omega) _ _ _ _ hr) (fun b e => (k_f_X11_mend (lo := 4) (hi := 130) (To_refl hl) (by omega)).2 b e) (fun s b hs e => (k_f_X12_mend (lo := 130) (hi := 168) (To_refl hs) (by omega)).2 b e)
  refine ⟨σ', hw, fun K => ?_⟩
  unfold b_L_law_1097 b_L_law_1762
  rw [ck_t (ok0 h.2.1 hl hv 1 (by decide) (by decide)), ck_t (ok0 h.2.1 hl hv 2 (by decide) (by decide)), ck_t (ok0 h.2.1 hl hv 3 (by decide) (by decide)), ck_t (ok0 h.2.1 hl hv 4 (by decide) (by decide)), ck_t (o10 hl), (k_f_X11_mend (lo := 4) (hi := 130) (To_refl hl) (by omega)).1]
  rw [show c_X11_mend n (gI σ 0 (v4 + (1 : Int32)).toNatClampNeg) (gI σ 0 (v4 + (2 : Int32)).toNatClampNeg) (gI σ 0 (v4 + (3 : Int32)).toNatClampNeg) (gI σ 0 (v4 + (4 : Int32)).toNatClampNeg) σ = _ from e1, bd_s, ck_t (ok0 k0 lt hv 1 (by decide) (by decide)), ck_t (ok0 k0 lt hv 2 (by decide) (by decide)), ck_t (ok0 k0 lt hv 3 (by decide) (by decide)), ck_t (ok0 k0 lt hv 4 (by decide) (by decide)), ck_t (o11 lt), g0, (k_f_X12_mend (lo := 130) (hi := 168) (To_refl lt) (by omega)).1]
  rw [show c_X12_mend n (gI σ 0 (v4 + (1 : Int32)).toNatClampNeg) (gI σ 0 (v4 + (2 : Int32)).toNatClampNeg) (gI σ 0 (v4 + (3 : Int32)).toNatClampNeg) (gI σ 0 (v4 + (4 : Int32)).toNatClampNeg) τ' = _ from e2, bd_s, if_pos rfl, nm_t]
theorem w_1158 (h : Lw L c Z σ) (hv : Wv L v4) (hn : 5000 ≤ n) (hc : c ≤ 600) : ∃ σ', Lw L (c + 1) Z σ' ∧ ∀ K, b_L_law_1158 K n 0 4 130 168 v4 σ = K (v4 + 6) σ' := by
  have hl := h.1.1.1
  obtain ⟨r, e1, e2⟩ := s_same n (by omega) (gI σ 0 (v4 + (1 : Int32)).toNatClampNeg) (gI σ 0 (v4 + (2 : Int32)).toNatClampNeg) h.1
  refine ⟨σ, Lw_up h, fun K => ?_⟩
  unfold b_L_law_1158 b_L_law_1762
  rw [ck_t (ok0 h.2.1 hl hv 1 (by decide) (by decide)), ck_t (ok0 h.2.1 hl hv 2 (by decide) (by decide)), ck_t (o10 hl), (k_f_X11_same (lo := 4) (hi := 130) (To_refl hl)).1, e1, bp_s, ck_t (o11 hl), (k_f_X12_same (lo := 4) (hi := 130) (To_refl hl)).1, e2, bp_s, if_pos rfl, nm_t]
theorem w_1195 (h : Lw L c Z σ) (hv : Wv L v4) (hn : 5000 ≤ n) (hc : c ≤ 600) : ∃ σ', Lw L (c + 1) Z σ' ∧ ∀ K, b_L_law_1195 K n 0 4 130 168 v4 σ = K (v4 + 6) σ' := by
  have hl := h.1.1.1
  obtain ⟨k, σ1, v, σ2, e1, e2, e3, e4, lt, g0, k0, hw⟩ := twoY (cv := fun x => x) (C := fun s => c_X11_rounded ((((gI σ 0 (v4 + (1 : Int32)).toNatClampNeg).toInt64) <<< ((32 : Int32).toInt64 &&& 63)) ||| (((gI σ 0 (v4 + (2 : Int32)).toNatClampNeg).toInt64) &&& (4294967295 : Int64))) (gI σ 0 (v4 + (3 : Int32)).toNatClampNeg) (gI σ 0 (v4 + (4 : Int32)).toNatClampNeg) (gI σ 0 (v4 + (5 : Int32)).toNatClampNeg) s) (D := fun s => c_X12_rounded ((((gI σ 0 (v4 + (1 : Int32)).toNatClampNeg).toInt64) <<< ((32 : Int32).toInt64 &&& 63)) ||| (((gI σ 0 (v4 + (2 : Int32)).toNatClampNeg).toInt64) &&& (4294967295 : Int64))) (gI σ 0 (v4 + (3 : Int32)).toNatClampNeg) (gI σ 0 (v4 + (4 : Int32)).toNatClampNeg) (gI σ 0 (v4 + (5 : Int32)).toNatClampNeg) s) h (fun τ s hr => by obtain ⟨x, v, τ', s', a1, a2, a3, a4⟩ := s_rounded _ _ _ _ hr; exact ⟨x, v, τ', s', a1, a2, RX_g a3 (ns_rounded _ a1), a4⟩) (fun b e => (k_f_X11_rounded (lo := 4) (hi := 130) (To_refl hl)).2 b e) (fun s b hs e => (k_f_X12_rounded (lo := 130) (hi := 168) (To_refl hs) (by omega)).2 b e)
  have l2 : Lay σ2 := hw.1.1.1
  have eL : f_L_rounded 4 ((((gI σ 0 (v4 + (1 : Int32)).toNatClampNeg).toInt64) <<< ((32 : Int32).toInt64 &&& 63)) ||| (((gI σ 0 (v4 + (2 : Int32)).toNatClampNeg).toInt64) &&& (4294967295 : Int64))) (gI σ 0 (v4 + (3 : Int32)).toNatClampNeg) (gI σ 0 (v4 + (4 : Int32)).toNatClampNeg) (gI σ 0 (v4 + (5 : Int32)).toNatClampNeg) 168 σ = some (k, σ1) := by
    unfold f_L_rounded
    rw [ck_t (o10 hl), (k_f_X11_rounded (lo := 4) (hi := 130) (To_refl hl)).1]
    exact e1
  refine ⟨σ2, hw, fun K => ?_⟩
  unfold b_L_law_1195 b_L_law_1315 b_L_law_1762
  rw [ck_t (ok0 h.2.1 hl hv 1 (by decide) (by decide)), ck_t (ok0 h.2.1 hl hv 2 (by decide) (by decide)), ck_t (ok0 h.2.1 hl hv 3 (by decide) (by decide)), ck_t (ok0 h.2.1 hl hv 4 (by decide) (by decide)), ck_t (ok0 h.2.1 hl hv 5 (by decide) (by decide)), eL, bd_s, ck_t (ok0 k0 lt hv 1 (by decide) (by decide)), ck_t (ok0 k0 lt hv 2 (by decide) (by decide)), ck_t (ok0 k0 lt hv 3 (by decide) (by decide)), ck_t (ok0 k0 lt hv 4 (by decide) (by decide)), ck_t (ok0 k0 lt hv 5 (by decide) (by decide)), ck_t (o11 lt), g0, (k_f_X12_rounded (lo := 130) (hi := 168) (To_refl lt) (by omega)).1]
  rw [show c_X12_rounded ((((gI σ 0 (v4 + (1 : Int32)).toNatClampNeg).toInt64) <<< ((32 : Int32).toInt64 &&& 63)) ||| (((gI σ 0 (v4 + (2 : Int32)).toNatClampNeg).toInt64) &&& (4294967295 : Int64))) (gI σ 0 (v4 + (3 : Int32)).toNatClampNeg) (gI σ 0 (v4 + (4 : Int32)).toNatClampNeg) (gI σ 0 (v4 + (5 : Int32)).toNatClampNeg) σ1 = _ from e2, bd_s, ck_t (o11 l2), (k_f_X12_thrown (lo := 130) (hi := 168) (To_refl l2)).1]
  unfold c_X12_thrown
  rw [bp_s, if_pos e3, ck_t (ok168 l2), show (0 : Int32).toNatClampNeg = 0 from rfl, nm_t]
  by_cases q : k = 0
  · rw [if_pos q, if_pos (e4 q)]
  · rw [if_neg q]
theorem w_1318 (h : Lw L c Z σ) (hv : Wv L v4) (hn : 5000 ≤ n) (hc : c ≤ 600) : ∃ σ', Lw L (c + 1) Z σ' ∧ ∀ K, b_L_law_1318 K n 0 4 130 168 v4 σ = K (v4 + 6) σ' := by
  have hl := h.1.1.1
  obtain ⟨r, τ', σ', e1, e2, lt, g0, k0, hw⟩ := twoA (C := fun s => c_X11_tape n (gI σ 0 (v4 + (1 : Int32)).toNatClampNeg) (gI σ 0 (v4 + (2 : Int32)).toNatClampNeg) (gI σ 0 (v4 + (3 : Int32)).toNatClampNeg) s) (D := fun s => c_X12_tape n (gI σ 0 (v4 + (1 : Int32)).toNatClampNeg) (gI σ 0 (v4 + (2 : Int32)).toNatClampNeg) (gI σ 0 (v4 + (3 : Int32)).toNatClampNeg) s) h (fun τ s hr => s_tape n (by omega) _ _ _ hr) (fun b e => (k_f_X11_tape (lo := 4) (hi := 130) (To_refl hl) (by omega)).2 b e) (fun s b hs e => (k_f_X12_tape (lo := 130) (hi := 168) (To_refl hs) (by omega)).2 b e)
  refine ⟨σ', hw, fun K => ?_⟩
  unfold b_L_law_1318 b_L_law_1762
  rw [ck_t (ok0 h.2.1 hl hv 1 (by decide) (by decide)), ck_t (ok0 h.2.1 hl hv 2 (by decide) (by decide)), ck_t (ok0 h.2.1 hl hv 3 (by decide) (by decide)), ck_t (o10 hl), (k_f_X11_tape (lo := 4) (hi := 130) (To_refl hl) (by omega)).1]
  rw [show c_X11_tape n (gI σ 0 (v4 + (1 : Int32)).toNatClampNeg) (gI σ 0 (v4 + (2 : Int32)).toNatClampNeg) (gI σ 0 (v4 + (3 : Int32)).toNatClampNeg) σ = _ from e1, bd_s, ck_t (ok0 k0 lt hv 1 (by decide) (by decide)), ck_t (ok0 k0 lt hv 2 (by decide) (by decide)), ck_t (ok0 k0 lt hv 3 (by decide) (by decide)), ck_t (o11 lt), g0, (k_f_X12_tape (lo := 130) (hi := 168) (To_refl lt) (by omega)).1]
  rw [show c_X12_tape n (gI σ 0 (v4 + (1 : Int32)).toNatClampNeg) (gI σ 0 (v4 + (2 : Int32)).toNatClampNeg) (gI σ 0 (v4 + (3 : Int32)).toNatClampNeg) τ' = _ from e2, bd_s, if_pos rfl, nm_t]
theorem w_1367 (h : Lw L c Z σ) (hv : Wv L v4) (hn : 5000 ≤ n) (hc : c ≤ 600) : ∃ σ', Lw L (c + 1) Z σ' ∧ ∀ K, b_L_law_1367 K n 0 4 130 168 v4 σ = K (v4 + 6) σ' := by
  have hl := h.1.1.1
  obtain ⟨r, τ', σ', e1, e2, lt, g0, k0, hw⟩ := twoA (C := fun s => c_X11_image n (gI σ 0 (v4 + (1 : Int32)).toNatClampNeg) s) (D := fun s => c_X12_image n (gI σ 0 (v4 + (1 : Int32)).toNatClampNeg) s) h (fun τ s hr => s_image n (by omega) _ hr) (fun b e => (k_f_X11_image (lo := 4) (hi := 130) (To_refl hl) (by omega)).2 b e) (fun s b hs e => (k_f_X12_image (lo := 130) (hi := 168) (To_refl hs) (by omega)).2 b e)
  refine ⟨σ', hw, fun K => ?_⟩
  unfold b_L_law_1367 b_L_law_1762
  rw [ck_t (ok0 h.2.1 hl hv 1 (by decide) (by decide)), ck_t (o10 hl), (k_f_X11_image (lo := 4) (hi := 130) (To_refl hl) (by omega)).1]
  rw [show c_X11_image n (gI σ 0 (v4 + (1 : Int32)).toNatClampNeg) σ = _ from e1, bd_s, ck_t (ok0 k0 lt hv 1 (by decide) (by decide)), ck_t (o11 lt), g0, (k_f_X12_image (lo := 130) (hi := 168) (To_refl lt) (by omega)).1]
  rw [show c_X12_image n (gI σ 0 (v4 + (1 : Int32)).toNatClampNeg) τ' = _ from e2, bd_s, if_pos rfl, nm_t]
theorem w_1392 (h : Lw L c Z σ) (hv : Wv L v4) (hn : 5000 ≤ n) (hc : c ≤ 600) : ∃ σ', Lw L (c + 1) Z σ' ∧ ∀ K, b_L_law_1392 K n 0 4 130 168 v4 σ = K (v4 + 6) σ' := by
  have hl := h.1.1.1
  obtain ⟨r, τ', σ', e1, e2, lt, g0, k0, hw⟩ := twoA (C := fun s => c_X11_back n (gI σ 0 (v4 + (1 : Int32)).toNatClampNeg) s) (D := fun s => c_X12_back n (gI σ 0 (v4 + (1 : Int32)).toNatClampNeg) s) h (fun τ s hr => s_back n (by omega) _ hr) (fun b e => (k_f_X11_back (lo := 4) (hi := 130) (To_refl hl) (by omega)).2 b e) (fun s b hs e => (k_f_X12_back (lo := 130) (hi := 168) (To_refl hs) (by omega)).2 b e)
  refine ⟨σ', hw, fun K => ?_⟩
  unfold b_L_law_1392 b_L_law_1762
  rw [ck_t (ok0 h.2.1 hl hv 1 (by decide) (by decide)), ck_t (o10 hl), (k_f_X11_back (lo := 4) (hi := 130) (To_refl hl) (by omega)).1]
  rw [show c_X11_back n (gI σ 0 (v4 + (1 : Int32)).toNatClampNeg) σ = _ from e1, bd_s, ck_t (ok0 k0 lt hv 1 (by decide) (by decide)), ck_t (o11 lt), g0, (k_f_X12_back (lo := 130) (hi := 168) (To_refl lt) (by omega)).1]
  rw [show c_X12_back n (gI σ 0 (v4 + (1 : Int32)).toNatClampNeg) τ' = _ from e2, bd_s, if_pos rfl, nm_t]
theorem w_1417 (h : Lw L c Z σ) (hv : Wv L v4) (hn : 5000 ≤ n) (hc : c ≤ 600) : ∃ σ', Lw L (c + 1) Z σ' ∧ ∀ K, b_L_law_1417 K n 0 4 130 168 v4 σ = K (v4 + 6) σ' := by
  have hl := h.1.1.1
  obtain ⟨r, τ', σ', e1, e2, lt, g0, k0, hw⟩ := twoA (C := fun s => c_X11_toss (gI σ 0 (v4 + (1 : Int32)).toNatClampNeg) s) (D := fun s => c_X12_toss (gI σ 0 (v4 + (1 : Int32)).toNatClampNeg) s) h (fun τ s hr => s_toss  _ hr) (fun b e => (k_f_X11_toss (lo := 4) (hi := 130) (To_refl hl) (by omega)).2 b e) (fun s b hs e => (k_f_X12_toss (lo := 130) (hi := 168) (To_refl hs) (by omega)).2 b e)
  refine ⟨σ', hw, fun K => ?_⟩
  unfold b_L_law_1417 b_L_law_1762
  rw [ck_t (ok0 h.2.1 hl hv 1 (by decide) (by decide)), ck_t (o10 hl), (k_f_X11_toss (lo := 4) (hi := 130) (To_refl hl) (by omega)).1]
  rw [show c_X11_toss (gI σ 0 (v4 + (1 : Int32)).toNatClampNeg) σ = _ from e1, bd_s, ck_t (ok0 k0 lt hv 1 (by decide) (by decide)), ck_t (o11 lt), g0, (k_f_X12_toss (lo := 130) (hi := 168) (To_refl lt) (by omega)).1]
  rw [show c_X12_toss (gI σ 0 (v4 + (1 : Int32)).toNatClampNeg) τ' = _ from e2, bd_s, if_pos rfl, nm_t]
theorem w_1442 (h : Lw L c Z σ) (hv : Wv L v4) (hn : 5000 ≤ n) (hc : c ≤ 600) : ∃ σ', Lw L (c + 1) Z σ' ∧ ∀ K, b_L_law_1442 K n 0 4 130 168 v4 σ = K (v4 + 6) σ' := by
  have hl := h.1.1.1
  obtain ⟨r, τ', σ', e1, e2, lt, g0, k0, hw⟩ := twoA (C := fun s => c_X11_load n (gI σ 0 (v4 + (1 : Int32)).toNatClampNeg) (gI σ 0 (v4 + (2 : Int32)).toNatClampNeg) (gI σ 0 (v4 + (3 : Int32)).toNatClampNeg) s) (D := fun s => c_X12_load n (gI σ 0 (v4 + (1 : Int32)).toNatClampNeg) (gI σ 0 (v4 + (2 : Int32)).toNatClampNeg) (gI σ 0 (v4 + (3 : Int32)).toNatClampNeg) s) h (fun τ s hr => s_load n (by omega) _ _ _ hr) (fun b e => (k_f_X11_load (lo := 4) (hi := 130) (To_refl hl) (by omega)).2 b e) (fun s b hs e => (k_f_X12_load (lo := 130) (hi := 168) (To_refl hs) (by omega)).2 b e)
  refine ⟨σ', hw, fun K => ?_⟩
  unfold b_L_law_1442 b_L_law_1762
  rw [ck_t (ok0 h.2.1 hl hv 1 (by decide) (by decide)), ck_t (ok0 h.2.1 hl hv 2 (by decide) (by decide)), ck_t (ok0 h.2.1 hl hv 3 (by decide) (by decide)), ck_t (o10 hl), (k_f_X11_load (lo := 4) (hi := 130) (To_refl hl) (by omega)).1]
  rw [show c_X11_load n (gI σ 0 (v4 + (1 : Int32)).toNatClampNeg) (gI σ 0 (v4 + (2 : Int32)).toNatClampNeg) (gI σ 0 (v4 + (3 : Int32)).toNatClampNeg) σ = _ from e1, bd_s, ck_t (ok0 k0 lt hv 1 (by decide) (by decide)), ck_t (ok0 k0 lt hv 2 (by decide) (by decide)), ck_t (ok0 k0 lt hv 3 (by decide) (by decide)), ck_t (o11 lt), g0, (k_f_X12_load (lo := 130) (hi := 168) (To_refl lt) (by omega)).1]
  rw [show c_X12_load n (gI σ 0 (v4 + (1 : Int32)).toNatClampNeg) (gI σ 0 (v4 + (2 : Int32)).toNatClampNeg) (gI σ 0 (v4 + (3 : Int32)).toNatClampNeg) τ' = _ from e2, bd_s, if_pos rfl, nm_t]
theorem w_1491 (h : Lw L c Z σ) (hv : Wv L v4) (hn : 5000 ≤ n) (hc : c ≤ 600) : ∃ σ', Lw L (c + 1) Z σ' ∧ ∀ K, b_L_law_1491 K n 0 4 130 168 v4 σ = K (v4 + 6) σ' := by
  have hl := h.1.1.1
  obtain ⟨r, τ', σ', e1, e2, lt, g0, k0, hw⟩ := twoA (C := fun s => c_X11_clear (gI σ 0 (v4 + (1 : Int32)).toNatClampNeg) s) (D := fun s => c_X12_clear (gI σ 0 (v4 + (1 : Int32)).toNatClampNeg) s) h (fun τ s hr => s_clear  _ hr) (fun b e => (k_f_X11_clear (lo := 4) (hi := 130) (To_refl hl) (by omega)).2 b e) (fun s b hs e => (k_f_X12_clear (lo := 130) (hi := 168) (To_refl hs) (by omega)).2 b e)
  refine ⟨σ', hw, fun K => ?_⟩
  unfold b_L_law_1491 b_L_law_1762
  rw [ck_t (ok0 h.2.1 hl hv 1 (by decide) (by decide)), ck_t (o10 hl), (k_f_X11_clear (lo := 4) (hi := 130) (To_refl hl) (by omega)).1]
  rw [show c_X11_clear (gI σ 0 (v4 + (1 : Int32)).toNatClampNeg) σ = _ from e1, bd_s, ck_t (ok0 k0 lt hv 1 (by decide) (by decide)), ck_t (o11 lt), g0, (k_f_X12_clear (lo := 130) (hi := 168) (To_refl lt) (by omega)).1]
  rw [show c_X12_clear (gI σ 0 (v4 + (1 : Int32)).toNatClampNeg) τ' = _ from e2, bd_s, if_pos rfl, nm_t]
theorem w_1516 (h : Lw L c Z σ) (hv : Wv L v4) (hn : 5000 ≤ n) (hc : c ≤ 600) : ∃ σ', Lw L (c + 1) Z σ' ∧ ∀ K, b_L_law_1516 K n 0 4 130 168 v4 σ = K (v4 + 6) σ' := by
  have hl := h.1.1.1
  obtain ⟨r, τ', σ', e1, e2, lt, g0, k0, hw⟩ := twoA (C := fun s => c_X11_put (gI σ 0 (v4 + (1 : Int32)).toNatClampNeg) (gI σ 0 (v4 + (2 : Int32)).toNatClampNeg) ((((gI σ 0 (v4 + (3 : Int32)).toNatClampNeg).toInt64) <<< ((32 : Int32).toInt64 &&& 63)) ||| (((gI σ 0 (v4 + (4 : Int32)).toNatClampNeg).toInt64) &&& (4294967295 : Int64))) s) (D := fun s => c_X12_put (gI σ 0 (v4 + (1 : Int32)).toNatClampNeg) (gI σ 0 (v4 + (2 : Int32)).toNatClampNeg) ((((gI σ 0 (v4 + (3 : Int32)).toNatClampNeg).toInt64) <<< ((32 : Int32).toInt64 &&& 63)) ||| (((gI σ 0 (v4 + (4 : Int32)).toNatClampNeg).toInt64) &&& (4294967295 : Int64))) s) h (fun τ s hr => s_put  _ _ _ hr) (fun b e => (k_f_X11_put (lo := 4) (hi := 130) (To_refl hl) (by omega)).2 b e) (fun s b hs e => (k_f_X12_put (lo := 130) (hi := 168) (To_refl hs) (by omega)).2 b e)
  refine ⟨σ', hw, fun K => ?_⟩
  unfold b_L_law_1516 b_L_law_1762
  rw [ck_t (ok0 h.2.1 hl hv 1 (by decide) (by decide)), ck_t (ok0 h.2.1 hl hv 2 (by decide) (by decide)), ck_t (ok0 h.2.1 hl hv 3 (by decide) (by decide)), ck_t (ok0 h.2.1 hl hv 4 (by decide) (by decide)), ck_t (o10 hl), (k_f_X11_put (lo := 4) (hi := 130) (To_refl hl) (by omega)).1]
  rw [show c_X11_put (gI σ 0 (v4 + (1 : Int32)).toNatClampNeg) (gI σ 0 (v4 + (2 : Int32)).toNatClampNeg) ((((gI σ 0 (v4 + (3 : Int32)).toNatClampNeg).toInt64) <<< ((32 : Int32).toInt64 &&& 63)) ||| (((gI σ 0 (v4 + (4 : Int32)).toNatClampNeg).toInt64) &&& (4294967295 : Int64))) σ = _ from e1, bd_s, ck_t (ok0 k0 lt hv 1 (by decide) (by decide)), ck_t (ok0 k0 lt hv 2 (by decide) (by decide)), ck_t (ok0 k0 lt hv 3 (by decide) (by decide)), ck_t (ok0 k0 lt hv 4 (by decide) (by decide)), ck_t (o11 lt), g0, (k_f_X12_put (lo := 130) (hi := 168) (To_refl lt) (by omega)).1]
  rw [show c_X12_put (gI σ 0 (v4 + (1 : Int32)).toNatClampNeg) (gI σ 0 (v4 + (2 : Int32)).toNatClampNeg) ((((gI σ 0 (v4 + (3 : Int32)).toNatClampNeg).toInt64) <<< ((32 : Int32).toInt64 &&& 63)) ||| (((gI σ 0 (v4 + (4 : Int32)).toNatClampNeg).toInt64) &&& (4294967295 : Int64))) τ' = _ from e2, bd_s, if_pos rfl, nm_t]
theorem w_1597 (h : Lw L c Z σ) (hv : Wv L v4) (hn : 5000 ≤ n) (hc : c ≤ 600) : ∃ σ', Lw L (c + 1) Z σ' ∧ ∀ K, b_L_law_1597 K n 0 4 130 168 v4 σ = K (v4 + 6) σ' := by
  have hl := h.1.1.1
  obtain ⟨k, σ1, v, σ2, e1, e2, e3, e4, lt, g0, k0, hw⟩ := twoX (C := fun s => c_X11_at (gI σ 0 (v4 + (1 : Int32)).toNatClampNeg) (gI σ 0 (v4 + (2 : Int32)).toNatClampNeg) s) (D := fun s => c_X12_at (gI σ 0 (v4 + (1 : Int32)).toNatClampNeg) (gI σ 0 (v4 + (2 : Int32)).toNatClampNeg) s) h (fun τ s hr => s_at _ _ hr) (fun b e => (k_f_X11_at (lo := 4) (hi := 130) (To_refl hl)).2 b e) (fun s b hs e => (k_f_X12_at (lo := 130) (hi := 168) (To_refl hs) (by omega)).2 b e)
  have l2 : Lay σ2 := hw.1.1.1
  have eL : f_L_at 4 (gI σ 0 (v4 + (1 : Int32)).toNatClampNeg) (gI σ 0 (v4 + (2 : Int32)).toNatClampNeg) 168 σ = some (k, σ1) := by
    unfold f_L_at
    rw [ck_t (o10 hl), (k_f_X11_at (lo := 4) (hi := 130) (To_refl hl)).1]
    exact e1
  refine ⟨σ2, hw, fun K => ?_⟩
  unfold b_L_law_1597 b_L_law_1661 b_L_law_1762
  rw [ck_t (ok0 h.2.1 hl hv 1 (by decide) (by decide)), ck_t (ok0 h.2.1 hl hv 2 (by decide) (by decide)), eL, bd_s, ck_t (ok0 k0 lt hv 1 (by decide) (by decide)), ck_t (ok0 k0 lt hv 2 (by decide) (by decide)), ck_t (o11 lt), g0, (k_f_X12_at (lo := 130) (hi := 168) (To_refl lt) (by omega)).1]
  rw [show c_X12_at (gI σ 0 (v4 + (1 : Int32)).toNatClampNeg) (gI σ 0 (v4 + (2 : Int32)).toNatClampNeg) σ1 = _ from e2, bd_s, ck_t (o11 l2), (k_f_X12_thrown (lo := 130) (hi := 168) (To_refl l2)).1]
  unfold c_X12_thrown
  rw [bp_s, if_pos e3, ck_t (ok168 l2), show (0 : Int32).toNatClampNeg = 0 from rfl, nm_t]
  by_cases q : k = 0
  · rw [if_pos q, if_pos (e4 q)]
  · rw [if_neg q]
theorem w_1664 (h : Lw L c Z σ) (hv : Wv L v4) (hn : 5000 ≤ n) (hc : c ≤ 600) : ∃ σ', Lw L (c + 1) Z σ' ∧ ∀ K, b_L_law_1664 K n 0 4 130 168 v4 σ = K (v4 + 6) σ' := by
  have hl := h.1.1.1
  obtain ⟨r, τ', σ', e1, e2, lt, g0, k0, hw⟩ := twoA (C := fun s => c_X11_copy (gI σ 0 (v4 + (1 : Int32)).toNatClampNeg) (gI σ 0 (v4 + (2 : Int32)).toNatClampNeg) (gI σ 0 (v4 + (3 : Int32)).toNatClampNeg) (gI σ 0 (v4 + (4 : Int32)).toNatClampNeg) (gI σ 0 (v4 + (5 : Int32)).toNatClampNeg) s) (D := fun s => c_X12_copy n (gI σ 0 (v4 + (1 : Int32)).toNatClampNeg) (gI σ 0 (v4 + (2 : Int32)).toNatClampNeg) (gI σ 0 (v4 + (3 : Int32)).toNatClampNeg) (gI σ 0 (v4 + (4 : Int32)).toNatClampNeg) (gI σ 0 (v4 + (5 : Int32)).toNatClampNeg) s) h (fun τ s hr => s_copy n (by omega) _ _ _ _ _ hr) (fun b e => (k_f_X11_copy (lo := 4) (hi := 130) (To_refl hl) (by omega)).2 b e) (fun s b hs e => (k_f_X12_copy (lo := 130) (hi := 168) (To_refl hs) (by omega)).2 b e)
  refine ⟨σ', hw, fun K => ?_⟩
  unfold b_L_law_1664 b_L_law_1762
  rw [ck_t (ok0 h.2.1 hl hv 1 (by decide) (by decide)), ck_t (ok0 h.2.1 hl hv 2 (by decide) (by decide)), ck_t (ok0 h.2.1 hl hv 3 (by decide) (by decide)), ck_t (ok0 h.2.1 hl hv 4 (by decide) (by decide)), ck_t (ok0 h.2.1 hl hv 5 (by decide) (by decide)), ck_t (o10 hl), (k_f_X11_copy (lo := 4) (hi := 130) (To_refl hl) (by omega)).1]
  rw [show c_X11_copy (gI σ 0 (v4 + (1 : Int32)).toNatClampNeg) (gI σ 0 (v4 + (2 : Int32)).toNatClampNeg) (gI σ 0 (v4 + (3 : Int32)).toNatClampNeg) (gI σ 0 (v4 + (4 : Int32)).toNatClampNeg) (gI σ 0 (v4 + (5 : Int32)).toNatClampNeg) σ = _ from e1, bd_s, ck_t (ok0 k0 lt hv 1 (by decide) (by decide)), ck_t (ok0 k0 lt hv 2 (by decide) (by decide)), ck_t (ok0 k0 lt hv 3 (by decide) (by decide)), ck_t (ok0 k0 lt hv 4 (by decide) (by decide)), ck_t (ok0 k0 lt hv 5 (by decide) (by decide)), ck_t (o11 lt), g0, (k_f_X12_copy (lo := 130) (hi := 168) (To_refl lt) (by omega)).1]
  rw [show c_X12_copy n (gI σ 0 (v4 + (1 : Int32)).toNatClampNeg) (gI σ 0 (v4 + (2 : Int32)).toNatClampNeg) (gI σ 0 (v4 + (3 : Int32)).toNatClampNeg) (gI σ 0 (v4 + (4 : Int32)).toNatClampNeg) (gI σ 0 (v4 + (5 : Int32)).toNatClampNeg) τ' = _ from e2, bd_s, if_pos rfl, nm_t]
theorem w_1737 (h : Lw L c Z σ) (hv : Wv L v4) (hn : 5000 ≤ n) (hc : c ≤ 600) : ∃ σ', Lw L (c + 1) Z σ' ∧ ∀ K, b_L_law_1737 K n 0 4 130 168 v4 σ = K (v4 + 6) σ' := by
  have hl := h.1.1.1
  obtain ⟨r, e1, e2⟩ := s_count  (gI σ 0 (v4 + (1 : Int32)).toNatClampNeg) h.1
  refine ⟨σ, Lw_up h, fun K => ?_⟩
  unfold b_L_law_1737 b_L_law_1762
  rw [ck_t (ok0 h.2.1 hl hv 1 (by decide) (by decide)), ck_t (o10 hl), (k_f_X11_count (lo := 4) (hi := 130) (To_refl hl)).1, e1, bp_s, ck_t (o11 hl), (k_f_X12_count (lo := 4) (hi := 130) (To_refl hl)).1, e2, bp_s, if_pos rfl, nm_t]
end LAW2
