theorem aL_sg0 (L : Nat) (xs : Nat → Int32) : aL (sg0 L xs) (sg0 0 (fun _ => 0)) (sg0 L xs) := by
  refine ⟨rfl, rfl, fun a ha => ?_, fun a k ha => ⟨?_, rfl, rfl, rfl⟩, Nat.le_refl _, fun a ha => ⟨?_, ?_⟩, fun a ha => ⟨rfl, fun k => rfl⟩⟩
  · have h : a ≠ 0 := by omega
    show (if a = 0 then (13, 0) else (13, 13)) = (if a = 0 then (13, L) else (13, 13))
    rw [if_neg h, if_neg h]
  · have h : a ≠ 0 := by omega
    show (if a = 0 then (0 : Int32) else _) = (if a = 0 then xs k else _)
    rw [if_neg h, if_neg h]
  · show (if a = 0 then (13, 0) else (13, 13)).1 = 13
    by_cases h : a = 0
    · rw [if_pos h]
    · rw [if_neg h]
  · show (if a = 0 then (13, L) else (13, 13)).1 = 13
    by_cases h : a = 0
    · rw [if_pos h]
    · rw [if_neg h]
/-- the law's start: both constructors, for every script, from the one closed run -/
def st0 (n : Nat) (σ : Sg) : Option Sg :=
  nm (sN σ) fun r1 =>
  nm (nw σ 10 10) fun σ1 =>
  bp (f_X11_init n r1 σ1) fun σ2 =>
  nm (sN σ2) fun r2 =>
  nm (nw σ2 11 52) fun σ3 =>
  bp (f_X12_init n r2 σ3) fun σ4 =>
  nm (nw σ4 14 1) fun σ5 =>
  some σ5
theorem aL_st0 {n : Nat} {T σ τ : Sg} (hL : aL T σ τ) : aO T (st0 n σ) (st0 n τ) := by
  unfold st0
  refine aO_nm' hL.1 (fun r1 => ?_)
  refine aO_nmS (aL_nw hL) (fun _ _ hL => ?_)
  refine aO_bp (a_f_X11_init hL) (fun _ _ hL => ?_)
  refine aO_nm' hL.1 (fun r2 => ?_)
  refine aO_nmS (aL_nw hL) (fun _ _ hL => ?_)
  refine aO_bp (a_f_X12_init hL) (fun _ _ hL => ?_)
  refine aO_nmS (aL_nw hL) (fun _ _ hL => ?_)
  exact hL
theorem st0_ok : ((st0 6000 (sg0 0 (fun _ => 0))).map (fun σ => (sN σ, sZ σ))) = some (169, 3952) := by decide +kernel
