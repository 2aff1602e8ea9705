/-- as To, but one exception may have been made -/
def ToX (lo hi : Nat) (σ τ : Sg) : Prop := Lay τ ∧ (sN σ ≤ sN τ ∧ sN τ ≤ sN σ + 1 ∧ sZ τ ≤ sZ σ + 6 ∧ sK τ 0 = sK σ 0) ∧ ∀ a, a < 169 → ¬ (lo ≤ a ∧ a < hi) → gI τ a = gI σ a ∧ gJ τ a = gJ σ a ∧ gD τ a = gD σ a
theorem ToX_of {lo hi : Nat} {σ τ : Sg} (t : To lo hi σ τ) : ToX lo hi σ τ := ⟨t.1, ⟨Nat.le_of_eq t.2.1.1.symm, by rw [t.2.1.1]; exact Nat.le_succ _, by rw [t.2.1.2.1]; omega, by rw [t.2.1.2.2.1]⟩, fun a _ h => t.2.2 a h⟩
theorem Lay_nw {σ : Sg} {t n : Nat} (h : Lay σ) : Lay (nw σ t n) := by
  obtain ⟨h1, h2, h3, h4, h5⟩ := h
  have e : ∀ a, a < 169 → a ≠ sN σ := fun a ha => by omega
  have r : ∀ a k, a < 169 → gR (nw σ t n) a k = gR σ a k := fun a k ha => gR_nw_o (by omega)
  refine ⟨by rw [sN_nw]; omega, fun a h4 ha => by rw [sK_nw_o (by omega)]; exact h2 a h4 ha, fun a k h4 ha hk hk2 => by rw [r a k ha]; exact h3 a k h4 ha hk hk2, ?_, fun a h4 ha => by rw [sK_nw_o (by omega)]; exact h5 a h4 ha⟩
  rw [r 69 0 (by decide), r 69 1 (by decide), r 69 2 (by decide), r 69 3 (by decide)]
  exact h4
theorem ToX_nw {lo hi : Nat} {σ τ : Sg} (t : To lo hi σ τ) : ToX lo hi σ (nw τ 19 6) := by
  have h1 := t.1.1
  have x := ToX_of t
  refine ⟨Lay_nw t.1, ⟨?_, ?_, ?_, ?_⟩, fun a ha h => ?_⟩
  · rw [sN_nw, t.2.1.1]; omega
  · rw [sN_nw, t.2.1.1]
    exact Nat.le_refl _
  · rw [sZ_nw, t.2.1.2.1]; exact Nat.le_refl _
  · rw [sK_nw_o (by omega)]; exact x.2.1.2.2.2
  · obtain ⟨a1, a2, a3⟩ := x.2.2 a ha h
    refine ⟨?_, ?_, ?_⟩
    · rw [← a1]; funext j; exact gI_nw_o (by omega)
    · rw [← a2]; funext j; exact gJ_nw_o (by omega)
    · rw [← a3]; funext j; exact gD_nw_o (by omega)
def d_X11_account_10 (σ : Sg) : Option ((Int64 ⊕ String) × Sg) :=
  some (.inr nIA, nw σ 19 6)
theorem k_b_X11_account_10 {lo hi : Nat} {σ0 : Sg} {σ : Sg} (t : To lo hi σ0 σ) : FR (fun q => ToX lo hi σ0 q.2) (b_X11_account_10 σ) (d_X11_account_10 σ) := by
  unfold b_X11_account_10 d_X11_account_10
  exact FR_some (ToX_nw t)
def c_X11_account (v1 : Int32) (σ : Sg) : Option ((Int64 ⊕ String) × Sg) :=
  if v1 < 0 then (
    d_X11_account_10 σ)
  else (
    if v1 < (8 : Int32) then (
      ck (ix v1 8) <|
      some (.inl (gJ σ 17 v1.toNatClampNeg), σ))
    else (
      d_X11_account_10 σ))
theorem k_f_X11_account {lo hi : Nat} {σ0 : Sg} {v1 : Int32} {σ : Sg} (t : To lo hi σ0 σ) : FR (fun q => ToX lo hi σ0 q.2) (f_X11_account 4 v1 σ) (c_X11_account v1 σ) := by
  unfold f_X11_account c_X11_account
  refine FR_it (fun _ => ?_) (fun _ => ?_)
  · exact k_b_X11_account_10 t
  · refine FR_it (fun _ => ?_) (fun _ => ?_)
    · refine FR_ck (lo10 t.1) ?_
      refine FR_ck (ln10_2 t.1) ?_
      refine FR_nmR (w := 16) (lr10_2 t.1) ?_
      refine FR_ck (lo3 t.1 (by decide)) ?_
      refine FR_ck (ln3_0 t.1 (by decide)) ?_
      refine FR_nmR (w := 17) (lr3_0 t.1 (by decide)) ?_
      refine FR_ckI (okA_iff t.1 (by decide : Ar 14 8 17)) (fun q1992 => ?_)
      exact FR_some (ToX_of t)
    · exact k_b_X11_account_10 t
def d_X11_slot_16 (σ : Sg) : Option ((Int64 ⊕ String) × Sg) :=
  some (.inr nIA, nw σ 19 6)
theorem k_b_X11_slot_16 {lo hi : Nat} {σ0 : Sg} {σ : Sg} (t : To lo hi σ0 σ) : FR (fun q => ToX lo hi σ0 q.2) (b_X11_slot_16 σ) (d_X11_slot_16 σ) := by
  unfold b_X11_slot_16 d_X11_slot_16
  exact FR_some (ToX_nw t)
def c_X11_slot (v1 : Int32) (v2 : Int32) (σ : Sg) : Option ((Int64 ⊕ String) × Sg) :=
  bp (f_X11_isSlot v1) fun x25 =>
  if x25 = 0 then (
    d_X11_slot_16 σ)
  else (
    if v2 < 0 then (
      d_X11_slot_16 σ)
    else (
      if v2 ≤ (2 : Int32) then (
        if v2 = (2 : Int32) then (
          ck (ix v1 8) <|
          if (gI σ 31 v1.toNatClampNeg) = 0 then (
            some (.inl (0 : Int64), σ))
          else (
            some (.inl (1 : Int64), σ)))
        else (
          if v2 = 0 then (
            ck (ix v1 8) <|
            some (.inl (gJ σ 29 v1.toNatClampNeg), σ))
          else (
            ck (ix v1 8) <|
            some (.inl (gJ σ 30 v1.toNatClampNeg), σ))))
      else (
        d_X11_slot_16 σ)))
theorem k_f_X11_slot {lo hi : Nat} {σ0 : Sg} {v1 : Int32} {v2 : Int32} {σ : Sg} (t : To lo hi σ0 σ) : FR (fun q => ToX lo hi σ0 q.2) (f_X11_slot 4 v1 v2 σ) (c_X11_slot v1 v2 σ) := by
  unfold f_X11_slot c_X11_slot
  refine FR_nmP (fun x25 => ?_)
  refine FR_it (fun _ => ?_) (fun _ => ?_)
  · exact k_b_X11_slot_16 t
  · refine FR_it (fun _ => ?_) (fun _ => ?_)
    · exact k_b_X11_slot_16 t
    · refine FR_it (fun _ => ?_) (fun _ => ?_)
      · refine FR_it (fun _ => ?_) (fun _ => ?_)
        · refine FR_ck (lo10 t.1) ?_
          refine FR_ck (ln10_5 t.1) ?_
          refine FR_nmR (w := 20) (lr10_5 t.1) ?_
          refine FR_ck (lo4 t.1 (by decide)) ?_
          refine FR_ck (ln4_5 t.1 (by decide)) ?_
          refine FR_nmR (w := 31) (lr4_5 t.1 (by decide)) ?_
          refine FR_ckI (okA_iff t.1 (by decide : Ar 15 8 31)) (fun q1997 => ?_)
          refine FR_it (fun _ => ?_) (fun _ => ?_)
          · exact FR_some (ToX_of t)
          · exact FR_some (ToX_of t)
        · refine FR_it (fun _ => ?_) (fun _ => ?_)
          · refine FR_ck (lo10 t.1) ?_
            refine FR_ck (ln10_5 t.1) ?_
            refine FR_nmR (w := 20) (lr10_5 t.1) ?_
            refine FR_ck (lo4 t.1 (by decide)) ?_
            refine FR_ck (ln4_3 t.1 (by decide)) ?_
            refine FR_nmR (w := 29) (lr4_3 t.1 (by decide)) ?_
            refine FR_ckI (okA_iff t.1 (by decide : Ar 14 8 29)) (fun q2002 => ?_)
            exact FR_some (ToX_of t)
          · refine FR_ck (lo10 t.1) ?_
            refine FR_ck (ln10_5 t.1) ?_
            refine FR_nmR (w := 20) (lr10_5 t.1) ?_
            refine FR_ck (lo4 t.1 (by decide)) ?_
            refine FR_ck (ln4_4 t.1 (by decide)) ?_
            refine FR_nmR (w := 30) (lr4_4 t.1 (by decide)) ?_
            refine FR_ckI (okA_iff t.1 (by decide : Ar 14 8 30)) (fun q2007 => ?_)
            exact FR_some (ToX_of t)
      · exact k_b_X11_slot_16 t
def d_X11_part_10 (σ : Sg) : Option ((Int64 ⊕ String) × Sg) :=
  some (.inr nIA, nw σ 19 6)
theorem k_b_X11_part_10 {lo hi : Nat} {σ0 : Sg} {σ : Sg} (t : To lo hi σ0 σ) : FR (fun q => ToX lo hi σ0 q.2) (b_X11_part_10 σ) (d_X11_part_10 σ) := by
  unfold b_X11_part_10 d_X11_part_10
  exact FR_some (ToX_nw t)
def c_X11_part (v1 : Int32) (σ : Sg) : Option ((Int64 ⊕ String) × Sg) :=
  if v1 < 0 then (
    d_X11_part_10 σ)
  else (
    if v1 < (8 : Int32) then (
      ck (ix v1 8) <|
      some (.inl (gJ σ 26 v1.toNatClampNeg), σ))
    else (
      d_X11_part_10 σ))
theorem k_f_X11_part {lo hi : Nat} {σ0 : Sg} {v1 : Int32} {σ : Sg} (t : To lo hi σ0 σ) : FR (fun q => ToX lo hi σ0 q.2) (f_X11_part 4 v1 σ) (c_X11_part v1 σ) := by
  unfold f_X11_part c_X11_part
  refine FR_it (fun _ => ?_) (fun _ => ?_)
  · exact k_b_X11_part_10 t
  · refine FR_it (fun _ => ?_) (fun _ => ?_)
    · refine FR_ck (lo10 t.1) ?_
      refine FR_ck (ln10_5 t.1) ?_
      refine FR_nmR (w := 20) (lr10_5 t.1) ?_
      refine FR_ck (lo4 t.1 (by decide)) ?_
      refine FR_ck (ln4_2 t.1 (by decide)) ?_
      refine FR_nmR (w := 25) (lr4_2 t.1 (by decide)) ?_
      refine FR_ck (lo6 t.1 (by decide)) ?_
      refine FR_ck (ln6_0 t.1 (by decide)) ?_
      refine FR_nmR (w := 26) (lr6_0 t.1 (by decide)) ?_
      refine FR_ckI (okA_iff t.1 (by decide : Ar 14 8 26)) (fun q2014 => ?_)
      exact FR_some (ToX_of t)
    · exact k_b_X11_part_10 t
def d_X11_got_10 (σ : Sg) : Option ((Int64 ⊕ String) × Sg) :=
  some (.inr nIA, nw σ 19 6)
theorem k_b_X11_got_10 {lo hi : Nat} {σ0 : Sg} {σ : Sg} (t : To lo hi σ0 σ) : FR (fun q => ToX lo hi σ0 q.2) (b_X11_got_10 σ) (d_X11_got_10 σ) := by
  unfold b_X11_got_10 d_X11_got_10
  exact FR_some (ToX_nw t)
def c_X11_got (v1 : Int32) (σ : Sg) : Option ((Int64 ⊕ String) × Sg) :=
  if v1 < 0 then (
    d_X11_got_10 σ)
  else (
    if v1 < (12 : Int32) then (
      ck (ix v1 12) <|
      some (.inl (gJ σ 32 v1.toNatClampNeg), σ))
    else (
      d_X11_got_10 σ))
theorem k_f_X11_got {lo hi : Nat} {σ0 : Sg} {v1 : Int32} {σ : Sg} (t : To lo hi σ0 σ) : FR (fun q => ToX lo hi σ0 q.2) (f_X11_got 4 v1 σ) (c_X11_got v1 σ) := by
  unfold f_X11_got c_X11_got
  refine FR_it (fun _ => ?_) (fun _ => ?_)
  · exact k_b_X11_got_10 t
  · refine FR_it (fun _ => ?_) (fun _ => ?_)
    · refine FR_ck (lo10 t.1) ?_
      refine FR_ck (ln10_5 t.1) ?_
      refine FR_nmR (w := 20) (lr10_5 t.1) ?_
      refine FR_ck (lo4 t.1 (by decide)) ?_
      refine FR_ck (ln4_6 t.1 (by decide)) ?_
      refine FR_nmR (w := 32) (lr4_6 t.1 (by decide)) ?_
      refine FR_ckI (okA_iff t.1 (by decide : Ar 14 12 32)) (fun q2019 => ?_)
      exact FR_some (ToX_of t)
    · exact k_b_X11_got_10 t
def d_X11_carried_17 (σ : Sg) : Option ((Int64 ⊕ String) × Sg) :=
  some (.inr nIA, nw σ 19 6)
theorem k_b_X11_carried_17 {lo hi : Nat} {σ0 : Sg} {σ : Sg} (t : To lo hi σ0 σ) : FR (fun q => ToX lo hi σ0 q.2) (b_X11_carried_17 σ) (d_X11_carried_17 σ) := by
  unfold b_X11_carried_17 d_X11_carried_17
  exact FR_some (ToX_nw t)
def c_X11_carried (v1 : Int32) (v2 : Int32) (σ : Sg) : Option ((Int64 ⊕ String) × Sg) :=
  bp (c_X11_isProgram v1 σ) fun x20 =>
  if x20 = 0 then (
    d_X11_carried_17 σ)
  else (
    if v2 < 0 then (
      d_X11_carried_17 σ)
    else (
      if v2 ≤ (1 : Int32) then (
        if v2 = 0 then (
          ck (ix v1 4) <|
          some (.inl (gJ σ (5 * v1.toNatClampNeg + 74) 5), σ))
        else (
          ck (ix v1 4) <|
          some (.inl (gJ σ (5 * v1.toNatClampNeg + 74) 6), σ)))
      else (
        d_X11_carried_17 σ)))
theorem k_f_X11_carried {lo hi : Nat} {σ0 : Sg} {v1 : Int32} {v2 : Int32} {σ : Sg} (t : To lo hi σ0 σ) : FR (fun q => ToX lo hi σ0 q.2) (f_X11_carried 4 v1 v2 σ) (c_X11_carried v1 v2 σ) := by
  unfold f_X11_carried c_X11_carried
  refine FR_ck (lo10 t.1) ?_
  refine FR_bpP (k_f_X11_isProgram t).1 (fun x20 => ?_)
  refine FR_it (fun _ => ?_) (fun _ => ?_)
  · exact k_b_X11_carried_17 t
  · refine FR_it (fun _ => ?_) (fun _ => ?_)
    · exact k_b_X11_carried_17 t
    · refine FR_it (fun _ => ?_) (fun _ => ?_)
      · refine FR_it (fun _ => ?_) (fun _ => ?_)
        · refine FR_ck (ln10_3 t.1) ?_
          refine FR_nmR (w := 18) (lr10_3 t.1) ?_
          refine FR_ckI (okA_iff t.1 (by decide : Ar 16 4 18)) (fun q2022 => ?_)
          refine FR_ck (lne16 t.1 (ixl q2022)) ?_
          have q2024 := ixl q2022
          refine FR_nmR (w := (5 * v1.toNatClampNeg + 74)) (lre16 t.1 q2024) ?_
          refine FR_ck (lo5 t.1 (e5 q2024)) ?_
          exact FR_some (ToX_of t)
        · refine FR_ck (ln10_3 t.1) ?_
          refine FR_nmR (w := 18) (lr10_3 t.1) ?_
          refine FR_ckI (okA_iff t.1 (by decide : Ar 16 4 18)) (fun q2027 => ?_)
          refine FR_ck (lne16 t.1 (ixl q2027)) ?_
          have q2029 := ixl q2027
          refine FR_nmR (w := (5 * v1.toNatClampNeg + 74)) (lre16 t.1 q2029) ?_
          refine FR_ck (lo5 t.1 (e5 q2029)) ?_
          exact FR_some (ToX_of t)
      · exact k_b_X11_carried_17 t
def d_X11_rounded_24 (σ : Sg) : Option ((Int64 ⊕ String) × Sg) :=
  some (.inr nIA, nw σ 19 6)
theorem k_b_X11_rounded_24 {lo hi : Nat} {σ0 : Sg} {σ : Sg} (t : To lo hi σ0 σ) : FR (fun q => ToX lo hi σ0 q.2) (b_X11_rounded_24 σ) (d_X11_rounded_24 σ) := by
  unfold b_X11_rounded_24 d_X11_rounded_24
  exact FR_some (ToX_nw t)
def d_X11_rounded_58 (σ : Sg) : Option ((Int64 ⊕ String) × Sg) :=
  some (.inr nIA, nw σ 19 6)
theorem k_b_X11_rounded_58 {lo hi : Nat} {σ0 : Sg} {σ : Sg} (t : To lo hi σ0 σ) : FR (fun q => ToX lo hi σ0 q.2) (b_X11_rounded_58 σ) (d_X11_rounded_58 σ) := by
  unfold b_X11_rounded_58 d_X11_rounded_58
  exact FR_some (ToX_nw t)
def c_X11_rounded (v1 : Int64) (v3 : Int32) (v4 : Int32) (v5 : Int32) (σ : Sg) : Option ((Int64 ⊕ String) × Sg) :=
  if v3 < (1 : Int32) then (
    d_X11_rounded_24 σ)
  else (
    if (1000000 : Int32) < v3 then (
      d_X11_rounded_24 σ)
    else (
      if v4 < (1 : Int32) then (
        d_X11_rounded_24 σ)
      else (
        if v4 ≤ (1000000 : Int32) then (
          if (1000000000000 : Int64) < v1 then (
            d_X11_rounded_58 σ)
          else (
            if v1 < (-1000000000000 : Int64) then (
              d_X11_rounded_58 σ)
            else (
              bp (f_X11_isMode v5) fun x12 =>
              if x12 = 0 then (
                d_X11_rounded_58 σ)
              else (
                bp (f_X3_rounding v1 (v3.toInt64) (v4.toInt64) v5) fun x15 =>
                some (.inl x15, σ)))))
        else (
          d_X11_rounded_24 σ))))
theorem k_f_X11_rounded {lo hi : Nat} {σ0 : Sg} {v1 : Int64} {v3 : Int32} {v4 : Int32} {v5 : Int32} {σ : Sg} (t : To lo hi σ0 σ) : FR (fun q => ToX lo hi σ0 q.2) (f_X11_rounded 4 v1 v3 v4 v5 σ) (c_X11_rounded v1 v3 v4 v5 σ) := by
  unfold f_X11_rounded c_X11_rounded
  refine FR_it (fun _ => ?_) (fun _ => ?_)
  · exact k_b_X11_rounded_24 t
  · refine FR_it (fun _ => ?_) (fun _ => ?_)
    · exact k_b_X11_rounded_24 t
    · refine FR_it (fun _ => ?_) (fun _ => ?_)
      · exact k_b_X11_rounded_24 t
      · refine FR_it (fun _ => ?_) (fun _ => ?_)
        · refine FR_it (fun _ => ?_) (fun _ => ?_)
          · exact k_b_X11_rounded_58 t
          · refine FR_it (fun _ => ?_) (fun _ => ?_)
            · exact k_b_X11_rounded_58 t
            · refine FR_nmP (fun x12 => ?_)
              refine FR_it (fun _ => ?_) (fun _ => ?_)
              · exact k_b_X11_rounded_58 t
              · refine FR_nmP (fun x15 => ?_)
                exact FR_some (ToX_of t)
        · exact k_b_X11_rounded_24 t
def d_X11_at_44 (σ : Sg) : Option ((Int64 ⊕ String) × Sg) :=
  some (.inr nIS, nw σ 19 6)
theorem k_b_X11_at_44 {lo hi : Nat} {σ0 : Sg} {σ : Sg} (t : To lo hi σ0 σ) : FR (fun q => ToX lo hi σ0 q.2) (b_X11_at_44 σ) (d_X11_at_44 σ) := by
  unfold b_X11_at_44 d_X11_at_44
  exact FR_some (ToX_nw t)
def c_X11_at (v1 : Int32) (v2 : Int32) (σ : Sg) : Option ((Int64 ⊕ String) × Sg) :=
  bp (f_X11_isTape v1) fun x32 =>
  if x32 = 0 then (
    some (.inr nIA, nw σ 19 6))
  else (
    ck (ix v1 6) <|
    bp (c_X9_isRow (6 * v1.toNatClampNeg + 94) σ) fun x42 =>
    if x42 = 0 then (
      d_X11_at_44 σ)
    else (
      ck (ix v1 6) <|
      bp (c_X9_hasPlaces (6 * v1.toNatClampNeg + 94) v2 (1 : Int32) σ) fun x50 =>
      if x50 = 0 then (
        d_X11_at_44 σ)
      else (
        ck (ix v1 6) <|
        ck (ix v2 64) <|
        some (.inl (gJ σ (6 * v1.toNatClampNeg + 95) v2.toNatClampNeg), σ))))
theorem k_f_X11_at {lo hi : Nat} {σ0 : Sg} {v1 : Int32} {v2 : Int32} {σ : Sg} (t : To lo hi σ0 σ) : FR (fun q => ToX lo hi σ0 q.2) (f_X11_at 4 v1 v2 σ) (c_X11_at v1 v2 σ) := by
  unfold f_X11_at c_X11_at
  refine FR_nmP (fun x32 => ?_)
  refine FR_it (fun _ => ?_) (fun _ => ?_)
  · exact FR_some (ToX_nw t)
  · refine FR_ck (lo10 t.1) ?_
    refine FR_ck (ln10_4 t.1) ?_
    refine FR_nmR (w := 19) (lr10_4 t.1) ?_
    refine FR_ckI (okA_iff t.1 (by decide : Ar 17 6 19)) (fun q2033 => ?_)
    refine FR_ck (lne17 t.1 (ixl q2033)) ?_
    have q2035 := ixl q2033
    refine FR_nmR (w := (6 * v1.toNatClampNeg + 94)) (lre17 t.1 q2035) ?_
    refine FR_ck (lo8 t.1 (e8 q2035)) ?_
    refine FR_bpP (k_f_X9_isRow t (e8 q2035)).1 (fun x42 => ?_)
    refine FR_it (fun _ => ?_) (fun _ => ?_)
    · exact k_b_X11_at_44 t
    · refine FR_nmR (w := 19) (lr10_4 t.1) ?_
      refine FR_ckI (okA_iff t.1 (by decide : Ar 17 6 19)) (fun q2037 => ?_)
      refine FR_ck (lne17 t.1 (ixl q2037)) ?_
      have q2039 := ixl q2037
      refine FR_nmR (w := (6 * v1.toNatClampNeg + 94)) (lre17 t.1 q2039) ?_
      refine FR_ck (lo8 t.1 (e8 q2039)) ?_
      refine FR_bpP (k_f_X9_hasPlaces t (e8 q2039)).1 (fun x50 => ?_)
      refine FR_it (fun _ => ?_) (fun _ => ?_)
      · exact k_b_X11_at_44 t
      · refine FR_nmR (w := 19) (lr10_4 t.1) ?_
        refine FR_ckI (okA_iff t.1 (by decide : Ar 17 6 19)) (fun q2041 => ?_)
        refine FR_ck (lne17 t.1 (ixl q2041)) ?_
        have q2043 := ixl q2041
        refine FR_nmR (w := (6 * v1.toNatClampNeg + 94)) (lre17 t.1 q2043) ?_
        refine FR_ck (lo8 t.1 (e8 q2043)) ?_
        refine FR_ck (ln8_1 t.1 (e8 q2043)) ?_
        refine FR_nmR (w := (6 * v1.toNatClampNeg + 95)) (lr8_1 t.1 (e8 q2043)) ?_
        refine FR_ckI (okA_iff t.1 (ar8_1 (e8 q2043))) (fun q2046 => ?_)
        exact FR_some (ToX_of t)
