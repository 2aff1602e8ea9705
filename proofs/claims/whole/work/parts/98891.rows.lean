section STARTR
theorem ck_r0 : (st0 6000 (sg0 0 (fun _ => 0))).map (fun σ => allB (fun i => ckRow σ (4 + i)) 8) = some true := by decide +kernel
theorem ck_r1 : (st0 6000 (sg0 0 (fun _ => 0))).map (fun σ => allB (fun i => ckRow σ (12 + i)) 8) = some true := by decide +kernel
theorem ck_r2 : (st0 6000 (sg0 0 (fun _ => 0))).map (fun σ => allB (fun i => ckRow σ (20 + i)) 8) = some true := by decide +kernel
theorem ck_r3 : (st0 6000 (sg0 0 (fun _ => 0))).map (fun σ => allB (fun i => ckRow σ (28 + i)) 8) = some true := by decide +kernel
theorem ck_r4 : (st0 6000 (sg0 0 (fun _ => 0))).map (fun σ => allB (fun i => ckRow σ (36 + i)) 8) = some true := by decide +kernel
theorem ck_r5 : (st0 6000 (sg0 0 (fun _ => 0))).map (fun σ => allB (fun i => ckRow σ (44 + i)) 8) = some true := by decide +kernel
theorem ck_r6 : (st0 6000 (sg0 0 (fun _ => 0))).map (fun σ => allB (fun i => ckRow σ (52 + i)) 8) = some true := by decide +kernel
theorem ck_r7 : (st0 6000 (sg0 0 (fun _ => 0))).map (fun σ => allB (fun i => ckRow σ (60 + i)) 9) = some true := by decide +kernel
theorem ck_r8 : (st0 6000 (sg0 0 (fun _ => 0))).map (fun σ => allB (fun i => ckRow σ (70 + i)) 12) = some true := by decide +kernel
theorem ck_r9 : (st0 6000 (sg0 0 (fun _ => 0))).map (fun σ => allB (fun i => ckRow σ (82 + i)) 12) = some true := by decide +kernel
theorem ck_r10 : (st0 6000 (sg0 0 (fun _ => 0))).map (fun σ => allB (fun i => ckRow σ (94 + i)) 12) = some true := by decide +kernel
theorem ck_r11 : (st0 6000 (sg0 0 (fun _ => 0))).map (fun σ => allB (fun i => ckRow σ (106 + i)) 12) = some true := by decide +kernel
theorem ck_r12 : (st0 6000 (sg0 0 (fun _ => 0))).map (fun σ => allB (fun i => ckRow σ (118 + i)) 12) = some true := by decide +kernel
theorem ck_r13 : (st0 6000 (sg0 0 (fun _ => 0))).map (fun σ => allB (fun i => ckRow σ (130 + i)) 12) = some true := by decide +kernel
theorem ck_r14 : (st0 6000 (sg0 0 (fun _ => 0))).map (fun σ => allB (fun i => ckRow σ (142 + i)) 12) = some true := by decide +kernel
theorem ck_r15 : (st0 6000 (sg0 0 (fun _ => 0))).map (fun σ => allB (fun i => ckRow σ (154 + i)) 12) = some true := by decide +kernel
theorem ck_r16 : (st0 6000 (sg0 0 (fun _ => 0))).map (fun σ => allB (fun i => ckRow σ (166 + i)) 3) = some true := by decide +kernel
theorem st_get {f : Sg → Bool} {σ0 : Sg} (e : (st0 6000 (sg0 0 (fun _ => 0))) = some σ0) (h : (st0 6000 (sg0 0 (fun _ => 0))).map f = some true) : f σ0 = true := by
  rw [e] at h
  injection h
theorem row_v {σ0 : Sg} {a k : Nat} (h : ckRow σ0 a = true) (hk : k < 64) : gR σ0 a k = rt a k := Nat.eq_of_beq_eq_true (allB_v h k hk)
theorem rows_v {σ0 : Sg} (e : (st0 6000 (sg0 0 (fun _ => 0))) = some σ0) (a k : Nat) (h4 : 4 ≤ a) (h5 : a < 169) (h6 : a ≠ 69) (hk : k < 64) : gR σ0 a k = rt a k := by
  by_cases q0 : 4 ≤ a ∧ a < 12
  · have := allB_v (st_get e ck_r0) (a - 4) (by omega)
    rw [show 4 + (a - 4) = a by omega] at this
    exact row_v this hk
  by_cases q1 : 12 ≤ a ∧ a < 20
  · have := allB_v (st_get e ck_r1) (a - 12) (by omega)
    rw [show 12 + (a - 12) = a by omega] at this
    exact row_v this hk
  by_cases q2 : 20 ≤ a ∧ a < 28
  · have := allB_v (st_get e ck_r2) (a - 20) (by omega)
    rw [show 20 + (a - 20) = a by omega] at this
    exact row_v this hk
  by_cases q3 : 28 ≤ a ∧ a < 36
  · have := allB_v (st_get e ck_r3) (a - 28) (by omega)
    rw [show 28 + (a - 28) = a by omega] at this
    exact row_v this hk
  by_cases q4 : 36 ≤ a ∧ a < 44
  · have := allB_v (st_get e ck_r4) (a - 36) (by omega)
    rw [show 36 + (a - 36) = a by omega] at this
    exact row_v this hk
  by_cases q5 : 44 ≤ a ∧ a < 52
  · have := allB_v (st_get e ck_r5) (a - 44) (by omega)
    rw [show 44 + (a - 44) = a by omega] at this
    exact row_v this hk
  by_cases q6 : 52 ≤ a ∧ a < 60
  · have := allB_v (st_get e ck_r6) (a - 52) (by omega)
    rw [show 52 + (a - 52) = a by omega] at this
    exact row_v this hk
  by_cases q7 : 60 ≤ a ∧ a < 69
  · have := allB_v (st_get e ck_r7) (a - 60) (by omega)
    rw [show 60 + (a - 60) = a by omega] at this
    exact row_v this hk
  by_cases q8 : 70 ≤ a ∧ a < 82
  · have := allB_v (st_get e ck_r8) (a - 70) (by omega)
    rw [show 70 + (a - 70) = a by omega] at this
    exact row_v this hk
  by_cases q9 : 82 ≤ a ∧ a < 94
  · have := allB_v (st_get e ck_r9) (a - 82) (by omega)
    rw [show 82 + (a - 82) = a by omega] at this
    exact row_v this hk
  by_cases q10 : 94 ≤ a ∧ a < 106
  · have := allB_v (st_get e ck_r10) (a - 94) (by omega)
    rw [show 94 + (a - 94) = a by omega] at this
    exact row_v this hk
  by_cases q11 : 106 ≤ a ∧ a < 118
  · have := allB_v (st_get e ck_r11) (a - 106) (by omega)
    rw [show 106 + (a - 106) = a by omega] at this
    exact row_v this hk
  by_cases q12 : 118 ≤ a ∧ a < 130
  · have := allB_v (st_get e ck_r12) (a - 118) (by omega)
    rw [show 118 + (a - 118) = a by omega] at this
    exact row_v this hk
  by_cases q13 : 130 ≤ a ∧ a < 142
  · have := allB_v (st_get e ck_r13) (a - 130) (by omega)
    rw [show 130 + (a - 130) = a by omega] at this
    exact row_v this hk
  by_cases q14 : 142 ≤ a ∧ a < 154
  · have := allB_v (st_get e ck_r14) (a - 142) (by omega)
    rw [show 142 + (a - 142) = a by omega] at this
    exact row_v this hk
  by_cases q15 : 154 ≤ a ∧ a < 166
  · have := allB_v (st_get e ck_r15) (a - 154) (by omega)
    rw [show 154 + (a - 154) = a by omega] at this
    exact row_v this hk
  by_cases q16 : 166 ≤ a ∧ a < 169
  · have := allB_v (st_get e ck_r16) (a - 166) (by omega)
    rw [show 166 + (a - 166) = a by omega] at this
    exact row_v this hk
  omega
end STARTR
