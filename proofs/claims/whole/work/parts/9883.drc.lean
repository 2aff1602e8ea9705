section DRC
variable {τ σ : Sg} {N q p M B Jn O : Nat} {m sg : Int} {g : Nat → Int32}
theorem U32 : (-1000000 : Int32).toInt = -1000000 := rfl
theorem mI_idt {a lo hi : Nat} {f : Nat → Int32} (h : ∀ j, lo ≤ j → j < hi → gI σ a j = f j) : mI σ a lo hi f = σ := by
  have e : (fun b j => if b = a ∧ lo ≤ j ∧ j < hi then f j else σ.2.1 b j) = σ.2.1 := by
    funext b j
    by_cases q : b = a ∧ lo ≤ j ∧ j < hi
    · rw [if_pos q, ← h j q.2.1 q.2.2, q.1]; rfl
    · rw [if_neg q]
  unfold mI
  rw [e]
/-- rows of the drift's sums -/
def BJ (τ : Sg) (B Jn : Nat) : Prop := Lay τ ∧ gR τ 69 2 = B ∧ gR τ 69 3 = Jn ∧ ((B = 72 ∧ Jn = 73) ∨ (B = 73 ∧ Jn = 72))
theorem Lay_mI {a lo hi : Nat} (h : Lay τ) : Lay (mI τ a lo hi g) := h
theorem ar_d {a : Nat} (h : 70 ≤ a ∧ a ≤ 73) : Ar 13 200 a := by
  obtain ⟨h1, h2⟩ := h
  have : a = 70 ∨ a = 71 ∨ a = 72 ∨ a = 73 := by omega
  rcases this with e | e | e | e <;> subst e <;> decide
theorem nxt_mod {x : Nat} (hN : 0 < N) : (x + 1) % N = if N ≤ x % N + 1 then 0 else x % N + 1 := by
  have l := Nat.mod_lt x hN
  rw [← Nat.mod_add_mod]
  by_cases q : N ≤ x % N + 1
  · rw [if_pos q, show x % N + 1 = N by omega, Nat.mod_self]
  · rw [if_neg q, Nat.mod_eq_of_lt (by omega)]
theorem cj5 {a : Int32} (hB : BJ τ B Jn) (hN : (gI τ 69 4).toInt = N) (hN2 : N ≤ 200) (hO : O = B ∨ O = 71) (ha0 : 0 ≤ a.toInt) (ha1 : a.toInt < N) (hF : (gI τ B a.toNatClampNeg).toInt ≠ (-1000000 : Int)) (hF2 : -5000 ≤ (gI τ B a.toNatClampNeg).toInt ∧ (gI τ B a.toNatClampNeg).toInt ≤ 5000) (hH : ∀ c, c < N → (gI τ O c).toInt ≠ (-1000000 : Int) → -5000 ≤ (gI τ O c).toInt ∧ (gI τ O c).toInt ≤ 5000) :
    ∀ (d n : Nat) (r b : Int32) (g : Nat → Int32), Jp N (-1000000 : Int) (fun c => (gI τ B c).toInt) (fun c => (gI τ O c).toInt) (fun c => (g c).toInt) a.toNatClampNeg b.toNatClampNeg → r.toInt = (((a.toNatClampNeg + b.toNatClampNeg) % N : Nat) : Int) → 0 ≤ b.toInt → b.toInt + d = N → d < n →
    ∃ g', b_X1_joinFrom_5 n 69 a O r b (mI τ Jn 0 N g) = some (mI τ Jn 0 N g') ∧ Jp N (-1000000 : Int) (fun c => (gI τ B c).toInt) (fun c => (gI τ O c).toInt) (fun c => (g' c).toInt) (a.toNatClampNeg + 1) 0 := by
  obtain ⟨hL, h2, h3, h4⟩ := hB
  have na := nat0 ha0
  intro d
  induction d with
  | zero =>
    intro n r b g hJ hr hb0 hb1 hn
    obtain ⟨n, rfl⟩ : ∃ k, n = k + 1 := ⟨n - 1, by omega⟩
    have nb := nat0 hb0
    refine ⟨g, ?_, Jp_row hJ (by omega)⟩
    rw [b_X1_joinFrom_5, ck_t (lo1 (Lay_mI hL)), gI_mI_a (by omega), if_pos (by rw [i32_le]; omega)]
  | succ d ih =>
    intro n r b g hJ hr hb0 hb1 hn
    obtain ⟨n, rfl⟩ : ∃ k, n = k + 1 := ⟨n - 1, by omega⟩
    obtain ⟨c1, c2, c3⟩ := cnt1 (v := b) (m := 300) hb0 (by omega) (by decide)
    have hb : ix b 200 := ix_of hb0 (by omega)
    have ha : ix a 200 := ix_of ha0 (by omega)
    have l := Nat.mod_lt (a.toNatClampNeg + b.toNatClampNeg) (show 0 < N by omega)
    have hrx : ix r 200 := ix_of (by omega) (by omega)
    have nr : r.toNatClampNeg = (a.toNatClampNeg + b.toNatClampNeg) % N := by rw [i32_nat, hr]; omega
    have r1 : (r + 1).toInt = r.toInt + 1 := by rw [i32_add (by rw [show (1 : Int32).toInt = 1 from rfl]; omega) (by rw [show (1 : Int32).toInt = 1 from rfl]; omega)]; rfl
    have nx := nxt_mod (N := N) (x := a.toNatClampNeg + b.toNatClampNeg) (by omega)
    -- the step on
    have on : ∀ (g1 : Nat → Int32), Jp N (-1000000 : Int) (fun c => (gI τ B c).toInt) (fun c => (gI τ O c).toInt) (fun c => (g1 c).toInt) a.toNatClampNeg (b.toNatClampNeg + 1) →
        ∃ g', b_X1_joinFrom_60 (fun c3 c4 τ => b_X1_joinFrom_5 n 69 a O c3 c4 τ) n 69 a O r b (mI τ Jn 0 N g1) = some (mI τ Jn 0 N g') ∧ Jp N (-1000000 : Int) (fun c => (gI τ B c).toInt) (fun c => (gI τ O c).toInt) (fun c => (g' c).toInt) (a.toNatClampNeg + 1) 0 := by
      intro g1 hJ1
      unfold b_X1_joinFrom_60 b_X1_joinFrom_77
      simp only [nm_t]
      rw [ck_t (lo1 (Lay_mI hL)), gI_mI_a (by omega)]
      by_cases q : N ≤ (a.toNatClampNeg + b.toNatClampNeg) % N + 1
      · rw [if_pos (by rw [i32_le, r1]; omega)]
        exact ih n 0 (b + 1) g1 (by rw [c2]; exact hJ1) (by rw [c2, ← Nat.add_assoc, nx, if_pos q]; rfl) (by omega) (by omega) (by omega)
      · rw [if_neg (by rw [i32_le, r1]; omega)]
        exact ih n (r + 1) (b + 1) g1 (by rw [c2]; exact hJ1) (by rw [c2, ← Nat.add_assoc, nx, if_neg q, r1]; omega) (by omega) (by omega) (by omega)
    have eB : ∀ c, gI (mI τ Jn 0 N g) B c = gI τ B c := fun c => gI_mI_a (by omega)
    have eO : ∀ c, gI (mI τ Jn 0 N g) O c = gI τ O c := fun c => gI_mI_a (by omega)
    have eR : gR (mI τ Jn 0 N g) 69 = gR τ 69 := rfl
    rw [b_X1_joinFrom_5, ck_t (lo1 (Lay_mI hL)), gI_mI_a (by omega), if_neg (by rw [i32_le]; omega), ck_t ((okA_iff (Lay_mI hL) (ar_d (by omega))).mpr hb), eO]
    by_cases q1 : (gI τ O b.toNatClampNeg).toInt = (-1000000 : Int)
    · rw [if_pos (by rw [i32_eq, U32]; exact q1)]
      exact on g (Jp_skip hJ q1)
    · have hb2 := hH _ (by omega) q1
      have t1 : (gI τ B a.toNatClampNeg + gI τ O b.toNatClampNeg).toInt = (gI τ B a.toNatClampNeg).toInt + (gI τ O b.toNatClampNeg).toInt := i32_add (by omega) (by omega)
      rw [if_neg (by rw [i32_eq, U32]; exact q1)]
      simp only [nm_t, eR, h2, h3]
      rw [ck_t (show ¬ B = 0 by omega), ck_t ((okA_iff (Lay_mI hL) (ar_d (by omega))).mpr ha), ck_t (show ¬ Jn = 0 by omega), ck_t ((okA_iff (Lay_mI hL) (ar_d (by omega))).mpr hrx), eB, ck_t ((okA_iff (Lay_mI hL) (ar_d (by omega))).mpr ha), ck_t ((okW_iff (Lay_mI hL) (ar_d (by omega))).mpr hrx), nr, gI_mI_i ⟨by omega, l⟩]
      by_cases q2 : (gI τ B a.toNatClampNeg).toInt + (gI τ O b.toNatClampNeg).toInt ≤ (g ((a.toNatClampNeg + b.toNatClampNeg) % N)).toInt
      · rw [if_pos (by rw [i32_le, t1]; exact q2)]
        exact on g (Jp_keep hJ (by omega) q2)
      · rw [if_neg (by rw [i32_le, t1]; exact q2), mI_uI ⟨by omega, l⟩]
        have hJ2 := Jp_put hJ (by omega) (by omega) hF q1 (by omega) q2
        refine on _ (Jp_cong hJ2 (by omega) (fun c hc => ?_))
        by_cases q3 : c = (a.toNatClampNeg + b.toNatClampNeg) % N
        · rw [q3, uI_s, t1]; unfold updZ; rw [if_pos rfl]
        · rw [uI_o q3]; unfold updZ; rw [if_neg q3]
theorem cj26 (hB : BJ τ B Jn) (hN : (gI τ 69 4).toInt = N) (hN2 : N ≤ 200) (hO : O = B ∨ O = 71) (hF : ∀ c, c < N → (gI τ B c).toInt ≠ (-1000000 : Int) → -5000 ≤ (gI τ B c).toInt ∧ (gI τ B c).toInt ≤ 5000) (hH : ∀ c, c < N → (gI τ O c).toInt ≠ (-1000000 : Int) → -5000 ≤ (gI τ O c).toInt ∧ (gI τ O c).toInt ≤ 5000) :
    ∀ (d n : Nat) (a : Int32) (g : Nat → Int32), Jp N (-1000000 : Int) (fun c => (gI τ B c).toInt) (fun c => (gI τ O c).toInt) (fun c => (g c).toInt) a.toNatClampNeg 0 → 0 ≤ a.toInt → a.toInt + d = N → d + 210 < n →
    ∃ w g', b_X1_joinWith_26 n 69 O a (mI τ Jn 0 N g) = b_X1_joinWith_57 w 69 (mI τ Jn 0 N g') ∧ Jp N (-1000000 : Int) (fun c => (gI τ B c).toInt) (fun c => (gI τ O c).toInt) (fun c => (g' c).toInt) N 0 := by
  have hB' := hB
  obtain ⟨hL, h2, h3, h4⟩ := hB'
  have z0 : (0 : Int32).toNatClampNeg = 0 := rfl
  intro d
  induction d with
  | zero =>
    intro n a g hJ ha0 ha1 hn
    obtain ⟨n, rfl⟩ : ∃ k, n = k + 1 := ⟨n - 1, by omega⟩
    have na := nat0 ha0
    refine ⟨n, g, ?_, ?_⟩
    · rw [b_X1_joinWith_26, ck_t (lo1 (Lay_mI hL)), gI_mI_a (by omega), if_pos (by rw [i32_le]; omega)]
    · rw [show a.toNatClampNeg = N by omega] at hJ; exact hJ
  | succ d ih =>
    intro n a g hJ ha0 ha1 hn
    obtain ⟨n, rfl⟩ : ∃ k, n = k + 1 := ⟨n - 1, by omega⟩
    obtain ⟨c1, c2, c3⟩ := cnt1 (v := a) (m := 300) ha0 (by omega) (by decide)
    have ha : ix a 200 := ix_of ha0 (by omega)
    have eB : ∀ c, gI (mI τ Jn 0 N g) B c = gI τ B c := fun c => gI_mI_a (by omega)
    have eR : gR (mI τ Jn 0 N g) 69 = gR τ 69 := rfl
    rw [b_X1_joinWith_26, ck_t (lo1 (Lay_mI hL)), gI_mI_a (by omega), if_neg (by rw [i32_le]; omega)]
    unfold b_X1_joinWith_51
    simp only [nm_t, eR, h2]
    rw [ck_t (show ¬ B = 0 by omega), ck_t ((okA_iff (Lay_mI hL) (ar_d (by omega))).mpr ha), eB]
    by_cases q1 : (gI τ B a.toNatClampNeg).toInt = (-1000000 : Int)
    · rw [if_pos (by rw [i32_eq, U32]; exact q1)]
      exact ih n (a + 1) g (by rw [c2]; exact Jp_none hJ q1) (by omega) (by omega) (by omega)
    · rw [if_neg (by rw [i32_eq, U32]; exact q1)]
      obtain ⟨g1, e1, e2⟩ := cj5 hB hN hN2 hO ha0 (by omega) q1 (hF _ (by omega) q1) hH N n a 0 g (by rw [z0]; exact hJ) (by rw [z0, Nat.add_zero, Nat.mod_eq_of_lt (by omega)]; exact c3.symm) (by decide) (by simp only [Int32.reduceToInt]; omega) (by omega)
      unfold f_X1_joinFrom
      rw [e1, bp_s]
      exact ih n (a + 1) g1 (by rw [c2]; exact e2) (by omega) (by omega) (by omega)
theorem cj2 (hB : BJ τ B Jn) (hN : (gI τ 69 4).toInt = N) (hN2 : N ≤ 200) :
    ∀ (d n : Nat) (k : Int32) (g : Nat → Int32), (∀ j, j < k.toNatClampNeg → (g j).toInt = (-1000000 : Int)) → 0 ≤ k.toInt → k.toInt + d = N → d < n →
    ∃ w g', n ≤ w + d + 1 ∧ b_X1_joinWith_2 n 69 O k (mI τ Jn 0 N g) = b_X1_joinWith_24 w 69 O (mI τ Jn 0 N g') ∧ ∀ j, j < N → (g' j).toInt = (-1000000 : Int) := by
  obtain ⟨hL, h2, h3, h4⟩ := hB
  intro d
  induction d with
  | zero =>
    intro n k g hg hk0 hk1 hn
    obtain ⟨n, rfl⟩ : ∃ k, n = k + 1 := ⟨n - 1, by omega⟩
    have nk := nat0 hk0
    refine ⟨n, g, by omega, ?_, fun j hj => hg j (by omega)⟩
    rw [b_X1_joinWith_2, ck_t (lo1 (Lay_mI hL)), gI_mI_a (by omega), if_pos (by rw [i32_le]; omega)]
  | succ d ih =>
    intro n k g hg hk0 hk1 hn
    obtain ⟨n, rfl⟩ : ∃ k, n = k + 1 := ⟨n - 1, by omega⟩
    obtain ⟨c1, c2, c3⟩ := cnt1 (v := k) (m := 300) hk0 (by omega) (by decide)
    have hk : ix k 200 := ix_of hk0 (by omega)
    have eR : gR (mI τ Jn 0 N g) 69 = gR τ 69 := rfl
    obtain ⟨w, g', w1, w2, w3⟩ := ih n (k + 1) (uI g k.toNatClampNeg (-1000000)) (fun j hj => by
      by_cases q : j = k.toNatClampNeg
      · rw [q, uI_s]; rfl
      · rw [uI_o q]; exact hg j (by omega)) (by omega) (by omega) (by omega)
    refine ⟨w, g', by omega, ?_, w3⟩
    rw [b_X1_joinWith_2, ck_t (lo1 (Lay_mI hL)), gI_mI_a (by omega), if_neg (by rw [i32_le]; omega)]
    simp only [nm_t, eR, h3]
    rw [ck_t (show ¬ Jn = 0 by omega), ck_t ((okW_iff (Lay_mI hL) (ar_d (by omega))).mpr hk), mI_uI ⟨by omega, by omega⟩, w2]
/-- what the drift's object holds behind measure -/
def Cd (q p M N : Nat) (m sg : Int) (τ : Sg) (B Jn : Nat) : Prop := BJ τ B Jn ∧ (gI τ 69 4).toInt = N ∧ (gI τ 69 5).toInt = q ∧ (∀ c, c < N → (gI τ 70 c).toInt = sg * SlQ q m (c * p)) ∧ (∀ c, c < N → (gI τ 71 c).toInt = if c ≤ M then sg * SlQ q m (c * p) else (-1000000 : Int))
def Fdr (τ τ' : Sg) : Prop := (∀ a, ¬ (69 ≤ a ∧ a ≤ 73) → Sm τ τ' a) ∧ τ'.1 = τ.1 ∧ sZ τ' = sZ τ ∧ Lay τ'
theorem Fdr_tr {τ1 τ2 : Sg} (h : Fdr τ τ1) (h' : Fdr τ1 τ2) : Fdr τ τ2 := ⟨fun a ha => Sm_tr (h.1 a ha) (h'.1 a ha), h'.2.1.trans h.2.1, h'.2.2.1.trans h.2.2.1, h'.2.2.2⟩
theorem Lay_swap (h : BJ τ B Jn) : Lay (pR (pR τ 69 2 Jn) 69 3 B) := by
  obtain ⟨⟨l1, l2, l3, ⟨l4, l5, l6⟩, l7⟩, h2, h3, h4⟩ := h
  refine ⟨l1, l2, fun a k ha1 ha2 ha3 hk => ?_, ⟨?_, ?_, ?_⟩, l7⟩
  · rw [gR_pR_a ha3, gR_pR_a ha3]; exact l3 a k ha1 ha2 ha3 hk
  · rw [gR_pR_k (by decide), gR_pR_k (by decide)]; exact l4
  · rw [gR_pR_k (by decide), gR_pR_k (by decide)]; exact l5
  · rw [gR_pR_k (by decide), gR_pR_s, gR_pR_s]; omega
theorem join_v {n n1 n2 : Nat} (hn : 1000 ≤ n) (h : Cd q p M N m sg τ B Jn) (hp : Per q m N) (hq2 : q ≤ 100) (hs : sg = 1 ∨ sg = -1) (hn1 : n1 ≤ 24) (hn2 : n2 ≤ 24) (hO : O = B ∨ O = 71) (t1 : Tb q p M m sg (fun s => s % N) N n1 (-1000000 : Int) (fun c => (gI τ B c).toInt)) (t2 : Tb q p M m sg (fun s => s % N) N n2 (-1000000 : Int) (fun c => (gI τ O c).toInt)) :
    ∃ τ', f_X1_joinWith n 69 O τ = some τ' ∧ Cd q p M N m sg τ' Jn B ∧ Tb q p M m sg (fun s => s % N) N (n1 + n2) (-1000000 : Int) (fun c => (gI τ' Jn c).toInt) ∧ Fdr τ τ' := by
  obtain ⟨hB, h1, h2, h3, h4⟩ := h
  have hB' := hB
  obtain ⟨hL, b2, b3, b4⟩ := hB'
  have hq : 0 < q := hp.1
  have hN2 : N ≤ 200 := by have := hp.2; omega
  have hN0 : 0 < N := by have := hp.2; omega
  have z0 : (0 : Int32).toNatClampNeg = 0 := rfl
  have q1 : q * n1 ≤ 100 * 24 := Nat.mul_le_mul hq2 hn1
  have q2 : q * n2 ≤ 100 * 24 := Nat.mul_le_mul hq2 hn2
  have hF : ∀ c, c < N → (gI τ B c).toInt ≠ (-1000000 : Int) → -5000 ≤ (gI τ B c).toInt ∧ (gI τ B c).toInt ≤ 5000 := by
    intro c hc hf
    have := Tb_b t1 hq hs hc hf
    omega
  have hH : ∀ c, c < N → (gI τ O c).toInt ≠ (-1000000 : Int) → -5000 ≤ (gI τ O c).toInt ∧ (gI τ O c).toInt ≤ 5000 := by
    intro c hc hf
    have := Tb_b t2 hq hs hc hf
    omega
  have e0 : mI τ Jn 0 N (gI τ Jn) = τ := mI_idt (fun _ _ _ => rfl)
  obtain ⟨w, g1, x1, x2, x3⟩ := cj2 (O := O) hB h1 hN2 N n 0 (gI τ Jn) (fun j hj => by rw [z0] at hj; omega) (by decide) (by simp only [Int32.reduceToInt]; omega) (by omega)
  rw [e0] at x2
  obtain ⟨w2, g2, y2, y3⟩ := cj26 hB h1 hN2 hO hF hH N w 0 g1 (by rw [z0]; exact Jp_start x3) (by decide) (by simp only [Int32.reduceToInt]; omega) (by omega)
  have tb := Jp_Tb (κ := fun s => s % N) (fun s t => Nat.add_mod s t N) t1 t2 y3
  have hB2 : BJ (mI τ Jn 0 N g2) B Jn := ⟨hL, b2, b3, b4⟩
  have e : f_X1_joinWith n 69 O τ = some (pR (pR (mI τ Jn 0 N g2) 69 2 Jn) 69 3 B) := by
    unfold f_X1_joinWith
    rw [x2, b_X1_joinWith_24, y2]
    unfold b_X1_joinWith_57
    have eR : gR (mI τ Jn 0 N g2) 69 = gR τ 69 := rfl
    simp only [nm_t, eR, b2, b3]
    rw [ck_t (lo1 (Lay_mI hL)), ck_t (show ¬ B = 0 by omega), ck_t (show ¬ Jn = 0 by omega), ck_t (show ¬ Jn = 0 by omega), ck_t (show okO (pR (mI τ Jn 0 N g2) 69 2 Jn) 69 1 from lo1 (σ := mI τ Jn 0 N g2) hL), ck_t (show ¬ B = 0 by omega)]
  have rows : ∀ a, a ≠ Jn → gI (pR (pR (mI τ Jn 0 N g2) 69 2 Jn) 69 3 B) a = gI τ a := fun a ha => by funext j; show gI (mI τ Jn 0 N g2) a j = _; exact gI_mI_a ha
  refine ⟨_, e, ⟨⟨Lay_swap hB2, ?_, ?_, by omega⟩, ?_, ?_, fun c hc => ?_, fun c hc => ?_⟩, ?_, ⟨fun a ha => ?_, rfl, rfl, Lay_swap hB2⟩⟩
  · rw [gR_pR_k (by decide), gR_pR_s]
  · rw [gR_pR_s]
  · rw [rows 69 (by omega)]; exact h1
  · rw [rows 69 (by omega)]; exact h2
  · rw [rows 70 (by omega)]; exact h3 c hc
  · rw [rows 71 (by omega)]; exact h4 c hc
  · refine Tb_cong tb (fun c hc => ?_)
    show (gI (mI τ Jn 0 N g2) Jn c).toInt = _
    rw [gI_mI_i ⟨by omega, hc⟩]
  · exact ⟨rows a (by omega), rfl, rfl⟩
/-- a single line -/
theorem single_v (h : Cd q p M N m sg τ B Jn) (hp : Per q m N) (hq2 : q ≤ 100) (hs : sg = 1 ∨ sg = -1) : Tb q p M m sg (fun s => s % N) N 1 (-1000000 : Int) (fun c => (gI τ 71 c).toInt) := by
  obtain ⟨-, -, -, -, h4⟩ := h
  have hq : 0 < q := hp.1
  have hN0 : 0 < N := by have := hp.2; omega
  have one : ∀ a : Nat, ls q p m sg [a] = sg * SlQ q m (a * p) := fun a => by show sg * SlQ q m (a * p) + 0 = _; omega
  have sb : ∀ x : Nat, sg * SlQ q m x ≠ (-1000000 : Int) := fun x => by
    have b := SlQ_b (q := q) (m := m) (x := x) hq
    have c := sg_b hs b.1 b.2
    omega
  refine ⟨fun c hc hne => ?_, fun l hl => ?_⟩
  · have e := h4 c hc
    by_cases q1 : c ≤ M
    · rw [if_pos q1] at e
      refine ⟨[c], ⟨rfl, fun a ha => by rw [List.mem_singleton.mp ha]; exact q1⟩, ?_, by rw [one]; exact e⟩
      show (c + 0) % N = c
      exact Nat.mod_eq_of_lt hc
    · rw [if_neg q1] at e; exact absurd e hne
  · obtain ⟨b, rfl⟩ : ∃ b, l = [b] := List.length_eq_one_iff.mp hl.1
    have hb : b ≤ M := hl.2 b (List.mem_singleton.mpr rfl)
    have hlt := Nat.mod_lt b hN0
    have e := h4 (b % N) hlt
    rw [if_pos (by have := Nat.mod_le b N; omega)] at e
    have ec : SlQ q m (b % N * p) = SlQ q m (b * p) := SlQ_cong hp (by rw [Nat.mul_mod, Nat.mod_mod, ← Nat.mul_mod])
    have hs' : (fun s => s % N) [b].sum = b % N := by show (b + 0) % N = _; rw [Nat.add_zero]
    rw [hs', one]
    refine ⟨hlt, ?_, ?_⟩
    · show (gI τ 71 (b % N)).toInt ≠ _
      rw [e]; exact sb _
    · show _ ≤ (gI τ 71 (b % N)).toInt
      rw [e, ec]; exact Int.le_refl _
end DRC
