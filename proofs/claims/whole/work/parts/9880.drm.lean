section DRM
theorem rnd_add {x d c m : Int} (hd : 0 < d) (hx : 0 ≤ x) (hc : 0 ≤ c) (hm : m = 1 → c % 2 = 0) : rnd (x + d * c) d m = rnd x d m + c := by
  have e1 : (x + d * c) % d = x % d := Int.add_mul_emod_self_left x d c
  have e2 : (x + d * c) / d = x / d + c := Int.add_mul_ediv_left x c (by omega)
  have p : 0 ≤ d * c := Int.mul_nonneg (by omega) hc
  have z : x % d ≠ 0 → 0 < x := by
    intro h
    rcases Int.lt_or_eq_of_le hx with q | q
    · exact q
    · exact absurd (by rw [← q]; exact Int.zero_emod d) h
  unfold rnd
  rw [e1, e2]
  generalize d * c = e at *
  generalize x % d = r at *
  generalize x / d = k at *
  by_cases r0 : r = 0
  · rw [if_pos r0, if_pos r0]
  · have x0 := z r0
    rw [if_neg r0, if_neg r0]
    by_cases m0 : m = 0
    · rw [if_pos m0, if_pos m0]
      by_cases q : d < 2 * r ∨ (2 * r = d ∧ 0 < x)
      · rw [if_pos q, if_pos (by omega)]; omega
      · rw [if_neg q, if_neg (by omega)]
    · rw [if_neg m0, if_neg m0]
      by_cases m1 : m = 1
      · have := hm m1
        rw [if_pos m1, if_pos m1]
        by_cases q : d < 2 * r ∨ (2 * r = d ∧ k % 2 ≠ 0)
        · rw [if_pos q, if_pos (by omega)]; omega
        · rw [if_neg q, if_neg (by omega)]
      · rw [if_neg m1, if_neg m1, if_pos x0, if_pos x0, if_pos (show 0 < x + e by omega), if_pos (show 0 < x + e by omega)]
        split
        · rfl
        · split
          · omega
          · split <;> omega
/-- q times what rounding adds -/
def SlQ (q : Nat) (m : Int) (x : Nat) : Int := (q : Int) * rnd x q m - x
theorem SlQ_b {q : Nat} {m : Int} {x : Nat} (hq : 0 < q) : -(q : Int) ≤ SlQ q m x ∧ SlQ q m x ≤ q := by
  have h1 := Int.emod_nonneg (x : Int) (b := (q : Int)) (by omega)
  have h2 := Int.emod_lt_of_pos (x : Int) (b := (q : Int)) (by omega)
  have h3 := Int.mul_ediv_add_emod (x : Int) (q : Int)
  have hr : rnd x q m = (x : Int) / q ∨ (rnd x q m = (x : Int) / q + 1) := by
    unfold rnd
    repeat' split
    all_goals first | exact Or.inl rfl | exact Or.inr rfl
  unfold SlQ
  rcases hr with e | e
  · rw [e]; omega
  · rw [e, Int.mul_add]; omega
theorem SlQ_add {q : Nat} {m : Int} {x : Nat} (hq : 0 < q) (c : Nat) (hm : m = 1 → c % 2 = 0) : SlQ q m (x + q * c) = SlQ q m x := by
  unfold SlQ
  have e : ((x + q * c : Nat) : Int) = (x : Int) + (q : Int) * (c : Int) := by rw [Int.natCast_add, Int.natCast_mul]
  rw [e, rnd_add (by omega) (by omega) (by omega) (by omega), Int.mul_add]
  omega
/-- slips come again after N -/
def Per (q : Nat) (m : Int) (N : Nat) : Prop := 0 < q ∧ ((N = q ∧ m ≠ 1) ∨ N = 2 * q)
theorem SlQ_mod {q N : Nat} {m : Int} {x : Nat} (h : Per q m N) : SlQ q m (x % N) = SlQ q m x := by
  obtain ⟨hq, h⟩ := h
  have e := Nat.mod_add_div x N
  rcases h with ⟨h1, h2⟩ | h1
  · have := SlQ_add (m := m) (x := x % N) hq (x / N) (by omega)
    rw [← this, ← h1, e]
  · have := SlQ_add (m := m) (x := x % N) hq (2 * (x / N)) (by omega)
    rw [← this, show x % N + q * (2 * (x / N)) = x % N + N * (x / N) by rw [h1, ← Nat.mul_assoc, Nat.mul_comm q 2], e]
theorem SlQ_cong {q N : Nat} {m : Int} {x y : Nat} (h : Per q m N) (e : x % N = y % N) : SlQ q m x = SlQ q m y := by
  rw [← SlQ_mod h (x := x), ← SlQ_mod h (x := y), e]
/-- sums of slips of lines -/
def ls (q p : Nat) (m sg : Int) : List Nat → Int
  | [] => 0
  | a :: l => sg * SlQ q m (a * p) + ls q p m sg l
theorem ls_app {q p : Nat} {m sg : Int} {l l' : List Nat} : ls q p m sg (l ++ l') = ls q p m sg l + ls q p m sg l' := by
  induction l with
  | nil => show ls q p m sg l' = 0 + _; omega
  | cons a l ih => show sg * SlQ q m (a * p) + ls q p m sg (l ++ l') = sg * SlQ q m (a * p) + ls q p m sg l + _; rw [ih]; omega
theorem sg_b {sg s q : Int} (h : sg = 1 ∨ sg = -1) (h1 : -q ≤ s) (h2 : s ≤ q) : -q ≤ sg * s ∧ sg * s ≤ q := by
  rcases h with h | h <;> rw [h] <;> omega
theorem ls_b {q p : Nat} {m sg : Int} {l : List Nat} (hq : 0 < q) (hs : sg = 1 ∨ sg = -1) : -((q * l.length : Nat) : Int) ≤ ls q p m sg l ∧ ls q p m sg l ≤ ((q * l.length : Nat) : Int) := by
  induction l with
  | nil => show -((q * 0 : Nat) : Int) ≤ 0 ∧ 0 ≤ ((q * 0 : Nat) : Int); omega
  | cons a l ih =>
    have b := SlQ_b (m := m) (x := a * p) hq
    have c := sg_b hs b.1 b.2
    show -((q * (l.length + 1) : Nat) : Int) ≤ sg * SlQ q m (a * p) + ls q p m sg l ∧ sg * SlQ q m (a * p) + ls q p m sg l ≤ ((q * (l.length + 1) : Nat) : Int)
    rw [Nat.mul_add, Nat.mul_one]
    omega
def Ln (M n : Nat) (l : List Nat) : Prop := l.length = n ∧ ∀ a ∈ l, a ≤ M
theorem Ln_app {M n k : Nat} {l l' : List Nat} (h : Ln M n l) (h' : Ln M k l') : Ln M (n + k) (l ++ l') := by
  refine ⟨by rw [List.length_append, h.1, h'.1], fun a ha => ?_⟩
  rcases List.mem_append.mp ha with q | q
  · exact h.2 a q
  · exact h'.2 a q
theorem Ln_cut {M n k : Nat} {l : List Nat} (h : Ln M (n + k) l) : ∃ l1 l2, l = l1 ++ l2 ∧ Ln M n l1 ∧ Ln M k l2 := by
  refine ⟨l.take n, l.drop n, (List.take_append_drop n l).symm, ⟨?_, fun a ha => h.2 a (List.mem_of_mem_take ha)⟩, ⟨?_, fun a ha => h.2 a (List.mem_of_mem_drop ha)⟩⟩
  · rw [List.length_take, h.1]; omega
  · rw [List.length_drop, h.1]; omega
theorem Ln_z (M n : Nat) : Ln M n (List.replicate n 0) := ⟨List.length_replicate, fun a ha => by rw [(List.mem_replicate.mp ha).2]; omega⟩
/-- f is the table of the best of n lines, by the classes k of their sums -/
def Tb (q p M : Nat) (m sg : Int) (κ : Nat → Nat) (N n : Nat) (U : Int) (f : Nat → Int) : Prop :=
  (∀ c, c < N → f c ≠ U → ∃ l, Ln M n l ∧ κ l.sum = c ∧ f c = ls q p m sg l) ∧ (∀ l, Ln M n l → κ l.sum < N ∧ f (κ l.sum) ≠ U ∧ ls q p m sg l ≤ f (κ l.sum))
def updZ (G : Nat → Int) (k : Nat) (v : Int) : Nat → Int := fun j => if j = k then v else G j
def Jp (N : Nat) (U : Int) (f h G : Nat → Int) (a0 b0 : Nat) : Prop :=
  (∀ c, c < N → G c ≠ U → ∃ a b, a < N ∧ b < N ∧ f a ≠ U ∧ h b ≠ U ∧ (a + b) % N = c ∧ G c = f a + h b) ∧
  (∀ a b, a < N → b < N → f a ≠ U → h b ≠ U → (a < a0 ∨ (a = a0 ∧ b < b0)) → G ((a + b) % N) ≠ U ∧ f a + h b ≤ G ((a + b) % N))
section JP
variable {N a0 b0 : Nat} {U : Int} {f h G : Nat → Int}
theorem Jp_start (hG : ∀ c, c < N → G c = U) : Jp N U f h G 0 0 := by
  refine ⟨fun c hc h => absurd (hG c hc) h, fun a b _ _ _ _ h => ?_⟩
  omega
theorem Jp_skip (j : Jp N U f h G a0 b0) (e : h b0 = U) : Jp N U f h G a0 (b0 + 1) := by
  refine ⟨j.1, fun a b ha hb fa hb2 h => ?_⟩
  by_cases q : b = b0
  · rw [q] at hb2; exact absurd e hb2
  · exact j.2 a b ha hb fa hb2 (by omega)
theorem Jp_keep (j : Jp N U f h G a0 b0) (hU : U < f a0 + h b0) (e : f a0 + h b0 ≤ G ((a0 + b0) % N)) : Jp N U f h G a0 (b0 + 1) := by
  refine ⟨j.1, fun a b ha hb fa hb2 h => ?_⟩
  by_cases q : a = a0 ∧ b = b0
  · rw [q.1, q.2]
    exact ⟨by omega, e⟩
  · exact j.2 a b ha hb fa hb2 (by omega)
theorem Jp_put (j : Jp N U f h G a0 b0) (ha0 : a0 < N) (hb0 : b0 < N) (fa0 : f a0 ≠ U) (hb0' : h b0 ≠ U) (hU : U < f a0 + h b0) (e : ¬ f a0 + h b0 ≤ G ((a0 + b0) % N)) : Jp N U f h (updZ G ((a0 + b0) % N) (f a0 + h b0)) a0 (b0 + 1) := by
  refine ⟨fun c hc => ?_, fun a b ha hb fa hb2 h => ?_⟩
  · unfold updZ
    by_cases q : c = (a0 + b0) % N
    · rw [if_pos q]
      exact fun _ => ⟨a0, b0, ha0, hb0, fa0, hb0', q.symm, rfl⟩
    · rw [if_neg q]; exact j.1 c hc
  · unfold updZ
    by_cases q : (a + b) % N = (a0 + b0) % N
    · rw [if_pos q]
      refine ⟨by omega, ?_⟩
      by_cases q2 : a = a0 ∧ b = b0
      · rw [q2.1, q2.2]; exact Int.le_refl _
      · have := (j.2 a b ha hb fa hb2 (by omega)).2
        rw [q] at this
        omega
    · rw [if_neg q]
      refine j.2 a b ha hb fa hb2 ?_
      by_cases q2 : a = a0 ∧ b = b0
      · rw [q2.1, q2.2] at q; exact absurd rfl q
      · omega
theorem Jp_row (j : Jp N U f h G a0 b0) (hb : N ≤ b0) : Jp N U f h G (a0 + 1) 0 := by
  refine ⟨j.1, fun a b ha hb fa hb2 h => j.2 a b ha hb fa hb2 (by omega)⟩
theorem Jp_none (j : Jp N U f h G a0 b0) (e : f a0 = U) : Jp N U f h G (a0 + 1) 0 := by
  refine ⟨j.1, fun a b ha hb fa hb2 h => ?_⟩
  by_cases q : a = a0
  · rw [q] at fa; exact absurd e fa
  · exact j.2 a b ha hb fa hb2 (by omega)
theorem Jp_cong {G' : Nat → Int} (j : Jp N U f h G a0 b0) (hN : 0 < N) (e : ∀ c, c < N → G' c = G c) : Jp N U f h G' a0 b0 := by
  refine ⟨fun c hc => by rw [e c hc]; exact j.1 c hc, fun a b ha hb fa hb2 h => ?_⟩
  rw [e _ (Nat.mod_lt _ hN)]
  exact j.2 a b ha hb fa hb2 h
theorem Jp_Tb {q p M n1 n2 : Nat} {m sg : Int} {κ : Nat → Nat} (hk : ∀ s t, κ (s + t) = (κ s + κ t) % N) (t1 : Tb q p M m sg κ N n1 U f) (t2 : Tb q p M m sg κ N n2 U h) (j : Jp N U f h G N 0) : Tb q p M m sg κ N (n1 + n2) U G := by
  refine ⟨fun c hc hG => ?_, fun l hl => ?_⟩
  · obtain ⟨a, b, ha, hb, fa, hb2, e1, e2⟩ := j.1 c hc hG
    obtain ⟨l1, x1, x2, x3⟩ := t1.1 a ha fa
    obtain ⟨l2, y1, y2, y3⟩ := t2.1 b hb hb2
    refine ⟨l1 ++ l2, Ln_app x1 y1, ?_, ?_⟩
    · rw [List.sum_append, hk, x2, y2, e1]
    · rw [e2, x3, y3, ls_app]
  · obtain ⟨l1, l2, e, h1, h2⟩ := Ln_cut hl
    obtain ⟨x1, x2, x3⟩ := t1.2 l1 h1
    obtain ⟨y1, y2, y3⟩ := t2.2 l2 h2
    obtain ⟨z1, z2⟩ := j.2 _ _ x1 y1 x2 y2 (Or.inl x1)
    rw [e, List.sum_append, hk, ls_app]
    exact ⟨Nat.mod_lt _ (by omega), z1, by omega⟩
theorem Tb_cong {q p M n : Nat} {m sg : Int} {κ : Nat → Nat} {f' : Nat → Int} (t : Tb q p M m sg κ N n U f) (e : ∀ c, c < N → f' c = f c) : Tb q p M m sg κ N n U f' := by
  refine ⟨fun c hc => by rw [e c hc]; exact t.1 c hc, fun l hl => ?_⟩
  have := t.2 l hl
  rw [e _ this.1]
  exact this
theorem Tb_b {q p M n : Nat} {m sg : Int} {κ : Nat → Nat} {c : Nat} (t : Tb q p M m sg κ N n U f) (hq : 0 < q) (hs : sg = 1 ∨ sg = -1) (hc : c < N) (hf : f c ≠ U) : -((q * n : Nat) : Int) ≤ f c ∧ f c ≤ ((q * n : Nat) : Int) := by
  obtain ⟨l, h1, h2, h3⟩ := t.1 c hc hf
  rw [h3, ← h1.1]
  exact ls_b hq hs
/-- the greatest of all -/
def Gr (q p M n : Nat) (m sg g : Int) : Prop := (∃ l, Ln M n l ∧ g = ls q p m sg l - sg * SlQ q m (l.sum * p)) ∧ ∀ l, Ln M n l → ls q p m sg l - sg * SlQ q m (l.sum * p) ≤ g
theorem Gr_one {q p M n : Nat} {m sg g g' : Int} (h : Gr q p M n m sg g) (h' : Gr q p M n m sg g') : g = g' := by
  obtain ⟨⟨l, a1, a2⟩, a3⟩ := h
  obtain ⟨⟨l', b1, b2⟩, b3⟩ := h'
  have := a3 l' b1
  have := b3 l a1
  omega
/-- what the last loop has found among the classes below k -/
def Gp (U : Int) (f S : Nat → Int) (k : Nat) (g : Int) : Prop := (g = U ∨ ∃ c, c < k ∧ f c ≠ U ∧ g = f c - S c) ∧ ∀ c, c < k → f c ≠ U → f c - S c ≤ g
theorem Gp_start {S : Nat → Int} : Gp U f S 0 U := ⟨Or.inl rfl, fun c hc => by omega⟩
theorem Gp_skip {S : Nat → Int} {k : Nat} {g : Int} (h : Gp U f S k g) (e : f k = U) : Gp U f S (k + 1) g := by
  refine ⟨?_, fun c hc hf => ?_⟩
  · rcases h.1 with q | ⟨c, x1, x2, x3⟩
    · exact Or.inl q
    · exact Or.inr ⟨c, by omega, x2, x3⟩
  · by_cases q : c = k
    · rw [q] at hf; exact absurd e hf
    · exact h.2 c (by omega) hf
theorem Gp_keep {S : Nat → Int} {k : Nat} {g : Int} (h : Gp U f S k g) (e : f k - S k ≤ g) : Gp U f S (k + 1) g := by
  refine ⟨?_, fun c hc hf => ?_⟩
  · rcases h.1 with q | ⟨c, x1, x2, x3⟩
    · exact Or.inl q
    · exact Or.inr ⟨c, by omega, x2, x3⟩
  · by_cases q : c = k
    · rw [q]; exact e
    · exact h.2 c (by omega) hf
theorem Gp_put {S : Nat → Int} {k : Nat} {g : Int} (h : Gp U f S k g) (hf : f k ≠ U) (e : g ≤ f k - S k) : Gp U f S (k + 1) (f k - S k) := by
  refine ⟨Or.inr ⟨k, by omega, hf, rfl⟩, fun c hc hf => ?_⟩
  by_cases q : c = k
  · rw [q]; exact Int.le_refl _
  · have := h.2 c (by omega) hf; omega
theorem Gp_Gr {q p M n : Nat} {m sg g : Int} {κ : Nat → Nat} {S : Nat → Int} (hS : ∀ s, S (κ s) = sg * SlQ q m (s * p)) (t : Tb q p M m sg κ N n U f) (hU : ∀ l, Ln M n l → U < ls q p m sg l - sg * SlQ q m (l.sum * p)) (h : Gp U f S N g) : Gr q p M n m sg g := by
  have up : ∀ l, Ln M n l → ls q p m sg l - sg * SlQ q m (l.sum * p) ≤ g := by
    intro l hl
    obtain ⟨x1, x2, x3⟩ := t.2 l hl
    have := h.2 _ x1 x2
    rw [hS] at this
    omega
  refine ⟨?_, up⟩
  rcases h.1 with e | ⟨c, x1, x2, x3⟩
  · have := up _ (Ln_z M n)
    have := hU _ (Ln_z M n)
    omega
  · obtain ⟨l, y1, y2, y3⟩ := t.1 c x1 x2
    refine ⟨l, y1, ?_⟩
    rw [x3, y3, ← y2, hS]
end JP
end DRM
