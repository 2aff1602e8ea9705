/-- the first place of the greatest of f 0 .. f (k - 1) -/
def amx (f : Nat → Int) : Nat → Nat
  | 0 => 0
  | k + 1 => if f (amx f k) < f k then k else amx f k
def cnt (W : Nat → Int) : Nat → Int
  | 0 => 0
  | k + 1 => cnt W k + (if 0 < W k then 1 else 0)
def isum (q : Nat → Int) : Nat → Int
  | 0 => 0
  | k + 1 => isum q k + q k
/-- the parts before what is left is given -/
def q0 (x S : Int) (W : Nat → Int) (rule : Int) (j : Nat) : Int := if rule < 2 then x * W j / S else rnd (x * W j) S 0
/-- who has got one more behind g gifts by rests -/
def rI (r : Nat → Int) (N : Nat) : Nat → Nat → Int
  | 0, _ => 0
  | g + 1, j => if j = amx (fun i => if rI r N g i = 1 then -1 else r i) N then 1 else rI r N g j
def lft (x S : Int) (W : Nat → Int) (rule : Int) (N : Nat) : Int := x - isum (q0 x S W rule) N
def Pf (x S : Int) (W : Nat → Int) (N : Nat) (rule : Int) (j : Nat) : Int := if N ≤ j then 0 else q0 x S W rule j +
  (if rule = 0 then rI (fun i => x * W i % S) N (lft x S W rule N).toNat j else if rule = 1 then (if 0 < W j ∧ cnt W j < lft x S W rule N then 1 else 0) else if rule = 2 then (if j = N - 1 then lft x S W rule N else 0) else (if j = 0 then lft x S W rule N else 0))
section SPM
variable {f g W q r : Nat → Int} {N k j : Nat} {x S rule : Int}
theorem amx_lt (h : 0 < k) : amx f k < k := by
  induction k with
  | zero => omega
  | succ k ih =>
    rw [amx]
    by_cases q : f (amx f k) < f k
    · rw [if_pos q]; omega
    · rw [if_neg q]
      by_cases h0 : k = 0
      · subst h0; rw [amx]; omega
      · have := ih (by omega); omega
theorem amx_le : ∀ j, j < k → f j ≤ f (amx f k) := by
  induction k with
  | zero => intro j h; omega
  | succ k ih =>
    intro j h
    rw [amx]
    by_cases q : f (amx f k) < f k
    · rw [if_pos q]
      by_cases e : j = k
      · subst e; omega
      · have := ih j (by omega); omega
    · rw [if_neg q]
      by_cases e : j = k
      · subst e; omega
      · exact ih j (by omega)
theorem amx_first : ∀ j, j < amx f k → f j < f (amx f k) := by
  induction k with
  | zero => intro j h; rw [amx] at h; omega
  | succ k ih =>
    intro j h
    rw [amx] at h ⊢
    by_cases q : f (amx f k) < f k
    · rw [if_pos q] at h ⊢
      have := amx_le (f := f) (k := k) j h
      omega
    · rw [if_neg q] at h ⊢
      exact ih j h
theorem amx_uniq {i : Nat} (hi : i < k) (h1 : ∀ j, j < k → f j ≤ f i) (h2 : ∀ j, j < i → f j < f i) : amx f k = i := by
  have a := amx_lt (f := f) (k := k) (by omega)
  have b := amx_le (f := f) (k := k) i hi
  have c := h1 _ a
  rcases Nat.lt_trichotomy (amx f k) i with h | h | h
  · have := h2 _ h; omega
  · exact h
  · have := amx_first (f := f) (k := k) i h; omega
/-- where f and g agree on some, and are below 0 elsewhere, the first greatest is the same -/
theorem amx_same {D : Nat → Prop} (hf : ∀ j, j < k → ¬ D j → 0 ≤ f j ∧ g j = f j) (hd : ∀ j, j < k → D j → f j < 0 ∧ g j < 0) (he : ∃ j, j < k ∧ ¬ D j) : amx g k = amx f k := by
  obtain ⟨u, u1, u2⟩ := he
  have a := amx_lt (f := f) (k := k) (by omega)
  have b := amx_le (f := f) (k := k) u u1
  have c := hf u u1 u2
  have d : ¬ D (amx f k) := fun q => by have := hd _ a q; omega
  have e := hf _ a d
  refine amx_uniq a (fun j hj => ?_) (fun j hj => ?_)
  · rw [e.2]
    have := amx_le (f := f) (k := k) j hj
    by_cases q : D j
    · have := hd j hj q; omega
    · have := hf j hj q; omega
  · rw [e.2]
    have := amx_first (f := f) (k := k) j hj
    by_cases q : D j
    · have := hd j (by omega) q; omega
    · have := hf j (by omega) q; omega
theorem isum_mul : isum (fun j => x * W j) k = x * isum W k := by
  induction k with
  | zero => rw [isum, isum, Int.mul_zero]
  | succ k ih => rw [isum, isum, ih, Int.mul_add]
theorem isum_sub : isum (fun j => f j - g j) k = isum f k - isum g k := by
  induction k with
  | zero => rw [isum, isum, isum]; omega
  | succ k ih => rw [isum, isum, isum, ih]; omega
theorem isum_mulr : isum (fun j => q j * S) k = isum q k * S := by
  induction k with
  | zero => rw [isum, isum, Int.zero_mul]
  | succ k ih => rw [isum, isum, ih, Int.add_mul]
theorem isum_le (h : ∀ j, j < k → f j ≤ g j) : isum f k ≤ isum g k := by
  induction k with
  | zero => rw [isum, isum]; omega
  | succ k ih =>
    rw [isum, isum]
    have := ih (fun j hj => h j (by omega))
    have := h k (by omega)
    omega
theorem isum_c {c : Int} : isum (fun _ => c) k = k * c := by
  induction k with
  | zero => rw [isum]; simp
  | succ k ih => rw [isum, ih, Int.natCast_add, Int.add_mul]; simp
/-- what is left, times the sum of the weights -/
theorem lft_mul (hS : isum W N = S) : lft x S W rule N * S = isum (fun j => x * W j - q0 x S W rule j * S) N := by
  rw [isum_sub, isum_mul, isum_mulr, hS]
  unfold lft
  rw [Int.sub_mul]
theorem q0_d (hS : 0 < S) (j : Nat) : (rule < 2 → 0 ≤ x * W j - q0 x S W rule j * S ∧ x * W j - q0 x S W rule j * S < S ∧ x * W j - q0 x S W rule j * S = x * W j % S) ∧ -S ≤ x * W j - q0 x S W rule j * S ∧ x * W j - q0 x S W rule j * S ≤ S := by
  have e := Int.emod_add_mul_ediv (x * W j) S
  have r1 := Int.emod_nonneg (x * W j) (b := S) (by omega)
  have r2 := Int.emod_lt_of_pos (x * W j) hS
  have rf := rnd_f (n := x * W j) (d := S) (k := 0)
  unfold q0
  by_cases q : rule < 2
  · rw [if_pos q, Int.mul_comm (x * W j / S) S]
    omega
  · rw [if_neg q]
    have a1 : S * (x * W j / S) ≤ S * rnd (x * W j) S 0 := Int.mul_le_mul_of_nonneg_left rf.1 (by omega)
    have a2 : S * rnd (x * W j) S 0 ≤ S * (x * W j / S + 1) := Int.mul_le_mul_of_nonneg_left rf.2 (by omega)
    rw [Int.mul_add] at a2
    rw [Int.mul_comm (rnd (x * W j) S 0) S]
    omega
/-- what is left is not more than there are weights -/
theorem lft_b (hS : isum W N = S) (hp : 0 < S) : -(N : Int) ≤ lft x S W rule N ∧ lft x S W rule N ≤ N ∧ (rule < 2 → 0 ≤ lft x S W rule N) := by
  have e := lft_mul (x := x) (rule := rule) hS
  have u := isum_le (f := fun j => x * W j - q0 x S W rule j * S) (g := fun _ => S) (k := N) (fun j _ => (q0_d hp j).2.2)
  have l := isum_le (f := fun _ => -S) (g := fun j => x * W j - q0 x S W rule j * S) (k := N) (fun j _ => (q0_d hp j).2.1)
  rw [← e, isum_c] at u
  rw [← e, isum_c] at l
  have l' : -(N : Int) * S ≤ lft x S W rule N * S := by rw [Int.neg_mul, ← Int.mul_neg]; exact l
  refine ⟨Int.le_of_mul_le_mul_right l' hp, Int.le_of_mul_le_mul_right u hp, fun q => ?_⟩
  have z := isum_le (f := fun _ => 0) (g := fun j => x * W j - q0 x S W rule j * S) (k := N) (fun j _ => ((q0_d hp j).1 q).1)
  rw [← e, isum_c, Int.mul_zero] at z
  have z' : 0 * S ≤ lft x S W rule N * S := by rw [Int.zero_mul]; exact z
  exact Int.le_of_mul_le_mul_right z' hp
/-- .. nor than there are weights above 0 -/
theorem lft_cnt (hS : isum W N = S) (hp : 0 < S) (hr : rule < 2) (hW : ∀ j, j < N → 0 ≤ W j) : lft x S W rule N ≤ cnt W N := by
  have e := lft_mul (x := x) (rule := rule) hS
  have u := isum_le (f := fun j => x * W j - q0 x S W rule j * S) (g := fun j => (if 0 < W j then 1 else 0) * S) (k := N) (fun j hj => by
    have a := (q0_d (x := x) (W := W) (rule := rule) hp j).1 hr
    by_cases q : 0 < W j
    · rw [if_pos q]; omega
    · have z : W j = 0 := by have := hW j hj; omega
      rw [if_neg q]
      have e : x * W j % S = 0 := by rw [z, Int.mul_zero, Int.zero_emod]
      omega)
  have c : isum (fun j => (if 0 < W j then (1 : Int) else 0) * S) N = cnt W N * S := by
    rw [isum_mulr]
    congr 1
    clear e u hS hW
    induction N with
    | zero => rfl
    | succ k ih => rw [isum, cnt, ih]
  rw [← e, c] at u
  exact Int.le_of_mul_le_mul_right u hp
theorem cnt_mono {i : Nat} (h : k ≤ i) : cnt W k ≤ cnt W i := by
  induction i with
  | zero =>
    have : k = 0 := by omega
    subst this; omega
  | succ i ih =>
    by_cases e : k = i + 1
    · subst e; omega
    · have := ih (by omega)
      rw [cnt]
      by_cases q : 0 < W i
      · rw [if_pos q]; omega
      · rw [if_neg q]; omega
theorem rI_01 {n : Nat} : rI r N n j = 0 ∨ rI r N n j = 1 := by
  induction n with
  | zero => left; rfl
  | succ n ih =>
    rw [rI]
    by_cases q : j = amx (fun i => if rI r N n i = 1 then -1 else r i) N
    · rw [if_pos q]; right; rfl
    · rw [if_neg q]; exact ih
/-- behind g gifts there is still one without, while g < N -/
theorem rI_free {n : Nat} (h : n < N) : ∃ j, j < N ∧ ¬ rI r N n j = 1 := by
  have key : ∀ m, isum (rI r N n) m ≤ n := by
    intro m
    clear h
    induction n with
    | zero =>
      have e : isum (rI r N 0) m = isum (fun _ => 0) m := by
        have a := isum_le (f := rI r N 0) (g := fun _ => 0) (k := m) (fun j _ => Int.le_of_eq rfl)
        have b := isum_le (g := rI r N 0) (f := fun _ => 0) (k := m) (fun j _ => Int.le_of_eq rfl)
        omega
      rw [e, isum_c]; simp
    | succ n ih =>
      generalize hA : amx (fun i => if rI r N n i = 1 then -1 else r i) N = A
      have st : ∀ m, isum (rI r N (n + 1)) m ≤ isum (rI r N n) m + (if A < m then 1 else 0) := by
        intro m
        induction m with
        | zero => rw [isum, isum]; simp
        | succ m im =>
          rw [isum, isum, rI, hA]
          have := rI_01 (r := r) (N := N) (n := n) (j := m)
          by_cases q : m = A
          · subst q
            rw [if_pos rfl, if_pos (by omega)]
            rw [if_neg (by omega)] at im
            omega
          · rw [if_neg q]
            by_cases q2 : A < m
            · rw [if_pos q2] at im; rw [if_pos (by omega)]; omega
            · rw [if_neg q2] at im; rw [if_neg (by omega)]; omega
      have := st m
      have := ih
      by_cases q : A < m
      · rw [if_pos q] at *; omega
      · rw [if_neg q] at *; omega
  by_cases q : ∃ j, j < N ∧ ¬ rI r N n j = 1
  · exact q
  · exfalso
    have a := isum_le (f := fun _ => 1) (g := rI r N n) (k := N) (fun j hj => by
      by_cases z : rI r N n j = 1
      · rw [z]; exact Int.le_refl _
      · exact absurd ⟨j, hj, z⟩ q)
    rw [isum_c] at a
    have := key N
    omega
end SPM
