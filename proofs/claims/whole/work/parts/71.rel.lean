/-- two answers alike: none and none, or two heaps alike -/
def aO (T : Sg) (x y : Option Sg) : Prop := match x, y with
  | some σ, some τ => aL T σ τ
  | none, none => True
  | _, _ => False
/-- .. with a value -/
def aV (T : Sg) {α : Type} (x y : Option (α × Sg)) : Prop := match x, y with
  | some q, some r => q.1 = r.1 ∧ aL T q.2 r.2
  | none, none => True
  | _, _ => False
theorem aO_ck {T : Sg} {P Q : Prop} [Decidable P] [Decidable Q] {x y : Option Sg} (hPQ : P ↔ Q) (h : P → aO T x y) : aO T (ck P x) (ck Q y) := by
  unfold ck
  by_cases hp : P
  · rw [if_pos hp, if_pos (hPQ.mp hp)]; exact h hp
  · rw [if_neg hp, if_neg (fun q => hp (hPQ.mpr q))]; trivial
theorem aO_it {T : Sg} {P Q : Prop} [Decidable P] [Decidable Q] {x y x' y' : Option Sg} (hPQ : P ↔ Q) (h : P → aO T x y) (h' : ¬ P → aO T x' y') : aO T (if P then x else x') (if Q then y else y') := by
  by_cases hp : P
  · rw [if_pos hp, if_pos (hPQ.mp hp)]; exact h hp
  · rw [if_neg hp, if_neg (fun q => hp (hPQ.mpr q))]; exact h' hp
theorem aO_nm {T : Sg} {α : Type} {v w : α} {f g : α → Option Sg} (e : v = w) (h : aO T (f v) (g v)) : aO T (nm v f) (nm w g) := by subst e; exact h
theorem aO_nmS {T : Sg} {σ τ : Sg} {f g : Sg → Option Sg} (e : aL T σ τ) (h : ∀ σ τ, aL T σ τ → aO T (f σ) (g τ)) : aO T (nm σ f) (nm τ g) := h σ τ e
theorem aO_bp {T : Sg} {x y : Option Sg} {f g : Sg → Option Sg} (e : aO T x y) (h : ∀ σ τ, aL T σ τ → aO T (f σ) (g τ)) : aO T (bp x f) (bp y g) := by
  cases x with
  | none => cases y with
    | none => trivial
    | some τ => exact e.elim
  | some σ => cases y with
    | none => exact e.elim
    | some τ => exact h σ τ e
theorem aO_bd {T : Sg} {α : Type} {x y : Option (α × Sg)} {f g : α → Sg → Option Sg} (e : aV T x y) (h : ∀ v σ τ, aL T σ τ → aO T (f v σ) (g v τ)) : aO T (bd x f) (bd y g) := by
  cases x with
  | none => cases y with
    | none => trivial
    | some r => exact e.elim
  | some q => cases y with
    | none => exact e.elim
    | some r =>
      obtain ⟨v, σ⟩ := q
      obtain ⟨w, τ⟩ := r
      obtain ⟨e1, e2⟩ := e
      dsimp only at e1 e2
      subst e1
      exact h v σ τ e2
theorem aO_some {T : Sg} {σ τ : Sg} (h : aL T σ τ) : aO T (some σ) (some τ) := h
/-- what is owed of the first: it answers; then the other answers alike -/
theorem aO_get {T : Sg} {x y : Option Sg} {σ : Sg} (h : aO T x y) (hx : x = some σ) : ∃ τ, y = some τ ∧ aL T σ τ := by
  subst hx
  cases y with
  | none => exact h.elim
  | some τ => exact ⟨τ, rfl, h⟩
