abbrev Sg : Type := (Nat × Nat × (Nat → Nat × Nat)) × (Nat → Nat → Int32) × (Nat → Nat → Int64) × (Nat → Nat → UInt64) × (Nat → Nat → Nat)
def sN (σ : Sg) : Nat := σ.1.1
def sZ (σ : Sg) : Nat := σ.1.2.1
def sK (σ : Sg) (a : Nat) : Nat × Nat := σ.1.2.2 a
def gI (σ : Sg) (a k : Nat) : Int32 := σ.2.1 a k
def gJ (σ : Sg) (a k : Nat) : Int64 := σ.2.2.1 a k
def gD (σ : Sg) (a k : Nat) : UInt64 := σ.2.2.2.1 a k
def gR (σ : Sg) (a k : Nat) : Nat := σ.2.2.2.2 a k
def up2 {α : Type} (f : Nat → Nat → α) (a k : Nat) (v : α) : Nat → Nat → α := fun a' k' => if a' = a ∧ k' = k then v else f a' k'
def pI (σ : Sg) (a k : Nat) (v : Int32) : Sg := (σ.1, up2 σ.2.1 a k v, σ.2.2)
def pJ (σ : Sg) (a k : Nat) (v : Int64) : Sg := (σ.1, σ.2.1, up2 σ.2.2.1 a k v, σ.2.2.2)
def pD (σ : Sg) (a k : Nat) (v : UInt64) : Sg := (σ.1, σ.2.1, σ.2.2.1, up2 σ.2.2.2.1 a k v, σ.2.2.2.2)
def pR (σ : Sg) (a k : Nat) (v : Nat) : Sg := (σ.1, σ.2.1, σ.2.2.1, σ.2.2.2.1, up2 σ.2.2.2.2 a k v)
def nw (σ : Sg) (t n : Nat) : Sg := ((sN σ + 1, sZ σ + n, fun a => if a = sN σ then (t, n) else sK σ a), (fun a k => if a = sN σ then 0 else gI σ a k), (fun a k => if a = sN σ then 0 else gJ σ a k), (fun a k => if a = sN σ then 0 else gD σ a k), (fun a k => if a = sN σ then 0 else gR σ a k))
abbrev Gl : Type := Launch × Nat × (Nat → Nat) × va_G × (Nat → ClassId)
def gl (G : Gl) : Launch := G.1
def gA (G : Gl) : Nat := G.2.1
def gO (G : Gl) : Nat → Nat := G.2.2.1
def gC (G : Gl) : va_G := G.2.2.2.1
def gT (G : Gl) : Nat → ClassId := G.2.2.2.2
def fr (G : Gl) : Nat → Prop := fun q => gA G ≤ q
def ad (G : Gl) (n : Nat) : Nat := if n < 4 then gO G n else gA G + (n - 4)
def eV (G : Gl) (v : Value) : Value := match v with
  | .ref n => .ref (ad G n)
  | v => v
def rO (G : Gl) (n : Nat) : Option Nat := if n = 0 then none else some (ad G n)
def tyC (c : Nat) : Nat → FieldType := match c with
  | 0 => tyX0
  | 1 => tyX1
  | 2 => tyX2
  | 3 => tyX4
  | 4 => tyX5
  | 5 => tyX6
  | 6 => tyX7
  | 7 => tyX8
  | 8 => tyX9
  | 9 => tyX10
  | 10 => tyX11
  | _ => tyX12
def fV (G : Gl) (σ : Sg) (a c k : Nat) : Value := match tyC c k with
  | .int => .int (gI σ a k)
  | .boolean => .int (gI σ a k)
  | .long => .long (gJ σ a k)
  | .double => .double (gD σ a k)
  | _ => va_rf (rO G (gR σ a k))
def cP (G : Gl) (σ : Sg) (H : Heap) (a : Nat) : Prop :=
  ((sK σ a).1 = 12 → H[ad G a]? = some (arrV (gT G 12) (sK σ a).2 (fun k => .double (gD σ a k)))) ∧
  ((sK σ a).1 = 13 → H[ad G a]? = some (arrV (gT G 13) (sK σ a).2 (fun k => .int (gI σ a k)))) ∧
  ((sK σ a).1 = 14 → H[ad G a]? = some (arrV (gT G 14) (sK σ a).2 (fun k => .long (gJ σ a k)))) ∧
  ((sK σ a).1 = 15 → H[ad G a]? = some (arrV (gT G 15) (sK σ a).2 (fun k => .int (gI σ a k)))) ∧
  (∀ t, 16 ≤ t → t ≤ 18 → (sK σ a).1 = t → H[ad G a]? = some (arrV (gT G t) (sK σ a).2 (fun k => va_rf (rO G (gR σ a k))))) ∧
  (∀ c, c < 12 → (sK σ a).1 = c → ∃ q : vw_C, vwCl[c]? = some q ∧ t_OB (ad G a) ((gC G).1 c) q.2.2 ((gC G).2 c) H (fV G σ a c))
def Rp (G : Gl) (σ : Sg) (U : State) (H : Heap) : Prop := H.size = gA G + (sN σ - 4) ∧ 4 ≤ sN σ ∧ (∀ a, a < 4 → (sK σ a).1 = 13 ∧ va_T .int (gO G a) (sK σ a).2 (fun j => .int (gI σ a j)) (fr G) U H) ∧ ∀ a, 4 ≤ a → a < sN σ → cP G σ H a
def TB : List Cond := lw_tbl.filter goodWord
theorem mem_TB {w : Cond} (i : Nat) (h : lw_tbl[i]? = some w) (g : goodWord w = true) : w ∈ TB := List.mem_filter.mpr ⟨List.mem_of_getElem? h, g⟩
def tyL (G : Gl) : List (ClassId × FieldType) := [(gT G 12, .double), (gT G 13, .int), (gT G 14, .long), (gT G 15, .boolean), (gT G 16, .object "PennyJudge$Program"), (gT G 17, .object "PennyJudge$Tape"), (gT G 18, .array .int)]
def isNest (w : Cond) : Bool := match w with
  | .methodLinkNest _ _ _ _ => true
  | _ => false
def NB : List Cond := lw_tbl.filter isNest
def isXw (w : Cond) : Bool := match w with
  | .castable _ _ => true
  | .declares _ => true
  | _ => false
def XB : List Cond := lw_tbl.filter isXw
def SB : List (Nat × String) := [(144, "no such account"), (153, "no such slot or what"), (165, "no such part"), (176, "no such line"), (181, "no such program or what"), (207, "no such rate or mode"), (209, "no such n, most or what"), (239, "no such d or m"), (245, "no such n or mode"), (291, "no such tape"), (299, "no row with such a place")]
def nIA : String := "java/lang/IllegalArgumentException"
def nIS : String := "java/lang/IllegalStateException"
def XK (G : Gl) (U : State) (H : Heap) : Prop := (gl G).stackTraces = false ∧ (∀ w ∈ XB, va_Nw w U) ∧ (vx_Zq Bundle.tN "UNASSIGNED_STACK" Bundle.steD (fr G) U H ∧ vx_Zq Bundle.tN "SUPPRESSED_SENTINEL" Bundle.listD (fr G) U H) ∧ (∀ q ∈ SB, ∃ sa : Nat, vk_R "PennyJudge" q.1 q.2 sa U) ∧ va_Nc nIS nIA U
def KN (G : Gl) (U : State) (H : Heap) : Prop := va_K (gC G) vwCl (tyL G) U ∧ (∀ w ∈ NB, va_Nw w U) ∧ (va_AO "PennyJudge$Program" U ∧ va_AO "PennyJudge$Tape" U ∧ va_AOA .int U ∧ XK G U H) ∧
  va_Z "PennyJudge" "T_MOST" "[I" (.ref (gO G 1)) (fr G) U H ∧ va_Z "PennyJudge" "V_LEAST" "[I" (.ref (gO G 2)) (fr G) U H ∧ va_Z "PennyJudge" "V_MOST" "[I" (.ref (gO G 3)) (fr G) U H ∧ va_Z "java/lang/StrictMath" "$assertionsDisabled" "Z" (.int 1) (fr G) U H
abbrev Md : Type := String × MethodName × ByteArray × Nat × Option FieldType × Nat × Nat
def mOwn (M : Md) : String := M.1
def mY (M : Md) : MethodName := M.2.1
def mC (M : Md) : ByteArray := M.2.2.1
def mL (M : Md) : Nat := M.2.2.2.1
def mRet (M : Md) : Option FieldType := M.2.2.2.2.1
def mFr (M : Md) : Nat := M.2.2.2.2.2.1
def mLo (M : Md) : Nat := M.2.2.2.2.2.2
def mT (M : Md) : List (Nat × Nat × Nat × Nat) := if (mY M).cls = "PennyJudgeLaw" then
    (if (mY M).name = "account" ∨ (mY M).name = "part" ∨ (mY M).name = "got" then [(0, 8, 11, 13)] else if (mY M).name = "slot" ∨ (mY M).name = "carried" then [(0, 9, 12, 13)] else if (mY M).name = "drift" then [(0, 16, 19, 13)] else if (mY M).name = "rounded" then [(0, 14, 17, 13)] else if (mY M).name = "at" then [(0, 9, 12, 13), (0, 9, 16, 39)] else [])
  else []
def CX (G : Gl) (M : Md) (p : Program) (R : Room) (s : State) (m : MethodId) (args : Array Value) (meth : Method) (c : Code) : Prop :=
  p.tables.exec = Jvm.exec ∧ c.code = mC M ∧ c.maxLocals = mL M ∧ meth.sig.returnType = mRet M ∧ (meth.locks = false ∧ c.exceptionTable.toList = tableOf (mT M)) ∧ s.vm.findClass (mOwn M) = some m.cls ∧ meth.name = (mY M).name ∧ (∀ w ∈ TB, w.before args s = true) ∧ KN G s s.heap ∧ mFr M ≤ R.frames ∧ mLo M ≤ R.locals
def asc (G : Gl) : Nat → List (Option Value) → List (Nat × Value)
  | _, [] => []
  | i, none :: t => asc G (i + 1) t
  | i, some v :: t => (i, eV G v) :: asc G (i + 1) t
def LV (G : Gl) (n : Nat) (ls : List (Option Value)) (A : Array Slot) : Prop := lv_has A n (asc G 0 ls)
def QC (G : Gl) (v : Option Value) (σ' : Sg) : Array Value → State → Outcome → State → Prop := fun _ st oc t => oc = .returned (v.map (eV G)) ∧ Rp G σ' t t.heap ∧ va_F (fr G) st t
def XC (G : Gl) (E0 : String) (σ' : Sg) : String → State → State → Prop := fun E st t => E = E0 ∧ Rp G σ' t t.heap ∧ va_F (fr G) st t
def FIN (G : Gl) (r : Option Value ⊕ String) (σ' : Sg) (below : List Frame) (args : Array Value) (s : State) (mc ms : Nat) : State → Prop := match r with
  | .inl v => MQ below (QC G v σ') args s mc ms (fr G)
  | .inr E => vx_MQ below (fun _ _ _ _ => False) (XC G E σ') args s mc ms (fr G)
def RN (G : Gl) (M : Md) (pc : Nat) (ls : List (Option Value)) (st : List Value) (σ : Sg) (r : Option Value ⊕ String) (σ' : Sg) : Prop :=
  (sN σ ≤ sN σ' ∧ sZ σ ≤ sZ σ') ∧ ∀ (p : Program) (e : Env) (R : Room) (s : State) (m : MethodId) (args : Array Value) (below : List Frame) (meth : Method) (c : Code) (H : Heap) (locs : List Loc) (cells slots : Nat) (A : Array Slot),
    CX G M p R s m args meth c → Rp G σ s H → va_S (fr G) s.heap H locs → LV G (mL M) ls A → cells + (sN σ' - sN σ) ≤ R.cells → slots + (sZ σ' - sZ σ) ≤ R.slots →
    W p (gl G) e R s m args below meth c H locs cells slots (FIN G r σ' below args s (cells + (sN σ' - sN σ)) (slots + (sZ σ' - sZ σ))) (F0 m pc A (st.map (eV G)))
theorem eV_cat (G : Gl) (v : Value) : (eV G v).category = v.category := by cases v <;> rfl
theorem mem_asc {G : Gl} {q : Nat × Value} : ∀ {ls : List (Option Value)} {i : Nat}, q ∈ asc G i ls ↔ ∃ (k : Nat) (v : Value), ls[k]? = some (some v) ∧ q = (i + k, eV G v)
  | [], i => by simp [asc]
  | none :: t, i => by
    rw [asc, mem_asc (ls := t)]
    constructor
    · rintro ⟨k, v, h1, h2⟩
      exact ⟨k + 1, v, by simpa using h1, by rw [h2]; congr 1; omega⟩
    · rintro ⟨k, v, h1, h2⟩
      cases k with
      | zero => simp at h1
      | succ k => exact ⟨k, v, by simpa using h1, by rw [h2]; congr 1; omega⟩
  | some w :: t, i => by
    rw [asc, List.mem_cons, mem_asc (ls := t)]
    constructor
    · rintro (h | ⟨k, v, h1, h2⟩)
      · exact ⟨0, w, by simp, by rw [h]; rfl⟩
      · exact ⟨k + 1, v, by simpa using h1, by rw [h2]; congr 1; omega⟩
    · rintro ⟨k, v, h1, h2⟩
      cases k with
      | zero =>
        left
        simp at h1
        rw [h2, h1]; rfl
      | succ k => exact Or.inr ⟨k, v, by simpa using h1, by rw [h2]; congr 1; omega⟩
theorem LV.get {G : Gl} {n : Nat} {ls : List (Option Value)} {A : Array Slot} (h : LV G n ls A) {i : Nat} {v : Value} (hi : ls[i]? = some (some v)) : A[i]? = some (.val (eV G v)) :=
  h.2.2 (i, eV G v) (mem_asc.mpr ⟨i, v, hi, by simp⟩)
def lclr (ls : List (Option Value)) (i : Nat) : List (Option Value) := match i with
  | 0 => ls
  | j + 1 => match ls[j]? with
    | some (some w) => if w.category = 2 then ls.set j none else ls
    | _ => ls
def lput (ls : List (Option Value)) (i : Nat) (o : Option Value) : List (Option Value) := if i < ls.length then ls.set i o else ls ++ (List.replicate (i - ls.length) none ++ [o])
def lst1 (ls : List (Option Value)) (i : Nat) (v : Value) : List (Option Value) := lput (lclr ls i) i (some v)
def lst2 (ls : List (Option Value)) (i : Nat) (v : Value) : List (Option Value) := lput (lput (lclr ls i) i (some v)) (i + 1) none
theorem lput_get {ls : List (Option Value)} {i k : Nat} {o : Option Value} {w : Value} (h : (lput ls i o)[k]? = some (some w)) : (k = i ∧ o = some w) ∨ (k ≠ i ∧ ls[k]? = some (some w)) := by
  unfold lput at h
  by_cases hk : k = i
  · subst hk
    left
    refine ⟨rfl, ?_⟩
    split at h
    · rename_i hl
      rw [List.getElem?_set_self hl] at h
      exact Option.some.inj h
    · rename_i hl
      rw [List.getElem?_append_right (by omega), List.getElem?_append_right (by simp), List.length_replicate, Nat.sub_self] at h
      simpa using h
  · right
    refine ⟨hk, ?_⟩
    split at h
    · rw [List.getElem?_set_ne (Ne.symm hk)] at h
      exact h
    · rename_i hl
      by_cases h2 : k < ls.length
      · rw [List.getElem?_append_left h2] at h
        exact h
      · rw [List.getElem?_append_right (by omega)] at h
        by_cases h3 : k - ls.length < i - ls.length
        · rw [List.getElem?_append_left (by simpa using h3), List.getElem?_replicate, if_pos h3] at h
          simp at h
        · rw [List.getElem?_append_right (by simp; omega), List.length_replicate] at h
          have : ([o] : List (Option Value))[k - ls.length - (i - ls.length)]? = none := by
            apply List.getElem?_eq_none
            simp
            omega
          rw [this] at h
          simp at h
theorem lclr_get {ls : List (Option Value)} {i k : Nat} {w : Value} (h : (lclr ls i)[k]? = some (some w)) : ls[k]? = some (some w) ∧ ¬ (k + 1 = i ∧ w.category = 2) := by
  cases i with
  | zero => exact ⟨h, by omega⟩
  | succ j =>
    unfold lclr at h
    cases hj : ls[j]? with
    | none =>
      simp only [hj] at h
      refine ⟨h, fun q => ?_⟩
      have : k = j := by omega
      subst this
      rw [hj] at h
      simp at h
    | some x =>
      cases x with
      | none =>
        simp only [hj] at h
        refine ⟨h, fun q => ?_⟩
        have : k = j := by omega
        subst this
        rw [hj] at h
        simp at h
      | some v =>
        simp only [hj] at h
        by_cases hc : v.category = 2
        · rw [if_pos hc] at h
          by_cases hk : k = j
          · subst hk
            rw [List.getElem?_set_self (List.getElem?_eq_some_iff.mp hj).1] at h
            simp at h
          · rw [List.getElem?_set_ne (Ne.symm hk)] at h
            exact ⟨h, by omega⟩
        · rw [if_neg hc] at h
          refine ⟨h, fun q => ?_⟩
          have : k = j := by omega
          subst this
          rw [hj] at h
          cases h
          exact hc q.2
theorem LV.st1 {G : Gl} {n i : Nat} {ls : List (Option Value)} {v : Value} {A : Array Slot} (h : lv_has A n ((i, eV G v) :: (asc G 0 ls).filter (fun q => !(q.1 == i) && !(q.1 + 1 == i && q.2.category == 2)))) : LV G n (lst1 ls i v) A := by
  refine ⟨h.1, h.2.1, fun q hq => h.2.2 q ?_⟩
  obtain ⟨k, w, h1, h2⟩ := mem_asc.mp hq
  subst h2
  rcases lput_get h1 with ⟨rfl, h3⟩ | ⟨h3, h4⟩
  · cases h3
    simp
  · obtain ⟨h5, h6⟩ := lclr_get h4
    refine List.mem_cons_of_mem _ (List.mem_filter.mpr ⟨mem_asc.mpr ⟨k, w, h5, rfl⟩, ?_⟩)
    simp only [Nat.zero_add, eV_cat]
    simp only [Bool.and_eq_true, Bool.not_eq_true', beq_eq_false_iff_ne, ne_eq, Bool.and_eq_false_imp, beq_iff_eq]
    exact ⟨h3, fun a b => h6 ⟨a, b⟩⟩
theorem LV.st2 {G : Gl} {n i : Nat} {ls : List (Option Value)} {v : Value} {A : Array Slot} (h : lv_has A n ((i, eV G v) :: (asc G 0 ls).filter (fun q => !(q.1 == i) && (!(q.1 == i + 1) && !(q.1 + 1 == i && q.2.category == 2))))) : LV G n (lst2 ls i v) A := by
  refine ⟨h.1, h.2.1, fun q hq => h.2.2 q ?_⟩
  obtain ⟨k, w, h1, h2⟩ := mem_asc.mp hq
  subst h2
  rcases lput_get h1 with ⟨rfl, h3⟩ | ⟨h30, h40⟩
  · cases h3
  · rcases lput_get h40 with ⟨rfl, h3⟩ | ⟨h3, h4⟩
    · cases h3
      simp
    · obtain ⟨h5, h6⟩ := lclr_get h4
      refine List.mem_cons_of_mem _ (List.mem_filter.mpr ⟨mem_asc.mpr ⟨k, w, h5, rfl⟩, ?_⟩)
      simp only [Nat.zero_add, eV_cat]
      simp only [Bool.and_eq_true, Bool.not_eq_true', beq_eq_false_iff_ne, ne_eq, Bool.and_eq_false_imp, beq_iff_eq]
      exact ⟨h3, h30, fun a b => h6 ⟨a, b⟩⟩
def lle : List (Option Value) → List (Option Value) → Prop
  | [], _ => True
  | none :: l, x => lle l x.tail
  | some v :: l, x => x.head? = some (some v) ∧ lle l x.tail
theorem lle_get : ∀ {l x : List (Option Value)} {k : Nat} {v : Value}, lle l x → l[k]? = some (some v) → x[k]? = some (some v)
  | [], x, k, v, _, h => by simp at h
  | none :: l, x, 0, v, _, h => by simp at h
  | none :: l, x, k + 1, v, hl, h => by
    have h1 := lle_get (l := l) (x := x.tail) (k := k) (v := v) hl (by simpa using h)
    cases x with
    | nil => simp at h1
    | cons y t => simpa using h1
  | some w :: l, x, 0, v, hl, h => by
    have h1 := hl.1
    cases x with
    | nil => simp at h1
    | cons y t =>
      simp at h h1
      subst h
      simpa using h1
  | some w :: l, x, k + 1, v, hl, h => by
    have h1 := lle_get (l := l) (x := x.tail) (k := k) (v := v) hl.2 (by simpa using h)
    cases x with
    | nil => simp at h1
    | cons y t => simpa using h1
theorem LV.weak {G : Gl} {n : Nat} {l x : List (Option Value)} {A : Array Slot} (h : LV G n x A) (hl : lle l x) : LV G n l A := by
  refine ⟨h.1, h.2.1, fun q hq => ?_⟩
  obtain ⟨k, w, h1, h2⟩ := mem_asc.mp hq
  subst h2
  rw [Nat.zero_add]
  exact h.get (lle_get hl h1)
theorem RN_weak {G : Gl} {M : Md} {pc : Nat} {l x : List (Option Value)} {st : List Value} {σ σ' : Sg} {r : Option Value ⊕ String} (hl : lle l x) (h : RN G M pc l st σ r σ') : RN G M pc x st σ r σ' :=
  ⟨h.1, fun p e R s m args below meth c H locs cells slots A C P S L h1 h2 => h.2 p e R s m args below meth c H locs cells slots A C P S (L.weak hl) h1 h2⟩
