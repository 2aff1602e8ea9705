def ck {β : Type} (P : Prop) [Decidable P] (k : Option β) : Option β := if P then k else none
def nm {α β : Type} (v : α) (k : α → Option β) : Option β := k v
def bd {α β : Type} (x : Option (α × Sg)) (k : α → Sg → Option β) : Option β := match x with
  | some q => k q.1 q.2
  | none => none
def bp {α β : Type} (x : Option α) (k : α → Option β) : Option β := match x with
  | some q => k q
  | none => none
theorem ck_el {β : Type} {P : Prop} [Decidable P] {k : Option β} {r : β} (h : ck P k = some r) : P ∧ k = some r := by
  unfold ck at h
  by_cases hp : P
  · rw [if_pos hp] at h; exact ⟨hp, h⟩
  · rw [if_neg hp] at h; cases h
theorem nm_el {α β : Type} {v : α} {k : α → Option β} {r : β} (h : nm v k = some r) : ∃ x, x = v ∧ k x = some r := ⟨v, rfl, h⟩
theorem bd_el {α β : Type} {x : Option (α × Sg)} {k : α → Sg → Option β} {r : β} (h : bd x k = some r) : ∃ y s, x = some (y, s) ∧ k y s = some r := by
  cases x with
  | none => cases h
  | some q => exact ⟨q.1, q.2, rfl, h⟩
theorem bp_el {α β : Type} {x : Option α} {k : α → Option β} {r : β} (h : bp x k = some r) : ∃ y, x = some y ∧ k y = some r := by
  cases x with
  | none => cases h
  | some q => exact ⟨q, rfl, h⟩
theorem it_t {β : Type} {c : Prop} [Decidable c] {A B : Option β} {r : Option β} (hc : c) (h : (if c then A else B) = r) : A = r := by rw [if_pos hc] at h; exact h
theorem it_f {β : Type} {c : Prop} [Decidable c] {A B : Option β} {r : Option β} (hc : ¬ c) (h : (if c then A else B) = r) : B = r := by rw [if_neg hc] at h; exact h
theorem some_el {β : Type} {a b : β} (h : some a = some b) : a = b := Option.some.inj h
theorem some_el2 {α β : Type} {a c : α} {b d : β} (h : some (a, b) = some (c, d)) : a = c ∧ b = d := by cases h; exact ⟨rfl, rfl⟩
theorem none_el {β : Type} {b : β} {Q : Prop} (h : (none : Option β) = some b) : Q := by cases h
theorem tsw_0 {x : Int32} (lo : Int) : x.toInt < lo ∨ lo - 1 < x.toInt := by omega
theorem tsw_s {x v : Int32} {lo hi hi' : Int} (h : x.toInt < lo ∨ hi < x.toInt) (e : hi + 1 = hi') (hv : v.toInt = hi') (c : ¬ x = v) : x.toInt < lo ∨ hi' < x.toInt := by
  rcases h with h | h
  · exact Or.inl h
  · right
    have : x.toInt ≠ hi' := fun q => c (Int32.toInt_inj.mp (q.trans hv.symm))
    omega
abbrev n64 (r : UInt64) : Prop := r &&& 0x7fffffffffffffff ≤ 0x7ff0000000000000
section RULES5
variable {G : Gl} {M : Md} {pc : Nat} {ls ls2 : List (Option Value)} {st : List Value} {σ σ' σ1 : Sg} {r : Option Value ⊕ String}
theorem RN_nmI {x e : Int32} (hx : x = e) (h : RN G M pc ls (.int x :: st) σ r σ') : RN G M pc ls (.int e :: st) σ r σ' := by rw [← hx]; exact h
theorem RN_nmJ {x e : Int64} (hx : x = e) (h : RN G M pc ls (.long x :: st) σ r σ') : RN G M pc ls (.long e :: st) σ r σ' := by rw [← hx]; exact h
theorem RN_nmD {x e : UInt64} (hx : x = e) (h : RN G M pc ls (.double x :: st) σ r σ') : RN G M pc ls (.double e :: st) σ r σ' := by rw [← hx]; exact h
theorem RN_nmR {x e : Nat} (hx : x = e) (h : RN G M pc ls (.ref x :: st) σ r σ') : RN G M pc ls (.ref e :: st) σ r σ' := by rw [← hx]; exact h
theorem RN_nmS {e : Sg} (hx : σ1 = e) (h : RN G M pc ls st σ1 r σ') : RN G M pc ls st e r σ' := by rw [← hx]; exact h
theorem RN_lc_eq {x y : Int64} {off : Int} {tgt : Nat} (h1 : decode (mC M) pc = .ok (.lcmp, 1)) (hd : decode (mC M) (pc + 1) = .ok (.ifCond .eq off, 3)) (ht : ((pc + 1 : Nat) : Int) + off = (tgt : Int)) (kt : x = y → RN G M tgt ls st σ r σ') (kf : ¬ x = y → RN G M (pc + 1 + 3) ls st σ r σ') : RN G M pc ls (.long y :: .long x :: st) σ r σ' :=
  RN_lcmp h1 (RN_if_eq hd ht (fun q => kt ((lg_cmp_eq x y).mp q)) (fun q => kf (fun z => q ((lg_cmp_eq x y).mpr z))))
theorem RN_lc_ne {x y : Int64} {off : Int} {tgt : Nat} (h1 : decode (mC M) pc = .ok (.lcmp, 1)) (hd : decode (mC M) (pc + 1) = .ok (.ifCond .ne off, 3)) (ht : ((pc + 1 : Nat) : Int) + off = (tgt : Int)) (kt : ¬ x = y → RN G M tgt ls st σ r σ') (kf : x = y → RN G M (pc + 1 + 3) ls st σ r σ') : RN G M pc ls (.long y :: .long x :: st) σ r σ' :=
  RN_lcmp h1 (RN_if_ne hd ht (fun q => kt (fun z => q ((lg_cmp_eq x y).mpr z))) (fun q => kf ((lg_cmp_eq x y).mp q)))
theorem RN_lc_lt {x y : Int64} {off : Int} {tgt : Nat} (h1 : decode (mC M) pc = .ok (.lcmp, 1)) (hd : decode (mC M) (pc + 1) = .ok (.ifCond .lt off, 3)) (ht : ((pc + 1 : Nat) : Int) + off = (tgt : Int)) (kt : x < y → RN G M tgt ls st σ r σ') (kf : ¬ x < y → RN G M (pc + 1 + 3) ls st σ r σ') : RN G M pc ls (.long y :: .long x :: st) σ r σ' :=
  RN_lcmp h1 (RN_if_lt hd ht (fun q => kt ((lg_cmp_lt x y).mp q)) (fun q => kf (fun z => q ((lg_cmp_lt x y).mpr z))))
theorem RN_lc_ge {x y : Int64} {off : Int} {tgt : Nat} (h1 : decode (mC M) pc = .ok (.lcmp, 1)) (hd : decode (mC M) (pc + 1) = .ok (.ifCond .ge off, 3)) (ht : ((pc + 1 : Nat) : Int) + off = (tgt : Int)) (kt : y ≤ x → RN G M tgt ls st σ r σ') (kf : ¬ y ≤ x → RN G M (pc + 1 + 3) ls st σ r σ') : RN G M pc ls (.long y :: .long x :: st) σ r σ' :=
  RN_lcmp h1 (RN_if_ge hd ht (fun q => kt ((lg_cmp_ge x y).mp q)) (fun q => kf (fun z => q ((lg_cmp_ge x y).mpr z))))
theorem RN_lc_gt {x y : Int64} {off : Int} {tgt : Nat} (h1 : decode (mC M) pc = .ok (.lcmp, 1)) (hd : decode (mC M) (pc + 1) = .ok (.ifCond .gt off, 3)) (ht : ((pc + 1 : Nat) : Int) + off = (tgt : Int)) (kt : y < x → RN G M tgt ls st σ r σ') (kf : ¬ y < x → RN G M (pc + 1 + 3) ls st σ r σ') : RN G M pc ls (.long y :: .long x :: st) σ r σ' :=
  RN_lcmp h1 (RN_if_gt hd ht (fun q => kt ((lg_cmp_gt x y).mp q)) (fun q => kf (fun z => q ((lg_cmp_gt x y).mpr z))))
theorem RN_lc_le {x y : Int64} {off : Int} {tgt : Nat} (h1 : decode (mC M) pc = .ok (.lcmp, 1)) (hd : decode (mC M) (pc + 1) = .ok (.ifCond .le off, 3)) (ht : ((pc + 1 : Nat) : Int) + off = (tgt : Int)) (kt : x ≤ y → RN G M tgt ls st σ r σ') (kf : ¬ x ≤ y → RN G M (pc + 1 + 3) ls st σ r σ') : RN G M pc ls (.long y :: .long x :: st) σ r σ' :=
  RN_lcmp h1 (RN_if_le hd ht (fun q => kt ((lg_cmp_le x y).mp q)) (fun q => kf (fun z => q ((lg_cmp_le x y).mpr z))))
theorem RN_tsw {dflt lo hi : Int} {offs : Array Int} {len : Nat} {x v : Int32} {off : Int} {tgt : Nat} (hx : x = v) (hd : decode (mC M) pc = .ok (.tableswitch dflt lo hi offs, len)) (i1 : ¬ v.toInt < lo) (i2 : ¬ hi < v.toInt) (ho : offs[(v.toInt - lo).toNat]? = some off) (ht : (pc : Int) + off = (tgt : Int)) (h : RN G M tgt ls st σ r σ') : RN G M pc ls (.int x :: st) σ r σ' := by
  subst hx
  exact RN_tableIn hd i1 i2 ho ht h
theorem RN_d2raw {idx : Nat} {b : UInt64} (hd : decode (mC M) pc = .ok (.invokestatic idx, 3)) (w1 : Cond.methodLink (mOwn M) idx ⟨"java/lang/Double", "doubleToRawLongBits", "(D)J"⟩ ∈ TB) (w2 : Cond.native ⟨"java/lang/Double", "doubleToRawLongBits", "(D)J"⟩ ∈ TB) (w3 : Cond.static ⟨"java/lang/Double", "doubleToRawLongBits", "(D)J"⟩ ∈ TB) (w4 : Cond.initialized "java/lang/Double" ∈ TB) (hf : 1 ≤ mFr M) (hl : 23 ≤ mLo M) (hw : (st.map fun v => v.category).sum ≤ 8) (h : RN G M (pc + 3) ls (.long b.toInt64 :: st) σ r σ') : RN G M pc ls (.double b :: st) σ r σ' :=
  ⟨h.1, fun p e R s m args below meth c H locs cells slots A C P S L h1 h2 => by
    obtain ⟨hx, hb, hml, -, -, hown, hnm, hts, hKN, hfr, hlo⟩ := id C
    have hw2 := cat8 (G := G) hw
    exact vn_d2l hx hb (hml.trans L.1.symm) hown (hts _ w1) (hts _ w2) (hts _ w3) (hts _ w4) (by omega) (by omega) hd (h.2 p e R s m args below meth c H locs cells slots A C P S L h1 h2)⟩
theorem RN_raw2d {idx : Nat} {b : Int64} (hd : decode (mC M) pc = .ok (.invokestatic idx, 3)) (w1 : Cond.methodLink (mOwn M) idx ⟨"java/lang/Double", "longBitsToDouble", "(J)D"⟩ ∈ TB) (w2 : Cond.native ⟨"java/lang/Double", "longBitsToDouble", "(J)D"⟩ ∈ TB) (w3 : Cond.static ⟨"java/lang/Double", "longBitsToDouble", "(J)D"⟩ ∈ TB) (w4 : Cond.initialized "java/lang/Double" ∈ TB) (hv : vn_snl2d b = false) (hf : 1 ≤ mFr M) (hl : 23 ≤ mLo M) (hw : (st.map fun v => v.category).sum ≤ 8) (h : RN G M (pc + 3) ls (.double b.toUInt64 :: st) σ r σ') : RN G M pc ls (.long b :: st) σ r σ' :=
  ⟨h.1, fun p e R s m args below meth c H locs cells slots A C P S L h1 h2 => by
    obtain ⟨hx, hb, hml, -, -, hown, hnm, hts, hKN, hfr, hlo⟩ := id C
    have hw2 := cat8 (G := G) hw
    exact vn_l2d hx hb (hml.trans L.1.symm) hown (hts _ w1) (hts _ w2) (hts _ w3) (hts _ w4) hv (by omega) (by omega) hd (h.2 p e R s m args below meth c H locs cells slots A C P S L h1 h2)⟩
end RULES5
