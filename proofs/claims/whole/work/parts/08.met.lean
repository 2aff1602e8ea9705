def mW (M : Md) : List Cond := Cond.code (mY M) (mC M) (mL M) (mRet M) :: TB
def mRm (M : Md) (a b : Nat) : Room := { frames := mFr M, cells := a, slots := b, locals := mLo M }
def Pcc (G : Gl) (av : List Value) (σ : Sg) : Array Value → State → Prop := va_Pc (av.map (eV G)) (fun U => Rp G σ U U.heap ∧ KN G U U.heap)
def MT (G : Gl) (M : Md) (av : List Value) (σ : Sg) (v : Option Value) (σ' : Sg) : Prop :=
  (sN σ ≤ sN σ' ∧ sZ σ ≤ sZ σ') ∧ Met (gl G) (mY M) (mW M) (mRm M (sN σ' - sN σ) (sZ σ' - sZ σ)) (Pcc G av σ) (QC G v σ') (sN σ' - sN σ) (sZ σ' - sZ σ) (fr G)
def lvA : List Value → List (Option Value)
  | [] => []
  | v :: vs => if v.category = 2 then some v :: none :: lvA vs else some v :: lvA vs
theorem asc_lvA {G : Gl} : ∀ (av : List Value) (i : Nat), asc G i (lvA av) = lv_args i (av.map (eV G))
  | [], i => rfl
  | v :: vs, i => by
    have e := eV_cat G v
    by_cases hc : v.category = 2
    · simp only [lvA, if_pos hc, asc, List.map_cons, lv_args, e, asc_lvA vs]
    · simp only [lvA, if_neg hc, asc, List.map_cons, lv_args, e, asc_lvA vs]
theorem len_lvA {G : Gl} : ∀ (av : List Value), (lg_sl (av.map (eV G))).length = (lvA av).length
  | [] => rfl
  | v :: vs => by
    have e := eV_cat G v
    have ih := len_lvA (G := G) vs
    unfold lg_sl at ih ⊢
    by_cases hc : v.category = 2
    · simp only [List.map_cons, List.flatMap_cons, e, hc, if_true, lvA, List.length_append, List.length_cons, List.length_nil, ih]; omega
    · simp only [List.map_cons, List.flatMap_cons, e, hc, if_false, lvA, List.length_append, List.length_cons, List.length_nil, ih]; omega
theorem Pcc_blind {G : Gl} {av : List Value} {σ : Sg} : FrameBlind (Pcc G av σ) := fun a U g mk q => ⟨q.1, Rp.moved (u := U) (U := U.calling g mk a) (Vm.Alike.refl U.vm) q.2.1, KN.calling q.2.2⟩
theorem no_table {p : Program} {l : Launch} {y : MethodName} {ws : List Cond} {rm : Room} {cc : ByteArray} {maxL : Nat} {ret : Option FieldType} {e : Env} {s s₁ : State} {m : MethodId} {args : Array Value} {below : List Frame} {meth : Method} {c : Code} (B : BodyLoose p l y (headSpec ws rm) cc maxL ret e s m args below meth c s₁) (h : (Cond.code y cc maxL ret).before args s = true) {M : Md} (hT : mT M = []) : c.exceptionTable.toList = tableOf (mT M) := by
  obtain ⟨meth9, c9, h1, h2, -, -, -, -, h7, -⟩ := Cond.code_spec B.named h
  cases Option.some.inj (h1.symm.trans B.method)
  cases Option.some.inj (h2.symm.trans (Stand.of_body B).code)
  rw [Array.isEmpty_iff.mp h7, hT]
  rfl
theorem MT_of {G : Gl} {M : Md} {av : List Value} {σ σ' : Sg} {v : Option Value} (hy : plainName (mY M).cls = true) (ho : mOwn M = (mY M).cls) (hl : (lvA av).length ≤ mL M) (h : RN G M 0 (lvA av) [] σ (.inl v) σ') (hT : mT M = [] := by rfl) : MT G M av σ v σ' := by
  refine ⟨h.1, Met.ofW (cc := mC M) (maxL := mL M) (ret := mRet M) hy rfl ?_⟩
  intro p e s m args below meth c s₁ B hml hv
  obtain ⟨rfl, hP, hK⟩ := hv
  have hts0 := atoms_spec (ws := mW M) B.pre
  have hts : ∀ w ∈ TB, w.before (av.map (eV G)).toArray s = true := fun w hw => hts0 w (List.mem_cons_of_mem _ hw)
  have hown : s.vm.findClass (mOwn M) = some m.cls := by rw [ho]; exact findClass_of_methodNamed B.named
  have C : CX G M p (mRm M (sN σ' - sN σ) (sZ σ' - sZ σ)) s m (av.map (eV G)).toArray meth c :=
    ⟨B.exec, B.bytes, hml, B.returns, ⟨B.notSynchronized, no_table B (hts0 _ List.mem_cons_self) hT⟩, hown, (name_of_methodNamed B.named B.method).1, hts, hK, Nat.le_refl _, Nat.le_refl _⟩
  rw [lg_entry_eq]
  have hL := lv_entry (av.map (eV G)) (n := mL M) (by rw [len_lvA]; exact hl)
  rw [← asc_lvA av 0] at hL
  have hW := h.2 p e (mRm M (sN σ' - sN σ) (sZ σ' - sZ σ)) s m _ below meth c s.heap [] 0 0 _ C hP va_S.rf hL (by rw [Nat.zero_add]; exact Nat.le_refl _) (by rw [Nat.zero_add]; exact Nat.le_refl _)
  rw [Nat.zero_add, Nat.zero_add] at hW
  exact hW
theorem good_mW {M : Md} (h : Cond.code (mY M) (mC M) (mL M) (mRet M) ∈ TB) : GoodIn TB (mW M) := by
  intro w hw
  have hm : w ∈ TB := (List.mem_cons.mp hw).elim (fun e => by rw [e]; exact h) id
  exact ⟨hm, good_of_word (List.mem_filter.mp hm).2⟩
def lkB (own : String) (idx : Nat) (M2 : Md) (n : Nat) : Prop := Cond.code (mY M2) (mC M2) (mL M2) (mRet M2) ∈ TB ∧ Cond.initialized (mY M2).cls ∈ TB ∧ Cond.methodLink own idx (mY M2) ∈ TB ∧ (mY M2).cls ≠ "java/lang/invoke/MethodHandle" ∧ (mY M2).cls ≠ "java/lang/invoke/VarHandle" ∧ (parseMethodDescriptor (mY M2).desc).map (fun d => d.parameters.length) = some n
def lkV (own : String) (idx : Nat) (M2 : Md) (n : Nat) : Prop := lkB own idx M2 n ∧ Cond.instanceMethod (mY M2) ∈ TB ∧ Cond.selects (mY M2).cls (mY M2) (mY M2) ∈ TB
def lkS (own : String) (idx : Nat) (M2 : Md) (n : Nat) : Prop := lkB own idx M2 n ∧ Cond.static (mY M2) ∈ TB
def lkI (own : String) (idx : Nat) (M2 : Md) (n : Nat) : Prop := lkB own idx M2 n ∧ (mY M2).name = "<init>" ∧ Cond.instanceMethod (mY M2) ∈ TB ∧ mRet M2 = none
def lkN (own : String) (idx : Nat) (host : String) (M2 : Md) (n : Nat) : Prop := Cond.code (mY M2) (mC M2) (mL M2) (mRet M2) ∈ TB ∧ Cond.initialized (mY M2).cls ∈ TB ∧ Cond.methodLinkNest own idx (mY M2) host ∈ NB ∧ ((mY M2).cls ≠ "java/lang/invoke/MethodHandle" ∧ (mY M2).cls ≠ "java/lang/invoke/VarHandle" ∧ (parseMethodDescriptor (mY M2).desc).map (fun d => d.parameters.length) = some n) ∧ (mY M2).name = "<init>" ∧ Cond.instanceMethod (mY M2) ∈ TB ∧ mRet M2 = none
section CALLS
variable {G : Gl} {M M2 : Md} {p : Program} {e : Env} {R : Room} {s : State} {m : MethodId} {args : Array Value} {below : List Frame} {meth : Method} {c : Code} {H : Heap} {locs : List Loc} {cells slots mc ms : Nat} {A : Array Slot} {Q : State → Prop} {σ σ1 σ' : Sg} {pc : Nat} {st0 rest : List Value} {v : Option Value} {ls : List (Option Value)} {st : List Value} {r : Option Value ⊕ String}
theorem W_after {a : Array Value} (hr : va_Run p (gl G) e R s m args below meth c H locs cells slots mc ms (F0 m pc A st0) rest (QC G v σ1 a) (fr G)) (hS : va_S (fr G) s.heap H locs) (kk : ∀ (H1 : Heap) (locs1 : List Loc), Rp G σ1 s H1 → va_S (fr G) s.heap H1 locs1 → W p (gl G) e R s m args below meth c H1 locs1 (cells + mc) (slots + ms) Q (F0 m (pc + 3) A ((v.map (eV G)).toList ++ rest))) : W p (gl G) e R s m args below meth c H locs cells slots Q (F0 m pc A st0) := by
  intro T hT X
  obtain ⟨w, st₀, t, T', L, h0, X', hL, e1, e2, ⟨hv, hP, hz, hk⟩, hst⟩ := hr T hT X
  cases hv
  rw [h0] at hz hk
  obtain ⟨t2, a1, b1⟩ := kk T'.heap (locs ++ L) (by rw [e1]; exact hP.moved (by rw [← e2]; exact X'.warmed.alike.symm))
    ⟨Nat.le_trans hS.1 (by rw [e1]; exact hz), fun q h1 h2 => by rw [e1, hk q (Nat.lt_of_lt_of_le h1 hS.1) h2]; exact hS.2.1 q h1 h2, fun q hq => by
      rcases List.mem_append.mp hq with h | h
      · exact hS.2.2 q h
      · exact hL q h⟩ T' rfl X'
  exact ⟨t2, hst t2 a1, b1⟩
theorem cat8 (h : (st.map fun v => v.category).sum ≤ 8) : ((st.map (eV G)).map fun v => v.category).sum ≤ 8 := by
  rw [List.map_map]
  have : ((fun v : Value => v.category) ∘ eV G) = (fun v : Value => v.category) := funext fun v => eV_cat G v
  rw [this]; exact h
theorem Pcc_here {as : List Value} (C : CX G M p R s m args meth c) (P : Rp G σ s H) (S : va_S (fr G) s.heap H locs) : ∀ U : State, U.heap = H → s.WarmedH U.vm → Pcc G as σ (as.map (eV G)).toArray U :=
  fun U hU hW => ⟨rfl, by rw [hU]; exact P.moved hW.alike, by rw [hU]; exact KN.warm hW (fun a h1 h2 => S.2.1 a h1 h2) C.2.2.2.2.2.2.2.2.1⟩
theorem RN_callV {idx b ci n : Nat} {as : List Value} (k : MT G M2 (.ref b :: as) σ v σ1) (hd : decode (mC M) pc = .ok (.invokevirtual idx, 3)) (hlk : lkV (mOwn M) idx M2 n) (hn : as.length = n) (hci : ci < 12 ∧ ∀ q : vw_C, vwCl[ci]? = some q → q.1 = (mY M2).cls) (ho : okO σ b ci) (hw : (st.map fun v => v.category).sum ≤ 8) (hR : mFr M2 + 1 ≤ mFr M ∧ 8 + (mL M2 + 11) + mLo M2 ≤ mLo M) {stk : List Value} (hs : stk = as.reverse ++ .ref b :: st) (h : RN G M (pc + 3) ls (v.toList ++ st) σ1 r σ') : RN G M pc ls stk σ r σ' := by
  subst hs
  obtain ⟨g1, g2⟩ := id k.1
  obtain ⟨g3, g4⟩ := id h.1
  refine ⟨by omega, fun p e R s m args below meth c H locs cells slots A C P S L h1 h2 => ?_⟩
  obtain ⟨hx, hb, hml, -, -, hown, hnm, hts, hKN, hfr, hlo⟩ := id C
  obtain ⟨⟨l1, l2, l3, l4, l5, l6⟩, l7, l8⟩ := hlk
  obtain ⟨q, hq, cell, q1, q2, q3, -⟩ := (P.2.2.2 b ho.1 ho.2.1).2.2.2.2.2 ci hci.1 ho.2.2
  have hrun := va_runV (As := as.map (eV G)) (rest := st.map (eV G)) (g := F0 m pc A ((as.reverse ++ .ref b :: st).map (eV G))) (locs := locs) (cells := cells) (slots := slots) (below := below) (meth := meth) (e := e) (b := ad G b) ⟨hx, hb, hml, hown, hts⟩ k.2
    (cw := ⟨callB_of n hts (good_mW l1) rfl rfl rfl (hts _ l2) (hts _ l3) ⟨l4, l5, l6⟩ ⟨by show mFr M2 + 1 ≤ R.frames; omega, by show 8 + (mL M2 + 11) + mLo M2 ≤ R.locals; omega⟩, hts _ l7, hts _ l8⟩)
    (hp := ⟨Pcc_blind, ⟨cell, q1, by rw [q3]; rfl, by rw [← hci.2 q hq, q2]; exact (hKN.1.1 ci q hq).2.1⟩, Pcc_here (as := .ref b :: as) C P S⟩)
    rfl (by rw [List.length_map]; exact hn) L.1 (by simp [eV]) (lv_room (cat8 hw)) hd ⟨by omega, by omega⟩
  refine W_after hrun S (fun H1 locs1 P1 S1 => ?_)
  have hW := h.2 p e R s m args below meth c H1 locs1 (cells + (sN σ1 - sN σ)) (slots + (sZ σ1 - sZ σ)) A C P1 S1 L (by omega) (by omega)
  rw [show cells + (sN σ1 - sN σ) + (sN σ' - sN σ1) = cells + (sN σ' - sN σ) by omega, show slots + (sZ σ1 - sZ σ) + (sZ σ' - sZ σ1) = slots + (sZ σ' - sZ σ) by omega] at hW
  have e9 : (v.toList ++ st).map (eV G) = (v.map (eV G)).toList ++ st.map (eV G) := by cases v <;> rfl
  rw [e9] at hW
  exact hW
theorem RN_callS {idx n : Nat} {as : List Value} (k : MT G M2 as σ v σ1) (hd : decode (mC M) pc = .ok (.invokestatic idx, 3)) (hlk : lkS (mOwn M) idx M2 n) (hn : as.length = n) (hw : (st.map fun v => v.category).sum ≤ 8) (hR : mFr M2 + 1 ≤ mFr M ∧ 8 + (mL M2 + 11) + mLo M2 ≤ mLo M) {stk : List Value} (hs : stk = as.reverse ++ st) (h : RN G M (pc + 3) ls (v.toList ++ st) σ1 r σ') : RN G M pc ls stk σ r σ' := by
  subst hs
  obtain ⟨g1, g2⟩ := id k.1
  obtain ⟨g3, g4⟩ := id h.1
  refine ⟨by omega, fun p e R s m args below meth c H locs cells slots A C P S L h1 h2 => ?_⟩
  obtain ⟨hx, hb, hml, -, -, hown, hnm, hts, hKN, hfr, hlo⟩ := id C
  obtain ⟨⟨l1, l2, l3, l4, l5, l6⟩, l7⟩ := hlk
  have hrun := va_runS (As := as.map (eV G)) (rest := st.map (eV G)) (g := F0 m pc A ((as.reverse ++ st).map (eV G))) (locs := locs) (cells := cells) (slots := slots) (below := below) (meth := meth) (e := e) (H := H) ⟨hx, hb, hml, hown, hts⟩ k.2
    (cw := ⟨callB_of n hts (good_mW l1) rfl rfl rfl (hts _ l2) (hts _ l3) ⟨l4, l5, l6⟩ ⟨by show mFr M2 + 1 ≤ R.frames; omega, by show 8 + (mL M2 + 11) + mLo M2 ≤ R.locals; omega⟩, hts _ l7⟩)
    (hp := ⟨Pcc_blind, Pcc_here (as := as) C P S⟩)
    rfl (by rw [List.length_map]; exact hn) L.1 (by simp) (lv_room (cat8 hw)) hd ⟨by omega, by omega⟩
  refine W_after hrun S (fun H1 locs1 P1 S1 => ?_)
  have hW := h.2 p e R s m args below meth c H1 locs1 (cells + (sN σ1 - sN σ)) (slots + (sZ σ1 - sZ σ)) A C P1 S1 L (by omega) (by omega)
  rw [show cells + (sN σ1 - sN σ) + (sN σ' - sN σ1) = cells + (sN σ' - sN σ) by omega, show slots + (sZ σ1 - sZ σ) + (sZ σ' - sZ σ1) = slots + (sZ σ' - sZ σ) by omega] at hW
  have e9 : (v.toList ++ st).map (eV G) = (v.map (eV G)).toList ++ st.map (eV G) := by cases v <;> rfl
  rw [e9] at hW
  exact hW
theorem RN_callI {idx b n : Nat} {as : List Value} (k : MT G M2 (.ref b :: as) σ none σ1) (hd : decode (mC M) pc = .ok (.invokespecial idx, 3)) (hlk : lkI (mOwn M) idx M2 n) (hn : as.length = n) (hw : (st.map fun v => v.category).sum ≤ 8) (hR : mFr M2 + 1 ≤ mFr M ∧ 8 + (mL M2 + 11) + mLo M2 ≤ mLo M) {stk : List Value} (hs : stk = as.reverse ++ .ref b :: st) (h : RN G M (pc + 3) ls st σ1 r σ') : RN G M pc ls stk σ r σ' := by
  subst hs
  obtain ⟨g1, g2⟩ := id k.1
  obtain ⟨g3, g4⟩ := id h.1
  refine ⟨by omega, fun p e R s m args below meth c H locs cells slots A C P S L h1 h2 => ?_⟩
  obtain ⟨hx, hb, hml, -, -, hown, hnm, hts, hKN, hfr, hlo⟩ := id C
  obtain ⟨⟨l1, l2, l3, l4, l5, l6⟩, l7, l8, l9⟩ := hlk
  have hrun := va_runI (As := as.map (eV G)) (rest := st.map (eV G)) (g := F0 m pc A ((as.reverse ++ .ref b :: st).map (eV G))) (locs := locs) (cells := cells) (slots := slots) (below := below) (meth := meth) (e := e) (b := ad G b) (H := H) ⟨hx, hb, hml, hown, hts⟩ k.2
    (cw := ⟨callB_of n hts (good_mW l1) (by rw [← l9]; rfl) rfl rfl (hts _ l2) (hts _ l3) ⟨l4, l5, l6⟩ ⟨by show mFr M2 + 1 ≤ R.frames; omega, by show 8 + (mL M2 + 11) + mLo M2 ≤ R.locals; omega⟩, l7, hts _ l8⟩)
    (hp := ⟨Pcc_blind, Pcc_here (as := .ref b :: as) C P S⟩)
    rfl (by rw [List.length_map]; exact hn) L.1 (by simp [eV]) (lv_room (cat8 hw)) hd ⟨by omega, by omega⟩
  refine W_after hrun S (fun H1 locs1 P1 S1 => ?_)
  have hW := h.2 p e R s m args below meth c H1 locs1 (cells + (sN σ1 - sN σ)) (slots + (sZ σ1 - sZ σ)) A C P1 S1 L (by omega) (by omega)
  rw [show cells + (sN σ1 - sN σ) + (sN σ' - sN σ1) = cells + (sN σ' - sN σ) by omega, show slots + (sZ σ1 - sZ σ) + (sZ σ' - sZ σ1) = slots + (sZ σ' - sZ σ) by omega] at hW
  exact hW
theorem RN_callN {idx b n : Nat} {host : String} {as : List Value} (k : MT G M2 (.ref b :: as) σ none σ1) (hd : decode (mC M) pc = .ok (.invokespecial idx, 3)) (hlk : lkN (mOwn M) idx host M2 n) (hn : as.length = n) (hw : (st.map fun v => v.category).sum ≤ 8) (hR : mFr M2 + 1 ≤ mFr M ∧ 8 + (mL M2 + 11) + mLo M2 ≤ mLo M) {stk : List Value} (hs : stk = as.reverse ++ .ref b :: st) (h : RN G M (pc + 3) ls st σ1 r σ') : RN G M pc ls stk σ r σ' := by
  subst hs
  obtain ⟨g1, g2⟩ := id k.1
  obtain ⟨g3, g4⟩ := id h.1
  refine ⟨by omega, fun p e R s m args below meth c H locs cells slots A C P S L h1 h2 => ?_⟩
  obtain ⟨hx, hb, hml, -, -, hown, hnm, hts, hKN, hfr, hlo⟩ := id C
  obtain ⟨l1, l2, l3, l4, l7, l8, l9⟩ := hlk
  have hrun := va_runIN (As := as.map (eV G)) (rest := st.map (eV G)) (g := F0 m pc A ((as.reverse ++ .ref b :: st).map (eV G))) (locs := locs) (cells := cells) (slots := slots) (below := below) (meth := meth) (e := e) (b := ad G b) (H := H) ⟨hx, hb, hml, hown, hts⟩ k.2
    (cw := ⟨va_cnB n hts (good_mW l1) (by rw [← l9]; rfl) rfl rfl (hKN.2.1 _ l3) (hts _ l2) l4 ⟨by show mFr M2 + 1 ≤ R.frames; omega, by show 8 + (mL M2 + 11) + mLo M2 ≤ R.locals; omega⟩, l7, hts _ l8⟩)
    (hp := ⟨Pcc_blind, Pcc_here (as := .ref b :: as) C P S⟩)
    rfl (by rw [List.length_map]; exact hn) L.1 (by simp [eV]) (lv_room (cat8 hw)) hd ⟨by omega, by omega⟩
  refine W_after hrun S (fun H1 locs1 P1 S1 => ?_)
  have hW := h.2 p e R s m args below meth c H1 locs1 (cells + (sN σ1 - sN σ)) (slots + (sZ σ1 - sZ σ)) A C P1 S1 L (by omega) (by omega)
  rw [show cells + (sN σ1 - sN σ) + (sN σ' - sN σ1) = cells + (sN σ' - sN σ) by omega, show slots + (sZ σ1 - sZ σ) + (sZ σ' - sZ σ1) = slots + (sZ σ' - sZ σ) by omega] at hW
  exact hW
end CALLS
