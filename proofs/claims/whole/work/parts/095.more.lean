theorem mem_TS {w : Cond} (i : Nat) (h : (k2_sels lw_privs)[i]? = some w) (g : goodWord w = true) : w ∈ TB := List.mem_filter.mpr ⟨List.mem_append_left _ (List.mem_of_getElem? h), g⟩
theorem mem_T1 {w : Cond} (i : Nat) (h : tables_1_1[i]? = some w) (g : goodWord w = true) : w ∈ TB := List.mem_filter.mpr ⟨List.mem_append_right _ (List.mem_append_left _ (List.mem_of_getElem? h)), g⟩
theorem mem_T2 {w : Cond} (i : Nat) (h : tables_1_2[i]? = some w) (g : goodWord w = true) : w ∈ TB := List.mem_filter.mpr ⟨List.mem_append_right _ (List.mem_append_right _ (List.mem_append_left _ (List.mem_of_getElem? h))), g⟩
theorem mem_T3 {w : Cond} (i : Nat) (h : tables_1_3[i]? = some w) (g : goodWord w = true) : w ∈ TB := List.mem_filter.mpr ⟨List.mem_append_right _ (List.mem_append_right _ (List.mem_append_right _ (List.mem_append_left _ (List.mem_of_getElem? h)))), g⟩
theorem mem_T4 {w : Cond} (i : Nat) (h : tables_1_4[i]? = some w) (g : goodWord w = true) : w ∈ TB := List.mem_filter.mpr ⟨List.mem_append_right _ (List.mem_append_right _ (List.mem_append_right _ (List.mem_append_right _ (List.mem_append_left _ (List.mem_of_getElem? h))))), g⟩
theorem mem_T5 {w : Cond} (i : Nat) (h : tables_1_5[i]? = some w) (g : goodWord w = true) : w ∈ TB := List.mem_filter.mpr ⟨List.mem_append_right _ (List.mem_append_right _ (List.mem_append_right _ (List.mem_append_right _ (List.mem_append_right _ (List.mem_append_left _ (List.mem_of_getElem? h)))))), g⟩
theorem mem_T6 {w : Cond} (i : Nat) (h : tables_1_6[i]? = some w) (g : goodWord w = true) : w ∈ TB := List.mem_filter.mpr ⟨List.mem_append_right _ (List.mem_append_right _ (List.mem_append_right _ (List.mem_append_right _ (List.mem_append_right _ (List.mem_append_right _ (List.mem_append_left _ (List.mem_of_getElem? h))))))), g⟩
theorem mem_T7 {w : Cond} (i : Nat) (h : tables_1_7[i]? = some w) (g : goodWord w = true) : w ∈ TB := List.mem_filter.mpr ⟨List.mem_append_right _ (List.mem_append_right _ (List.mem_append_right _ (List.mem_append_right _ (List.mem_append_right _ (List.mem_append_right _ (List.mem_append_right _ (List.mem_of_getElem? h))))))), g⟩
theorem mem_N {w : Cond} (h : w ∈ lw_tbl) (g : isNest w = true) : w ∈ NB := List.mem_filter.mpr ⟨h, g⟩
theorem mem_N1 {w : Cond} (i : Nat) (h : tables_1_1[i]? = some w) (g : isNest w = true) : w ∈ NB := List.mem_filter.mpr ⟨List.mem_append_right _ (List.mem_append_left _ (List.mem_of_getElem? h)), g⟩
theorem mem_N2 {w : Cond} (i : Nat) (h : tables_1_2[i]? = some w) (g : isNest w = true) : w ∈ NB := List.mem_filter.mpr ⟨List.mem_append_right _ (List.mem_append_right _ (List.mem_append_left _ (List.mem_of_getElem? h))), g⟩
theorem mem_N3 {w : Cond} (i : Nat) (h : tables_1_3[i]? = some w) (g : isNest w = true) : w ∈ NB := List.mem_filter.mpr ⟨List.mem_append_right _ (List.mem_append_right _ (List.mem_append_right _ (List.mem_append_left _ (List.mem_of_getElem? h)))), g⟩
theorem MT_ofF {G : Gl} {M : Md} {av : List Value} {σ σ' : Sg} {v : Option Value} (hy : plainFor (mY M) = true) (ho : mOwn M = (mY M).cls) (hl : (lvA av).length ≤ mL M) (h : RN G M 0 (lvA av) [] σ (.inl v) σ') (hT : mT M = [] := by rfl) : MT G M av σ v σ' := by
  refine ⟨h.1, va_MetF (cc := mC M) (maxL := mL M) (ret := mRet M) hy rfl ?_⟩
  intro p e s m args below meth c s₁ B hml hv
  obtain ⟨rfl, hP, hK⟩ := hv
  have hts0 := atoms_spec (ws := mW M) B.pre
  have hts : ∀ w ∈ TB, w.before (av.map (eV G)).toArray s = true := fun w hw => hts0 w (List.mem_cons_of_mem _ hw)
  have hown : s.vm.findClass (mOwn M) = some m.cls := by rw [ho]; exact findClass_of_methodNamed B.named
  have C : CX G M p (mRm M (sN σ' - sN σ) (sZ σ' - sZ σ)) s m (av.map (eV G)).toArray meth c :=
    ⟨B.exec, B.bytes, hml, B.returns, ⟨B.notSynchronized, no_table B (hts0 _ List.mem_cons_self) hT⟩, hown, (name_of_methodNamed B.named B.method).1, hts, hK, Nat.le_refl _, Nat.le_refl _⟩
  rw [lg_entry_eq]
  have hL := lv_entry (av.map (eV G)) (n := mL M) (by rw [len_lvA]; exact hl)
  rw [← asc_lvA av 0] at hL
  have hW := h.2 p e (mRm M (sN σ' - sN σ) (sZ σ' - sZ σ)) s m _ below meth c s.heap [] 0 0 _ C hP va_S.rf hL (by rw [Nat.zero_add]; exact Nat.le_refl _) (by rw [Nat.zero_add]; exact Nat.le_refl _)
  rw [Nat.zero_add, Nat.zero_add] at hW
  exact hW
abbrev okC (σ : Sg) (t a0 : Nat) (sp : Int32) (a1 : Nat) (dp n : Int32) : Prop := (4 ≤ a0 ∧ a0 < sN σ ∧ (sK σ a0).1 = t) ∧ (4 ≤ a1 ∧ a1 < sN σ ∧ (sK σ a1).1 = t) ∧ (¬ sp < 0 ∧ ¬ dp < 0 ∧ ¬ n < 0) ∧ sp.toNatClampNeg + n.toNatClampNeg ≤ (sK σ a0).2 ∧ dp.toNatClampNeg + n.toNatClampNeg ≤ (sK σ a1).2
def cpI (σ : Sg) (a0 sp a1 dp n : Nat) : Sg := (σ.1, (fun a k => if a = a1 ∧ dp ≤ k ∧ k < dp + n then σ.2.1 a0 (sp + (k - dp)) else σ.2.1 a k), σ.2.2)
def cpJ (σ : Sg) (a0 sp a1 dp n : Nat) : Sg := (σ.1, σ.2.1, (fun a k => if a = a1 ∧ dp ≤ k ∧ k < dp + n then σ.2.2.1 a0 (sp + (k - dp)) else σ.2.2.1 a k), σ.2.2.2)
section MORE
variable {G : Gl} {M : Md} {p : Program} {e : Env} {R : Room} {s : State} {m : MethodId} {args : Array Value} {below : List Frame} {meth : Method} {c : Code} {H : Heap} {locs : List Loc} {cells slots : Nat} {A : Array Slot} {Q : State → Prop} {pc : Nat} {rest : List Value}
theorem W_copy {l : Launch} {cc : ByteArray} (hexec : p.tables.exec = Jvm.exec) (hb : c.code = cc) (hml : c.maxLocals = A.size) {own : String} {index : Nat} (hown : s.vm.findClass own = some m.cls) (hlink : (Cond.methodLink own index arraycopyName).before args s = true) (hnat : (Cond.native arraycopyName).before args s = true) (hstat : (Cond.static arraycopyName).before args s = true) (hini : (Cond.initialized "java/lang/System").before args s = true)
    {a0 a1 : Nat} {cA : ClassId} {n0 n1 : Nat} {f g : Nat → Value} {ty : FieldType} (hAr : ArrOfT s cA ty) (ha0 : H[a0]? = some (arrV cA n0 f)) (ha1 : H[a1]? = some (arrV cA n1 g)) (hprim : refKind ty = false)
    {sp dp n : Int32} (h1 : ¬ sp < 0) (h2 : ¬ dp < 0) (h3 : ¬ n < 0) (h4 : sp.toNatClampNeg + n.toNatClampNeg ≤ n0) (h5 : dp.toNatClampNeg + n.toNatClampNeg ≤ n1) (hfit : ∀ i, fits ty (f i) = true)
    (hframes : 1 ≤ R.frames) (hlocals : (rest.map fun v => v.category).sum + (nativeFrameWords "java/lang/System" "arraycopy" 5 + 11) ≤ R.locals) (hdg : decode cc pc = .ok (.invokestatic index, 3))
    (kk : ∀ (H1 : Heap) (L : List Loc), H1[a1]? = some (arrV cA n1 (va_cpy f g sp.toNatClampNeg dp.toNatClampNeg n.toNatClampNeg)) → H1.size = H.size → (∀ q : Nat, q ≠ a1 → H1[q]? = H[q]?) → (∀ q ∈ L, q.base = a1) → W p l e R s m args below meth c H1 (locs ++ L) cells slots Q (F0 m (pc + 3) A rest)) : W p l e R s m args below meth c H locs cells slots Q (F0 m pc A (.int n :: .int dp :: .ref a1 :: .int sp :: .ref a0 :: rest)) := by
  have nn : ∀ z : Int32, ¬ z < 0 → z.toInt = (z.toNatClampNeg : Int) := by
    intro z hz
    have hz0 : (0 : Int) ≤ z.toInt := by
      have := Int32.not_lt.mp hz
      simpa using Int32.le_iff_toInt_le.mp this
    show z.toInt = ((z.toInt.toNat : Nat) : Int)
    omega
  intro T hT X
  obtain ⟨-, k0, hk0, cm0, hkk0⟩ := hAr n0 f
  obtain ⟨-, k1, hk1, cm1, hkk1⟩ := hAr n1 g
  have hfn : ∀ v : Value, fits ty v = true → v.isRef = false ∨ True := fun _ _ => Or.inr trivial
  obtain ⟨vm', X', step⟩ := X.arraycopy hexec hown hlink hnat hstat hini (src := a0) (dst := a1) (cs := arrV cA n0 f) (cd := arrV cA n1 g) (srcPos := sp) (destPos := dp) (n := n) (by rw [hT]; exact ha0) (by rw [hT]; exact ha1)
    (fun _ h => by cases h) (fun _ h => by cases h) (fun h => by cases h) (fun h => by cases h) hk0 hk1 hkk0 hkk1 (by simp [hprim]) h1 h2 h3
    (by rw [nn sp h1, nn n h3, arrV_size]; omega)
    (by rw [nn dp h2, nn n h3, arrV_size]; omega)
    (fun vm₁ _ i hi => by
      have e : (arrV cA n0 f).slots.getD (sp.toNatClampNeg + i) .null = f (sp.toNatClampNeg + i) := by
        rw [Array.getD_eq_getD_getElem?, arrV_read _ _ (by omega)]
        rfl
      rw [e]
      refine ⟨hfit _, ?_⟩
      have hz := hfit (sp.toNatClampNeg + i)
      cases hv : f (sp.toNatClampNeg + i) with
      | ref x => rw [hv] at hz; cases ty <;> simp [fits, refKind] at hz hprim
      | _ => exact trivial)
    (g := F0 m pc A (.int n :: .int dp :: .ref a1 :: .int sp :: .ref a0 :: rest)) rfl (by rw [hml]) (rest := rest) rfl (by rw [hb]; exact hdg) hframes (by show 2 * 0 + _ + _ ≤ _; omega)
  have e1 : copied (arrV cA n0 f) (arrV cA n1 g) sp dp n = arrV cA n1 (va_cpy f g sp.toNatClampNeg dp.toNatClampNeg n.toNatClampNeg) := va_copied (fun z => z) cA cA f g h4
  rw [e1] at X' step
  have hl : a1 < H.size := (Array.getElem?_eq_some_iff.mp ha1).1
  have hheap : ((T.setVm vm').setCell a1 (arrV cA n1 (va_cpy f g sp.toNatClampNeg dp.toNatClampNeg n.toNatClampNeg))).heap = H.setIfInBounds a1 (arrV cA n1 (va_cpy f g sp.toNatClampNeg dp.toNatClampNeg n.toNatClampNeg)) := by rw [← hT]; rfl
  obtain ⟨t, b1, b2⟩ := kk _ _ (by simp [Array.getElem?_setIfInBounds, hl]) (by simp) (fun q hq => by simp [Array.getElem?_setIfInBounds, Ne.symm hq]) (fun q hq => by
      obtain ⟨z, -, hz⟩ := List.mem_map.mp hq
      rw [← hz]) _ hheap X'
  exact ⟨t, step t b1, b2⟩
end MORE
section MORE2
variable {G : Gl} {M : Md} {pc : Nat} {ls ls2 : List (Option Value)} {st : List Value} {σ σ' : Sg} {r : Option Value ⊕ String}
theorem RN_copyI {idx a0 a1 : Nat} {sp dp n : Int32} (hd : decode (mC M) pc = .ok (.invokestatic idx, 3)) (w1 : Cond.methodLink (mOwn M) idx arraycopyName ∈ TB) (w2 : Cond.native arraycopyName ∈ TB) (w3 : Cond.static arraycopyName ∈ TB) (w4 : Cond.initialized "java/lang/System" ∈ TB) (hf : 1 ≤ mFr M) (hl : 40 ≤ mLo M) (hw : (st.map fun v => v.category).sum ≤ 8) (ho : okC σ 13 a0 sp a1 dp n) (h : RN G M (pc + 3) ls st (cpI σ a0 sp.toNatClampNeg a1 dp.toNatClampNeg n.toNatClampNeg) r σ') : RN G M pc ls (.int n :: .int dp :: .ref a1 :: .int sp :: .ref a0 :: st) σ r σ' :=
  ⟨h.1, fun p e R s m args below meth c H locs cells slots A C P S L h1 h2 => by
    obtain ⟨hx, hb, hml, -, -, hown, hnm, hts, hKN, hfr, hlo⟩ := id C
    obtain ⟨o1, o2, ⟨o3, o4, o5⟩, o6, o7⟩ := ho
    have hw2 := cat8 (G := G) hw
    have c0 := (P.2.2.2 a0 o1.1 o1.2.1).2.1 o1.2.2
    have c1 := (P.2.2.2 a1 o2.1 o2.2.1).2.1 o2.2.2
    have hfa : fr G (ad G a1) := by rw [ad_new o2.1]; exact Nat.le_add_right _ _
    have hnw : nativeFrameWords "java/lang/System" "arraycopy" 5 ≤ 20 := by decide
    have hA : 1 ≤ R.frames := by omega
    have hB : ((st.map (eV G)).map fun v => v.category).sum + (nativeFrameWords "java/lang/System" "arraycopy" 5 + 11) ≤ R.locals := by omega
    refine W_copy hx hb (hml.trans L.1.symm) hown (hts _ w1) (hts _ w2) (hts _ w3) (hts _ w4) (hKN.1.2 1 _ rfl).1 c0 c1 rfl o3 o4 o5 o6 o7 (fun _ => rfl) hA hB hd (fun H1 L1 e1 e2 e3 e4 => ?_)
    refine h.2 p e R s m args below meth c H1 _ cells slots A C ?_ ⟨by rw [e2]; exact S.1, fun q g1 g2 => (e3 q (fun z => g2 (by rw [z]; exact hfa))).trans (S.2.1 q g1 g2), fun q hq => ?_⟩ L h1 h2
    · refine P.upd (σ1 := cpI σ a0 sp.toNatClampNeg a1 dp.toNatClampNeg n.toNatClampNeg) o2.1 rfl (fun _ => rfl) (fun b j hb => if_neg (fun z => hb z.1)) (fun b j hb => rfl) (fun b j hb => rfl) (fun b j hb => rfl) e2 e3 ⟨fun q => absurd (o2.2.2.symm.trans q) (by decide), fun _ => ?_, fun q => absurd (o2.2.2.symm.trans q) (by decide), fun q => absurd (o2.2.2.symm.trans q) (by decide), fun t b1 b2 q => absurd (o2.2.2.symm.trans q) (by omega), fun c b1 q => absurd (o2.2.2.symm.trans q) (by omega)⟩
      rw [e1]
      congr 2
      funext k
      by_cases hk : dp.toNatClampNeg ≤ k ∧ k < dp.toNatClampNeg + n.toNatClampNeg
      · simp only [va_cpy, if_pos hk]
        exact congrArg Value.int (if_pos ⟨rfl, hk⟩).symm
      · simp only [va_cpy, if_neg hk]
        exact congrArg Value.int (if_neg (fun z => hk z.2)).symm
    · rcases List.mem_append.mp hq with h | h
      · exact S.2.2 q h
      · rw [e4 q h]; exact hfa⟩
theorem RN_copyJ {idx a0 a1 : Nat} {sp dp n : Int32} (hd : decode (mC M) pc = .ok (.invokestatic idx, 3)) (w1 : Cond.methodLink (mOwn M) idx arraycopyName ∈ TB) (w2 : Cond.native arraycopyName ∈ TB) (w3 : Cond.static arraycopyName ∈ TB) (w4 : Cond.initialized "java/lang/System" ∈ TB) (hf : 1 ≤ mFr M) (hl : 40 ≤ mLo M) (hw : (st.map fun v => v.category).sum ≤ 8) (ho : okC σ 14 a0 sp a1 dp n) (h : RN G M (pc + 3) ls st (cpJ σ a0 sp.toNatClampNeg a1 dp.toNatClampNeg n.toNatClampNeg) r σ') : RN G M pc ls (.int n :: .int dp :: .ref a1 :: .int sp :: .ref a0 :: st) σ r σ' :=
  ⟨h.1, fun p e R s m args below meth c H locs cells slots A C P S L h1 h2 => by
    obtain ⟨hx, hb, hml, -, -, hown, hnm, hts, hKN, hfr, hlo⟩ := id C
    obtain ⟨o1, o2, ⟨o3, o4, o5⟩, o6, o7⟩ := ho
    have hw2 := cat8 (G := G) hw
    have c0 := (P.2.2.2 a0 o1.1 o1.2.1).2.2.1 o1.2.2
    have c1 := (P.2.2.2 a1 o2.1 o2.2.1).2.2.1 o2.2.2
    have hfa : fr G (ad G a1) := by rw [ad_new o2.1]; exact Nat.le_add_right _ _
    have hnw : nativeFrameWords "java/lang/System" "arraycopy" 5 ≤ 20 := by decide
    have hA : 1 ≤ R.frames := by omega
    have hB : ((st.map (eV G)).map fun v => v.category).sum + (nativeFrameWords "java/lang/System" "arraycopy" 5 + 11) ≤ R.locals := by omega
    refine W_copy hx hb (hml.trans L.1.symm) hown (hts _ w1) (hts _ w2) (hts _ w3) (hts _ w4) (hKN.1.2 2 _ rfl).1 c0 c1 rfl o3 o4 o5 o6 o7 (fun _ => rfl) hA hB hd (fun H1 L1 e1 e2 e3 e4 => ?_)
    refine h.2 p e R s m args below meth c H1 _ cells slots A C ?_ ⟨by rw [e2]; exact S.1, fun q g1 g2 => (e3 q (fun z => g2 (by rw [z]; exact hfa))).trans (S.2.1 q g1 g2), fun q hq => ?_⟩ L h1 h2
    · refine P.upd (σ1 := cpJ σ a0 sp.toNatClampNeg a1 dp.toNatClampNeg n.toNatClampNeg) o2.1 rfl (fun _ => rfl) (fun b j hb => rfl) (fun b j hb => if_neg (fun z => hb z.1)) (fun b j hb => rfl) (fun b j hb => rfl) e2 e3 ⟨fun q => absurd (o2.2.2.symm.trans q) (by decide), fun q => absurd (o2.2.2.symm.trans q) (by decide), fun _ => ?_, fun q => absurd (o2.2.2.symm.trans q) (by decide), fun t b1 b2 q => absurd (o2.2.2.symm.trans q) (by omega), fun c b1 q => absurd (o2.2.2.symm.trans q) (by omega)⟩
      rw [e1]
      congr 2
      funext k
      by_cases hk : dp.toNatClampNeg ≤ k ∧ k < dp.toNatClampNeg + n.toNatClampNeg
      · simp only [va_cpy, if_pos hk]
        exact congrArg Value.long (if_pos ⟨rfl, hk⟩).symm
      · simp only [va_cpy, if_neg hk]
        exact congrArg Value.long (if_neg (fun z => hk z.2)).symm
    · rcases List.mem_append.mp hq with h | h
      · exact S.2.2 q h
      · rw [e4 q h]; exact hfa⟩
abbrev okL (σ : Sg) (a : Nat) : Prop := a < 4
theorem RN_alen {a : Nat} (hd : decode (mC M) pc = .ok (.arraylength, 1)) (ho : okL σ a) (h : RN G M (pc + 1) ls (.int (Int32.ofNat (sK σ a).2) :: st) σ r σ') : RN G M pc ls (.ref a :: st) σ r σ' :=
  ⟨h.1, fun p e R s m args below meth c H locs cells slots A C P S L h1 h2 => by
    obtain ⟨cell, e1, e2, e3, e5, e6, e7, e8⟩ := (P.2.2.1 a ho).2
    exact W.alen (n := Int32.ofNat (sK σ a).2) (a := ad G a) C.1 C.2.1 (by rw [show ad G a = gO G a from if_pos ho]; exact e1) e2 e6 rfl rfl hd (h.2 p e R s m args below meth c H locs cells slots A C P S L h1 h2)⟩
def nwM (σ : Sg) : Sg := ((sN σ + 5, sZ σ + 36, fun a => if a = sN σ then (18, 4) else if sN σ < a ∧ a ≤ sN σ + 4 then (13, 8) else sK σ a), (fun a k => if sN σ ≤ a ∧ a ≤ sN σ + 4 then 0 else gI σ a k), (fun a k => if sN σ ≤ a ∧ a ≤ sN σ + 4 then 0 else gJ σ a k), (fun a k => if sN σ ≤ a ∧ a ≤ sN σ + 4 then 0 else gD σ a k), (fun a k => if a = sN σ then (if k < 4 then sN σ + 1 + k else 0) else if sN σ < a ∧ a ≤ sN σ + 4 then 0 else gR σ a k))
theorem RN_mna {idx : Nat} (hd : decode (mC M) pc = .ok (.multianewarray idx 2, 4)) (hw : Cond.classLink (mOwn M) idx "[[I" ∈ TB) (hw2 : Cond.arrayClass .int ∈ TB) (h : RN G M (pc + 4) ls (.ref (sN σ) :: st) (nwM σ) r σ') : RN G M pc ls (.int 8 :: .int 4 :: st) σ r σ' := by
  have e1 : sN (nwM σ) = sN σ + 5 := rfl
  have e2 : sZ (nwM σ) = sZ σ + 36 := rfl
  have hg := h.1
  refine ⟨by omega, fun p e R s m args below meth c H locs cells slots A C P S L h1 h2 => ?_⟩
  obtain ⟨hx, hb, -, -, -, hown, hnm, hts, hKN, -⟩ := id C
  intro T hT Xs
  have hcy : s.vm.findClass (FieldType.array .int).toString = some (gT G 13) := (hKN.1.2 1 _ rfl).2
  have hRA : s.vm.findClass ("[" ++ (FieldType.array .int).toString) = some (gT G 18) := (hKN.1.2 6 _ rfl).2
  have hcl : (Cond.classLink (mOwn M) idx ("[" ++ (FieldType.array .int).toString)).before args s = true := hts _ hw
  obtain ⟨vm₁, cA, comp, -, fA, fC, hO, -, X', step⟩ := Xs.multianewarray2F hx hown hcl (va_AOA.use hKN.2.2.1.2.2.1) (hts _ hw2) (g := F0 m pc A (.int 8 :: .int 4 :: st.map (eV G))) rfl (by rw [hb]; exact hd) rfl (by decide) (by decide) (by decide) (by decide) (by decide) rfl rfl (by show cells + (1 + 4) ≤ _; omega) (by show slots + (4 + 4 * 8) ≤ _; omega)
  have ec : some (gT G 13) = some comp := hcy.symm.trans fC
  cases ec
  have ec2 : some (gT G 18) = some cA := hRA.symm.trans fA
  cases ec2
  generalize hF : Jvm.Free.Multi.fill (T.setVm vm₁) (gT G 18) (gT G 13) (4 : Int32).toNatClampNeg (8 : Int32).toNatClampNeg (defaultValue .int) (4 : Int32).toNatClampNeg = F at X' step
  have hTh : (T.setVm vm₁).heap = H := hT
  obtain ⟨f1, f2, -, -⟩ := Jvm.Free.Multi.fill_facts (T.setVm vm₁) (gT G 18) (gT G 13) (4 : Int32).toNatClampNeg (8 : Int32).toNatClampNeg (defaultValue .int) (4 : Int32).toNatClampNeg
  rw [hF, hTh] at f1 f2
  have hold : ∀ x : Nat, x < H.size → F.heap[x]? = H[x]? := fun x hx => by
    have := Jvm.Free.Multi.fill_old (T.setVm vm₁) (gT G 18) (gT G 13) (4 : Int32).toNatClampNeg (8 : Int32).toNatClampNeg (defaultValue .int) (a := x) (by rw [hTh]; exact hx) (4 : Int32).toNatClampNeg
    rw [hF, hTh] at this
    exact this
  have hrow : ∀ j : Nat, j < 4 → F.heap[H.size + 1 + j]? = some (arrV (gT G 13) 8 (fun _ => .int 0)) := fun j hj => by
    have := Jvm.Free.Multi.fill_inner (T.setVm vm₁) (gT G 18) (gT G 13) (4 : Int32).toNatClampNeg (8 : Int32).toNatClampNeg (defaultValue .int) (4 : Int32).toNatClampNeg j hj
    rw [hF, hTh] at this
    rw [this, ← arrV_new]
    rfl
  rw [vr_outer] at f2
  have f1' : F.heap.size = H.size + 1 + 4 := f1
  have hN4 := P.2.1
  have hsz := P.1
  have htop := ad_top P
  have hP1 : Rp G (nwM σ) s F.heap := by
    refine ⟨by rw [f1', hsz, e1]; omega, by rw [e1]; omega, fun b hb => ?_, fun b hb hb2 => ?_⟩
    · obtain ⟨g1, g2⟩ := P.2.2.1 b hb
      have hk : sK (nwM σ) b = sK σ b := by
        show (if b = sN σ then (18, 4) else if sN σ < b ∧ b ≤ sN σ + 4 then (13, 8) else sK σ b) = sK σ b
        rw [if_neg (by omega), if_neg (by omega)]
      refine ⟨by rw [hk]; exact g1, ?_⟩
      have ee : (fun j => Value.int (gI (nwM σ) b j)) = (fun j => Value.int (gI σ b j)) := by
        funext j
        exact congrArg Value.int (if_neg (by omega))
      rw [hk, ee]
      exact va_T.kept g2 (fun q hq _ => hold q hq)
    · rw [e1] at hb2
      by_cases c1 : b < sN σ
      · refine cP_congr ?_ (fun k => if_neg (by omega)) (fun k => if_neg (by omega)) (fun k => if_neg (by omega)) (fun k => ?_) (hold _ (by rw [ad_new hb, hsz]; omega)) (P.2.2.2 b hb c1)
        · show (if b = sN σ then (18, 4) else if sN σ < b ∧ b ≤ sN σ + 4 then (13, 8) else sK σ b) = sK σ b
          rw [if_neg (by omega), if_neg (by omega)]
        · show (if b = sN σ then (if k < 4 then sN σ + 1 + k else 0) else if sN σ < b ∧ b ≤ sN σ + 4 then 0 else gR σ b k) = gR σ b k
          rw [if_neg (by omega), if_neg (by omega)]
      · by_cases c2 : b = sN σ
        · subst c2
          have hk : sK (nwM σ) (sN σ) = (18, 4) := if_pos rfl
          refine ⟨fun u => ?_, fun u => ?_, fun u => ?_, fun u => ?_, fun u b1 b2 ee => ?_, fun c' b1 ee => ?_⟩
          · rw [hk] at u; cases u
          · rw [hk] at u; cases u
          · rw [hk] at u; cases u
          · rw [hk] at u; cases u
          · rw [hk] at ee ⊢
            dsimp only at ee ⊢
            subst ee
            rw [htop, f2]
            congr 2
            funext k
            have er : gR (nwM σ) (sN σ) k = if k < 4 then sN σ + 1 + k else 0 := if_pos rfl
            rw [er]
            by_cases hk4 : k < 4
            · have h4' : k < (4 : Int32).toNatClampNeg := hk4
              have e7 : H.size + 1 + k = ad G (sN σ + 1 + k) := by rw [ad_new (by omega), hsz]; omega
              rw [if_pos h4', if_pos hk4, rO_ref (by omega)]
              exact congrArg Value.ref e7
            · have h4' : ¬ k < (4 : Int32).toNatClampNeg := hk4
              rw [if_neg h4', if_neg hk4]
              rfl
          · rw [hk] at ee; dsimp only at ee; omega
        · have hk : sK (nwM σ) b = (13, 8) := by
            show (if b = sN σ then (18, 4) else if sN σ < b ∧ b ≤ sN σ + 4 then (13, 8) else sK σ b) = (13, 8)
            rw [if_neg c2, if_pos (by omega)]
          refine ⟨fun u => ?_, fun u => ?_, fun u => ?_, fun u => ?_, fun u b1 b2 ee => ?_, fun c' b1 ee => ?_⟩
          · rw [hk] at u; cases u
          · rw [hk]
            have := hrow (b - sN σ - 1) (by omega)
            rw [show ad G b = H.size + 1 + (b - sN σ - 1) by rw [ad_new hb, hsz]; omega, this]
            congr 2
            funext k
            exact congrArg Value.int (if_pos (by omega)).symm
          · rw [hk] at u; cases u
          · rw [hk] at u; cases u
          · rw [hk] at ee; dsimp only at ee; omega
          · rw [hk] at ee; dsimp only at ee; omega
  have hW := h.2 p e R s m args below meth c F.heap locs (cells + 1 + 4) (slots + 4 + 4 * 8) A C hP1 ⟨by rw [f1']; have := S.1; omega, fun x g1 g2 => (hold x (Nat.lt_of_lt_of_le g1 S.1)).trans (S.2.1 x g1 g2), S.2.2⟩ L (by omega) (by omega)
  rw [show cells + 1 + 4 + (sN σ' - sN (nwM σ)) = cells + (sN σ' - sN σ) by omega, show slots + 4 + 4 * 8 + (sZ σ' - sZ (nwM σ)) = slots + (sZ σ' - sZ σ) by omega, List.map_cons, eV_new, htop] at hW
  obtain ⟨t, a1, b1⟩ := hW F rfl X'
  refine ⟨t, step t ?_, b1⟩
  have ee : T.heap.size = H.size := by rw [hT]
  rw [ee]
  exact a1
end MORE2
