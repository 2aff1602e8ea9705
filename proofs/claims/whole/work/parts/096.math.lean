theorem tabs_floor {args : Array Value} {s : State} (h : ∀ w ∈ TB, w.before args s = true) : Jvm.Free.Hsc.MFloorA.tab.before args s = true := by
  simp only [Jvm.Free.Hsc.MFloorA.tab, Jvm.Free.Hsc.SFloorA.tab, Jvm.Free.Hsc.FocA.tab, Jvm.Free.Hsc.Foc.tab, Jvm.Free.Hsc.GetExp.tab, Cond.before_and, Bool.and_eq_true]
  exact ⟨h _ (mem_T6 167 rfl rfl), h _ (mem_T1 19 rfl rfl), ⟨h _ (mem_T6 170 rfl rfl), h _ (mem_T6 171 rfl rfl), h _ (mem_T6 172 rfl rfl), h _ (mem_T6 173 rfl rfl), h _ (mem_T1 19 rfl rfl), ⟨⟨h _ (mem_T6 174 rfl rfl), h _ (mem_T6 175 rfl rfl), h _ (mem_T6 176 rfl rfl), h _ (mem_T1 18 rfl rfl), ⟨h _ (mem_T6 177 rfl rfl), h _ (mem_T6 178 rfl rfl), h _ (mem_T6 180 rfl rfl), h _ (mem_T6 179 rfl rfl), h _ (mem_T1 20 rfl rfl), h _ (mem_T6 181 rfl rfl), h _ (mem_T6 182 rfl rfl)⟩, h _ (mem_T6 183 rfl rfl), h _ (mem_T6 185 rfl rfl), h _ (mem_T6 180 rfl rfl), h _ (mem_T6 179 rfl rfl), h _ (mem_T1 20 rfl rfl), h _ (mem_T6 186 rfl rfl)⟩, h _ (mem_T6 187 rfl rfl), h _ (mem_T6 188 rfl rfl), h _ (mem_T6 190 rfl rfl), h _ (mem_T6 189 rfl rfl)⟩⟩⟩
theorem tabs_ceil {args : Array Value} {s : State} (h : ∀ w ∈ TB, w.before args s = true) : Jvm.Free.Hsc.MCeilA.tab.before args s = true := by
  simp only [Jvm.Free.Hsc.MCeilA.tab, Jvm.Free.Hsc.SCeilA.tab, Jvm.Free.Hsc.FocA.tab, Jvm.Free.Hsc.Foc.tab, Jvm.Free.Hsc.GetExp.tab, Cond.before_and, Bool.and_eq_true]
  exact ⟨h _ (mem_T6 193 rfl rfl), h _ (mem_T1 19 rfl rfl), ⟨h _ (mem_T6 196 rfl rfl), h _ (mem_T6 197 rfl rfl), h _ (mem_T6 172 rfl rfl), h _ (mem_T6 173 rfl rfl), h _ (mem_T1 19 rfl rfl), ⟨⟨h _ (mem_T6 174 rfl rfl), h _ (mem_T6 175 rfl rfl), h _ (mem_T6 176 rfl rfl), h _ (mem_T1 18 rfl rfl), ⟨h _ (mem_T6 177 rfl rfl), h _ (mem_T6 178 rfl rfl), h _ (mem_T6 180 rfl rfl), h _ (mem_T6 179 rfl rfl), h _ (mem_T1 20 rfl rfl), h _ (mem_T6 181 rfl rfl), h _ (mem_T6 182 rfl rfl)⟩, h _ (mem_T6 183 rfl rfl), h _ (mem_T6 185 rfl rfl), h _ (mem_T6 180 rfl rfl), h _ (mem_T6 179 rfl rfl), h _ (mem_T1 20 rfl rfl), h _ (mem_T6 186 rfl rfl)⟩, h _ (mem_T6 187 rfl rfl), h _ (mem_T6 188 rfl rfl), h _ (mem_T6 190 rfl rfl), h _ (mem_T6 189 rfl rfl)⟩⟩⟩
theorem va_Z.sis {C n d : String} {v : Value} {A : Nat → Prop} {U : State} (h : va_Z C n d v A U U.heap) : Jvm.Lib.Cold.StaticIs U C n d v := by
  obtain ⟨cf, kf, fi, f, a, cell, h1, h2, h3, h4, h5, h6, h7, h8⟩ := h
  exact ⟨cf, fi, kf, f, a, cell, h1, h2, h3, h4, h5, (fun e => by rw [e] at h6; cases h6), h7⟩
section MATH
variable {G : Gl} {M : Md} {p : Program} {e : Env} {R : Room} {s : State} {m : MethodId} {args : Array Value} {below : List Frame} {meth : Method} {c : Code} {H : Heap} {locs : List Loc} {cells slots : Nat} {A : Array Slot} {Q : State → Prop} {pc : Nat} {σ σ' : Sg} {rest : List Value} {ls : List (Option Value)} {st : List Value} {r : Option Value ⊕ String}
theorem W_pureS {idx : Nat} {y : MethodName} {bytes : ByteArray} {maxL : Nat} {ret : Option FieldType} {Pre : Pt → Array Value → Prop} {Post : Pt → Array Value → Option Value → Pt → Prop} {as : List Value} {w : Value} (C : CX G M p R s m args meth c) (L : LV G (mL M) ls A) (hK : Back (gl G) R p e below s args y 3 8 Pre Post) (w1 : Cond.methodLink (mOwn M) idx y ∈ TB) (w2 : Cond.static y ∈ TB) (w3 : Cond.initialized y.cls ∈ TB) (w4 : Cond.code y bytes maxL ret ∈ TB) (hy : y.cls ≠ "java/lang/invoke/MethodHandle" ∧ y.cls ≠ "java/lang/invoke/VarHandle") {k : Nat} (hk : as.length = k) (hn : (parseMethodDescriptor y.desc).map (fun d => d.parameters.length) = some k) (hw : (rest.map fun v => v.category).sum ≤ 8) (hd : decode (mC M) pc = .ok (.invokestatic idx, 3))
    (hpre : ∀ T : State, T.heap = H → s.WarmedH T.vm → Pre ⟨T, locs, cells, slots⟩ as.toArray) (hpost : ∀ (A0 B : Pt) (v : Option Value), Pre A0 as.toArray → Post A0 as.toArray v B → (B.U.heap = A0.U.heap ∧ B.locs = A0.locs ∧ B.cells = A0.cells ∧ B.slots = A0.slots) ∧ v = some w)
    (kk : W p (gl G) e R s m args below meth c H locs cells slots Q (F0 m (pc + 3) A (w :: rest))) : W p (gl G) e R s m args below meth c H locs cells slots Q (F0 m pc A (as.reverse ++ rest)) := by
  obtain ⟨hx, hb, hml, -, -, hown, hnm, hts, hKN, hfr, hlo⟩ := id C
  intro T hT X
  obtain ⟨v, vm₁, B, hW₁, X', hq, st⟩ := callS X hx hown (hts _ w1) (hts _ w2) (hts _ w3) (hts _ w4) hy hK (g := F0 m pc A (as.reverse ++ rest)) rfl (L.1.trans hml.symm) (argsL := as) (rest := rest) (fun sig h => by rw [h] at hn; exact hk.trans (Option.some.inj hn).symm) rfl (lv_room hw) (by rw [hb]; exact hd) (fun vm₁ hW => hpre (T.setVm vm₁) hT hW)
  obtain ⟨⟨e1, e2, e3, e4⟩, rfl⟩ := hpost _ _ _ (hpre (T.setVm vm₁) hT hW₁) hq
  obtain ⟨U', l2, c2, s2⟩ := B
  dsimp only at e1 e2 e3 e4 X' st
  subst e2; subst e3; subst e4
  obtain ⟨t, a1, b1⟩ := kk U' (e1.trans hT) X'
  exact ⟨t, st t a1, b1⟩
theorem RN_mabs {idx : Nat} {b : UInt64} (hd : decode (mC M) pc = .ok (.invokestatic idx, 3)) (w1 : Cond.methodLink (mOwn M) idx ⟨"java/lang/Math", "abs", "(D)D"⟩ ∈ TB) (w2 : Cond.static ⟨"java/lang/Math", "abs", "(D)D"⟩ ∈ TB) (w3 : Cond.initialized "java/lang/Math" ∈ TB) {bytes : ByteArray} (w4 : Cond.code ⟨"java/lang/Math", "abs", "(D)D"⟩ bytes 2 (some .double) ∈ TB) (hn : n64 b) (hf : 1 ≤ mFr M) (hl : 40 ≤ mLo M) (hw : (st.map fun v => v.category).sum ≤ 8) (h : RN G M (pc + 3) ls (.double (b &&& 0x7fffffffffffffff) :: st) σ r σ') : RN G M pc ls (.double b :: st) σ r σ' :=
  ⟨h.1, fun p e R s m args below meth c H locs cells slots A C P S L h1 h2 => by
    obtain ⟨hx, hb, hml, -, -, hown, hnm, hts, hKN, hfr, hlo⟩ := id C
    exact W_pureS (k := 1) (as := [.double b]) C L (Jvm.Free.NT.Abs64.pays (bytes := bytes) (maxL := 2) (hts _ w4) (hts _ w2) (by omega) (by omega)) w1 w2 w3 w4 (by decide) rfl (by decide +kernel) (cat8 hw) hd (fun T hT hW => ⟨b, rfl, hn⟩) (fun A0 B v _ hq => by
      obtain ⟨rfl, hv⟩ := hq
      exact ⟨⟨rfl, rfl, rfl, rfl⟩, hv b ⟨rfl, hn⟩⟩) (h.2 p e R s m args below meth c H locs cells slots A C P S L h1 h2)⟩
theorem RN_mcopy {idx : Nat} {a b : UInt64} (hd : decode (mC M) pc = .ok (.invokestatic idx, 3)) (w1 : Cond.methodLink (mOwn M) idx ⟨"java/lang/Math", "copySign", "(DD)D"⟩ ∈ TB) (w2 : Cond.static ⟨"java/lang/Math", "copySign", "(DD)D"⟩ ∈ TB) (w3 : Cond.initialized "java/lang/Math" ∈ TB) {bytes : ByteArray} (w4 : Cond.code ⟨"java/lang/Math", "copySign", "(DD)D"⟩ bytes 4 (some .double) ∈ TB) (hn : FP.dIsNaN b = false) (hf : 1 ≤ mFr M) (hl : 40 ≤ mLo M) (hw : (st.map fun v => v.category).sum ≤ 8) (h : RN G M (pc + 3) ls (.double (Jvm.copySign64 a b) :: st) σ r σ') : RN G M pc ls (.double b :: .double a :: st) σ r σ' :=
  ⟨h.1, fun p e R s m args below meth c H locs cells slots A C P S L h1 h2 => by
    obtain ⟨hx, hb, hml, -, -, hown, hnm, hts, hKN, hfr, hlo⟩ := id C
    exact W_pureS (k := 2) (as := [.double a, .double b]) C L (Jvm.Free.NT.CopySign64.pays (bytes := bytes) (maxL := 4) (hts _ w4) (hts _ w2) (by omega) (by omega)) w1 w2 w3 w4 (by decide) rfl (by decide +kernel) (cat8 hw) hd (fun T hT hW => ⟨(a, b), rfl, hn⟩) (fun A0 B v _ hq => by
      obtain ⟨rfl, hv⟩ := hq
      exact ⟨⟨rfl, rfl, rfl, rfl⟩, hv (a, b) ⟨rfl, hn⟩⟩) (h.2 p e R s m args below meth c H locs cells slots A C P S L h1 h2)⟩
theorem RN_mfloor {idx : Nat} {b : UInt64} (hd : decode (mC M) pc = .ok (.invokestatic idx, 3)) (w1 : Cond.methodLink (mOwn M) idx ⟨"java/lang/Math", "floor", "(D)D"⟩ ∈ TB) (w2 : Cond.static ⟨"java/lang/Math", "floor", "(D)D"⟩ ∈ TB) (w3 : Cond.initialized "java/lang/Math" ∈ TB) {bytes : ByteArray} (w4 : Cond.code ⟨"java/lang/Math", "floor", "(D)D"⟩ bytes 2 (some .double) ∈ TB) (hn : n64 b) (hf : 5 ≤ mFr M) (hl : 1225 ≤ mLo M) (hw : (st.map fun v => v.category).sum ≤ 8) (h : RN G M (pc + 3) ls (.double (Jvm.Free.Hsc.floorOf b) :: st) σ r σ') : RN G M pc ls (.double b :: st) σ r σ' :=
  ⟨h.1, fun p e R s m args below meth c H locs cells slots A C P S L h1 h2 => by
    obtain ⟨hx, hb, hml, -, -, hown, hnm, hts, hKN, hfr, hlo⟩ := id C
    have hg := h.1
    exact W_pureS (k := 1) (as := [.double b]) C L (Jvm.Free.Hsc.MFloorA.pays (tabs_floor hts) (by omega) (by omega)) w1 w2 w3 w4 (by decide) rfl (by decide +kernel) (cat8 hw) hd (fun T hT hW => ⟨by show cells ≤ R.cells; omega, by show slots ≤ R.slots; omega, b, rfl, hn, va_Z.sis (A := fr G) (by show va_Z _ _ _ _ _ T T.heap; rw [hT]; exact (va_Z.moved hW.alike hKN.2.2.2.2.2.2).kept (fun a h1 h2 => S.2.1 a h1 h2))⟩) (fun A0 B v hp hq => by
      obtain ⟨hu, hv⟩ := hq
      obtain ⟨-, -, g, hg⟩ := hp
      have e9 : g = b := by have := hg.1; simp at this; exact this.symm
      subst e9
      exact ⟨hu, hv g hg⟩) (h.2 p e R s m args below meth c H locs cells slots A C P S L h1 h2)⟩
theorem RN_mceil {idx : Nat} {b : UInt64} (hd : decode (mC M) pc = .ok (.invokestatic idx, 3)) (w1 : Cond.methodLink (mOwn M) idx ⟨"java/lang/Math", "ceil", "(D)D"⟩ ∈ TB) (w2 : Cond.static ⟨"java/lang/Math", "ceil", "(D)D"⟩ ∈ TB) (w3 : Cond.initialized "java/lang/Math" ∈ TB) {bytes : ByteArray} (w4 : Cond.code ⟨"java/lang/Math", "ceil", "(D)D"⟩ bytes 2 (some .double) ∈ TB) (hn : n64 b) (hf : 5 ≤ mFr M) (hl : 1225 ≤ mLo M) (hw : (st.map fun v => v.category).sum ≤ 8) (h : RN G M (pc + 3) ls (.double (Jvm.Free.Hsc.ceilOf b) :: st) σ r σ') : RN G M pc ls (.double b :: st) σ r σ' :=
  ⟨h.1, fun p e R s m args below meth c H locs cells slots A C P S L h1 h2 => by
    obtain ⟨hx, hb, hml, -, -, hown, hnm, hts, hKN, hfr, hlo⟩ := id C
    have hg := h.1
    exact W_pureS (k := 1) (as := [.double b]) C L (Jvm.Free.Hsc.MCeilA.pays (tabs_ceil hts) (by omega) (by omega)) w1 w2 w3 w4 (by decide) rfl (by decide +kernel) (cat8 hw) hd (fun T hT hW => ⟨by show cells ≤ R.cells; omega, by show slots ≤ R.slots; omega, b, rfl, hn, va_Z.sis (A := fr G) (by show va_Z _ _ _ _ _ T T.heap; rw [hT]; exact (va_Z.moved hW.alike hKN.2.2.2.2.2.2).kept (fun a h1 h2 => S.2.1 a h1 h2))⟩) (fun A0 B v hp hq => by
      obtain ⟨hu, hv⟩ := hq
      obtain ⟨-, -, g, hg⟩ := hp
      have e9 : g = b := by have := hg.1; simp at this; exact this.symm
      subst e9
      exact ⟨hu, hv g hg⟩) (h.2 p e R s m args below meth c H locs cells slots A C P S L h1 h2)⟩
theorem RN_mrint {idx : Nat} {b x : UInt64} {M2 : Md} (k : MT G M2 [.double b] σ (some (.double x)) σ) (hM : mY M2 = ⟨"java/lang/StrictMath", "rint", "(D)D"⟩ ∧ mL M2 = 6 ∧ mFr M2 ≤ 3 ∧ mLo M2 ≤ 180) (hd : decode (mC M) pc = .ok (.invokestatic idx, 3)) (w1 : Cond.methodLink (mOwn M) idx ⟨"java/lang/Math", "rint", "(D)D"⟩ ∈ TB) (w2 : Cond.static ⟨"java/lang/Math", "rint", "(D)D"⟩ ∈ TB) (w3 : Cond.initialized "java/lang/Math" ∈ TB) {bytes : ByteArray} (w4 : Cond.code ⟨"java/lang/Math", "rint", "(D)D"⟩ bytes 2 (some .double) ∈ TB) (w5 : Cond.code (mY M2) (mC M2) (mL M2) (mRet M2) ∈ TB) (w6 : Cond.initialized "java/lang/StrictMath" ∈ TB) (hn : n64 x) (hf : 5 ≤ mFr M) (hl : 1300 ≤ mLo M) (hw : (st.map fun v => v.category).sum ≤ 8) (h : RN G M (pc + 3) ls (.double x :: st) σ r σ') : RN G M pc ls (.double b :: st) σ r σ' := by
  sorry
end MATH
