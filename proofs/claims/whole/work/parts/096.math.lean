theorem tabs_floor {args : Array Value} {s : State} (h : ∀ w ∈ TB, w.before args s = true) : Jvm.Free.Hsc.MFloorA.tab.before args s = true := by
  simp only [Jvm.Free.Hsc.MFloorA.tab, Jvm.Free.Hsc.SFloorA.tab, Jvm.Free.Hsc.FocA.tab, Jvm.Free.Hsc.Foc.tab, Jvm.Free.Hsc.GetExp.tab, Cond.before_and, Bool.and_eq_true]
  exact ⟨h _ (mem_T6 167 rfl rfl), h _ (mem_T1 19 rfl rfl), ⟨h _ (mem_T6 170 rfl rfl), h _ (mem_T6 171 rfl rfl), h _ (mem_T6 172 rfl rfl), h _ (mem_T6 173 rfl rfl), h _ (mem_T1 19 rfl rfl), ⟨⟨h _ (mem_T6 174 rfl rfl), h _ (mem_T6 175 rfl rfl), h _ (mem_T6 176 rfl rfl), h _ (mem_T1 18 rfl rfl), ⟨h _ (mem_T6 177 rfl rfl), h _ (mem_T6 178 rfl rfl), h _ (mem_T6 180 rfl rfl), h _ (mem_T6 179 rfl rfl), h _ (mem_T1 20 rfl rfl), h _ (mem_T6 181 rfl rfl), h _ (mem_T6 182 rfl rfl)⟩, h _ (mem_T6 183 rfl rfl), h _ (mem_T6 185 rfl rfl), h _ (mem_T6 180 rfl rfl), h _ (mem_T6 179 rfl rfl), h _ (mem_T1 20 rfl rfl), h _ (mem_T6 186 rfl rfl)⟩, h _ (mem_T6 187 rfl rfl), h _ (mem_T6 188 rfl rfl), h _ (mem_T6 190 rfl rfl), h _ (mem_T6 189 rfl rfl)⟩⟩⟩
theorem tabs_ceil {args : Array Value} {s : State} (h : ∀ w ∈ TB, w.before args s = true) : Jvm.Free.Hsc.MCeilA.tab.before args s = true := by
  simp only [Jvm.Free.Hsc.MCeilA.tab, Jvm.Free.Hsc.SCeilA.tab, Jvm.Free.Hsc.FocA.tab, Jvm.Free.Hsc.Foc.tab, Jvm.Free.Hsc.GetExp.tab, Cond.before_and, Bool.and_eq_true]
  exact ⟨h _ (mem_T6 193 rfl rfl), h _ (mem_T1 19 rfl rfl), ⟨h _ (mem_T6 196 rfl rfl), h _ (mem_T6 197 rfl rfl), h _ (mem_T6 172 rfl rfl), h _ (mem_T6 173 rfl rfl), h _ (mem_T1 19 rfl rfl), ⟨⟨h _ (mem_T6 174 rfl rfl), h _ (mem_T6 175 rfl rfl), h _ (mem_T6 176 rfl rfl), h _ (mem_T1 18 rfl rfl), ⟨h _ (mem_T6 177 rfl rfl), h _ (mem_T6 178 rfl rfl), h _ (mem_T6 180 rfl rfl), h _ (mem_T6 179 rfl rfl), h _ (mem_T1 20 rfl rfl), h _ (mem_T6 181 rfl rfl), h _ (mem_T6 182 rfl rfl)⟩, h _ (mem_T6 183 rfl rfl), h _ (mem_T6 185 rfl rfl), h _ (mem_T6 180 rfl rfl), h _ (mem_T6 179 rfl rfl), h _ (mem_T1 20 rfl rfl), h _ (mem_T6 186 rfl rfl)⟩, h _ (mem_T6 187 rfl rfl), h _ (mem_T6 188 rfl rfl), h _ (mem_T6 190 rfl rfl), h _ (mem_T6 189 rfl rfl)⟩⟩⟩
theorem va_Z.sis {C n d : String} {v : Value} {A : Nat → Prop} {U : State} (h : va_Z C n d v A U U.heap) : Jvm.Lib.Cold.StaticIs U C n d v := by
  obtain ⟨cf, kf, fi, f, a, cell, h1, h2, h3, h4, h5, h6, h7, h8⟩ := h
  exact ⟨cf, fi, kf, f, a, cell, h1, h2, h3, h4, h5, (fun e => by rw [e] at h6; cases h6), h7⟩
section MATH
variable {G : Gl} {M : Md} {p : Program} {e : Env} {R : Room} {s : State} {m : MethodId} {args : Array Value} {below : List Frame} {meth : Method} {c : Code} {H : Heap} {locs : List Loc} {cells slots : Nat} {A : Array Slot} {Q : State → Prop} {pc : Nat} {σ σ' : Sg} {rest : List Value} {ls : List (Option Value)} {st : List Value} {r : Option Value ⊕ String}
theorem W_pureS {idx : Nat} {y : MethodName} {bytes : ByteArray} {maxL : Nat} {ret : Option FieldType} {Pre : Pt → Array Value → Prop} {Post : Pt → Array Value → Option Value → Pt → Prop} {as : List Value} {w : Value} (C : CX G M p R s m args meth c) (L : LV G (mL M) ls A) (hK : Back (gl G) R p e below s args y 3 8 Pre Post) (w1 : Cond.methodLink (mOwn M) idx y ∈ TB) (w2 : Cond.static y ∈ TB) (w3 : Cond.initialized y.cls ∈ TB) (w4 : Cond.code y bytes maxL ret ∈ TB) (hy : y.cls ≠ "java/lang/invoke/MethodHandle" ∧ y.cls ≠ "java/lang/invoke/VarHandle") {k : Nat} (hk : as.length = k) (hn : (parseMethodDescriptor y.desc).map (fun d => d.parameters.length) = some k) (hw : (rest.map fun v => v.category).sum ≤ 8) (hd : decode (mC M) pc = .ok (.invokestatic idx, 3))
    (hpre : ∀ T : State, T.heap = H → s.WarmedH T.vm → Pre ⟨T, locs, cells, slots⟩ as.toArray) (hpost : ∀ (A0 B : Pt) (v : Option Value), Pre A0 as.toArray → Post A0 as.toArray v B → (B.U.heap = A0.U.heap ∧ B.locs = A0.locs ∧ B.cells = A0.cells ∧ B.slots = A0.slots) ∧ v = some w)
    (kk : W p (gl G) e R s m args below meth c H locs cells slots Q (F0 m (pc + 3) A (w :: rest))) : W p (gl G) e R s m args below meth c H locs cells slots Q (F0 m pc A (as.reverse ++ rest)) := by
  obtain ⟨hx, hb, hml, -, -, hown, hnm, hts, hKN, hfr, hlo⟩ := id C
  intro T hT X
  obtain ⟨v, vm₁, B, hW₁, X', hq, st⟩ := callS X hx hown (hts _ w1) (hts _ w2) (hts _ w3) (hts _ w4) hy hK (g := F0 m pc A (as.reverse ++ rest)) rfl (L.1.trans hml.symm) (argsL := as) (rest := rest) (fun sig h => by rw [h] at hn; exact hk.trans (Option.some.inj hn).symm) rfl (lv_room hw) (by rw [hb]; exact hd) (fun vm₁ hW => hpre (T.setVm vm₁) hT hW)
  obtain ⟨⟨e1, e2, e3, e4⟩, rfl⟩ := hpost _ _ _ (hpre (T.setVm vm₁) hT hW₁) hq
  obtain ⟨U', l2, c2, s2⟩ := B
  dsimp only at e1 e2 e3 e4 X' st
  subst e2; subst e3; subst e4
  obtain ⟨t, a1, b1⟩ := kk U' (e1.trans hT) X'
  exact ⟨t, st t a1, b1⟩
theorem RN_mabs {idx : Nat} {b : UInt64} (hd : decode (mC M) pc = .ok (.invokestatic idx, 3)) (w1 : Cond.methodLink (mOwn M) idx ⟨"java/lang/Math", "abs", "(D)D"⟩ ∈ TB) (w2 : Cond.static ⟨"java/lang/Math", "abs", "(D)D"⟩ ∈ TB) (w3 : Cond.initialized "java/lang/Math" ∈ TB) {bytes : ByteArray} (w4 : Cond.code ⟨"java/lang/Math", "abs", "(D)D"⟩ bytes 2 (some .double) ∈ TB) (hn : n64 b) (hf : 1 ≤ mFr M) (hl : 40 ≤ mLo M) (hw : (st.map fun v => v.category).sum ≤ 8) (h : RN G M (pc + 3) ls (.double (b &&& 0x7fffffffffffffff) :: st) σ r σ') : RN G M pc ls (.double b :: st) σ r σ' :=
  ⟨h.1, fun p e R s m args below meth c H locs cells slots A C P S L h1 h2 => by
    obtain ⟨hx, hb, hml, -, -, hown, hnm, hts, hKN, hfr, hlo⟩ := id C
    exact W_pureS (k := 1) (as := [.double b]) C L (Jvm.Free.NT.Abs64.pays (bytes := bytes) (maxL := 2) (hts _ w4) (hts _ w2) (by omega) (by omega)) w1 w2 w3 w4 (by decide) rfl (by decide +kernel) (cat8 hw) hd (fun T hT hW => ⟨b, rfl, hn⟩) (fun A0 B v _ hq => by
      obtain ⟨rfl, hv⟩ := hq
      exact ⟨⟨rfl, rfl, rfl, rfl⟩, hv b ⟨rfl, hn⟩⟩) (h.2 p e R s m args below meth c H locs cells slots A C P S L h1 h2)⟩
theorem RN_mcopy {idx : Nat} {a b : UInt64} (hd : decode (mC M) pc = .ok (.invokestatic idx, 3)) (w1 : Cond.methodLink (mOwn M) idx ⟨"java/lang/Math", "copySign", "(DD)D"⟩ ∈ TB) (w2 : Cond.static ⟨"java/lang/Math", "copySign", "(DD)D"⟩ ∈ TB) (w3 : Cond.initialized "java/lang/Math" ∈ TB) {bytes : ByteArray} (w4 : Cond.code ⟨"java/lang/Math", "copySign", "(DD)D"⟩ bytes 4 (some .double) ∈ TB) (hn : FP.dIsNaN b = false) (hf : 1 ≤ mFr M) (hl : 40 ≤ mLo M) (hw : (st.map fun v => v.category).sum ≤ 8) (h : RN G M (pc + 3) ls (.double (Jvm.copySign64 a b) :: st) σ r σ') : RN G M pc ls (.double b :: .double a :: st) σ r σ' :=
  ⟨h.1, fun p e R s m args below meth c H locs cells slots A C P S L h1 h2 => by
    obtain ⟨hx, hb, hml, -, -, hown, hnm, hts, hKN, hfr, hlo⟩ := id C
    exact W_pureS (k := 2) (as := [.double a, .double b]) C L (Jvm.Free.NT.CopySign64.pays (bytes := bytes) (maxL := 4) (hts _ w4) (hts _ w2) (by omega) (by omega)) w1 w2 w3 w4 (by decide) rfl (by decide +kernel) (cat8 hw) hd (fun T hT hW => ⟨(a, b), rfl, hn⟩) (fun A0 B v _ hq => by
      obtain ⟨rfl, hv⟩ := hq
      exact ⟨⟨rfl, rfl, rfl, rfl⟩, hv (a, b) ⟨rfl, hn⟩⟩) (h.2 p e R s m args below meth c H locs cells slots A C P S L h1 h2)⟩
theorem RN_mfloor {idx : Nat} {b : UInt64} (hd : decode (mC M) pc = .ok (.invokestatic idx, 3)) (w1 : Cond.methodLink (mOwn M) idx ⟨"java/lang/Math", "floor", "(D)D"⟩ ∈ TB) (w2 : Cond.static ⟨"java/lang/Math", "floor", "(D)D"⟩ ∈ TB) (w3 : Cond.initialized "java/lang/Math" ∈ TB) {bytes : ByteArray} (w4 : Cond.code ⟨"java/lang/Math", "floor", "(D)D"⟩ bytes 2 (some .double) ∈ TB) (hn : n64 b) (hf : 5 ≤ mFr M) (hl : 1225 ≤ mLo M) (hw : (st.map fun v => v.category).sum ≤ 8) (h : RN G M (pc + 3) ls (.double (Jvm.Free.Hsc.floorOf b) :: st) σ r σ') : RN G M pc ls (.double b :: st) σ r σ' :=
  ⟨h.1, fun p e R s m args below meth c H locs cells slots A C P S L h1 h2 => by
    obtain ⟨hx, hb, hml, -, -, hown, hnm, hts, hKN, hfr, hlo⟩ := id C
    have hg := h.1
    exact W_pureS (k := 1) (as := [.double b]) C L (Jvm.Free.Hsc.MFloorA.pays (tabs_floor hts) (by omega) (by omega)) w1 w2 w3 w4 (by decide) rfl (by decide +kernel) (cat8 hw) hd (fun T hT hW => ⟨by show cells ≤ R.cells; omega, by show slots ≤ R.slots; omega, b, rfl, hn, va_Z.sis (A := fr G) (by show va_Z _ _ _ _ _ T T.heap; rw [hT]; exact (va_Z.moved hW.alike hKN.2.2.2.2.2.2).kept (fun a h1 h2 => S.2.1 a h1 h2))⟩) (fun A0 B v hp hq => by
      obtain ⟨hu, hv⟩ := hq
      obtain ⟨-, -, g, hg⟩ := hp
      have e9 : g = b := by have := hg.1; simp at this; exact this.symm
      subst e9
      exact ⟨hu, hv g hg⟩) (h.2 p e R s m args below meth c H locs cells slots A C P S L h1 h2)⟩
theorem RN_mceil {idx : Nat} {b : UInt64} (hd : decode (mC M) pc = .ok (.invokestatic idx, 3)) (w1 : Cond.methodLink (mOwn M) idx ⟨"java/lang/Math", "ceil", "(D)D"⟩ ∈ TB) (w2 : Cond.static ⟨"java/lang/Math", "ceil", "(D)D"⟩ ∈ TB) (w3 : Cond.initialized "java/lang/Math" ∈ TB) {bytes : ByteArray} (w4 : Cond.code ⟨"java/lang/Math", "ceil", "(D)D"⟩ bytes 2 (some .double) ∈ TB) (hn : n64 b) (hf : 5 ≤ mFr M) (hl : 1225 ≤ mLo M) (hw : (st.map fun v => v.category).sum ≤ 8) (h : RN G M (pc + 3) ls (.double (Jvm.Free.Hsc.ceilOf b) :: st) σ r σ') : RN G M pc ls (.double b :: st) σ r σ' :=
  ⟨h.1, fun p e R s m args below meth c H locs cells slots A C P S L h1 h2 => by
    obtain ⟨hx, hb, hml, -, -, hown, hnm, hts, hKN, hfr, hlo⟩ := id C
    have hg := h.1
    exact W_pureS (k := 1) (as := [.double b]) C L (Jvm.Free.Hsc.MCeilA.pays (tabs_ceil hts) (by omega) (by omega)) w1 w2 w3 w4 (by decide) rfl (by decide +kernel) (cat8 hw) hd (fun T hT hW => ⟨by show cells ≤ R.cells; omega, by show slots ≤ R.slots; omega, b, rfl, hn, va_Z.sis (A := fr G) (by show va_Z _ _ _ _ _ T T.heap; rw [hT]; exact (va_Z.moved hW.alike hKN.2.2.2.2.2.2).kept (fun a h1 h2 => S.2.1 a h1 h2))⟩) (fun A0 B v hp hq => by
      obtain ⟨hu, hv⟩ := hq
      obtain ⟨-, -, g, hg⟩ := hp
      have e9 : g = b := by have := hg.1; simp at this; exact this.symm
      subst e9
      exact ⟨hu, hv g hg⟩) (h.2 p e R s m args below meth c H locs cells slots A C P S L h1 h2)⟩
def rz_row : NativeRow := (NativeRow.find? Native.java_lang_Math.nans.rows "java/lang/Math" "rint" "(D)D").get (by decide +kernel)
set_option maxRecDepth 100000 in
theorem rz_find (p : Program) : NativeRow.find? p.tables.natives "java/lang/Math" "rint" "(D)D" = some rz_row := by
  cases p <;> rfl
theorem rz_run (b : UInt64) (e : Env) (S : State) {cS : ClassId} {kS : Class} {i : Nat} (hf : S.vm.findClass "java/lang/StrictMath" = some cS) (hk : S.vm.classes[cS]? = some kS) (hi : kS.init = .initialized) (hm : kS.findMethod "rint" "(D)D" = some i) :
    ∃ acts, (rz_row.sem #[.double b]).run e S = .ctl (.call ⟨cS, i⟩ #[.double b] 1 #[]) S acts := by
  have hsem : rz_row.sem #[.double b] = (do
      let c ← classNamed "java/lang/StrictMath"
      ensureInit c
      let some i := (← theClass c).findMethod "rint" "(D)D" | modelBug ("StrictMath lacks " ++ "rint")
      callThen ⟨c, i⟩ #[.double b] 1 #[]) := rfl
  have hw : wpRun (rz_row.sem #[.double b]) (fun _ _ _ => False) (fun c s₂ _ => c = .call ⟨cS, i⟩ #[.double b] 1 #[] ∧ s₂ = S) e S := by
    rw [hsem]
    simp [jvm, wpRun, _root_.Jvm.W.classNamed_ready hf, _root_.Jvm.W.ensureInit_ready ⟨kS, hk, hi⟩, theClass, callThen, hk, hm]
    exact ⟨rfl, rfl, rfl, rfl⟩
  have hw' := (wpRun_iff_run _ _ _ _ _).mp hw
  cases hr : (rz_row.sem #[.double b]).run e S with
  | ok v s₂ acts₂ => rw [hr] at hw'; exact hw'.elim
  | ctl x s₂ acts₂ =>
    rw [hr] at hw'
    have h2 : x = .call ⟨cS, i⟩ #[.double b] 1 #[] ∧ s₂ = S := by cases x <;> first | exact hw' | exact hw'.elim
    obtain ⟨rfl, rfl⟩ := h2
    exact ⟨_, rfl⟩
theorem rz_back {r : UInt64} (hn : r &&& 0x7fffffffffffffff ≤ 0x7ff0000000000000) (e : Env) (S : State) :
    ∃ acts, (rz_row.resume 1 #[] (.returned (some (.double r)))).run e S = .ok (some (.double r)) S acts := by
  have hsem : rz_row.resume 1 #[] (.returned (some (.double r))) = (do
      let r ← anyNaN64 r
      mark "nat.java_lang_Math.rint"
      Pure.pure (some (.double r))) := rfl
  have hw : wpRun (rz_row.resume 1 #[] (.returned (some (.double r)))) (fun v s₂ _ => v = some (.double r) ∧ s₂ = S) (fun _ _ _ => False) e S := by
    rw [hsem]
    simp [jvm, wpRun, anyNaN64, hn]
  have hw' := (wpRun_iff_run _ _ _ _ _).mp hw
  cases hr : (rz_row.resume 1 #[] (.returned (some (.double r)))).run e S with
  | ok v s₂ acts₂ => rw [hr] at hw'; obtain ⟨rfl, rfl⟩ := hw'; exact ⟨_, rfl⟩
  | ctl x s₂ acts₂ => rw [hr] at hw'; cases x <;> exact hw'.elim
def rz_nf (m : MethodId) (b : UInt64) : NFrame := { method := m, args := #[.double b], stage := 1, saved := #[], awaiting := true, answer := none, words := 0 }
def rz_in (U : State) (g : JFrame) (m mS : MethodId) (b : UInt64) : State := (U.setFrames (.native (rz_nf m b) :: .java g :: U.frames.tail)).pushFrame (.invoking mS #[.double b])
theorem rz_steps (l : Launch) (p : Program) {e : Env} (hadm : l.admits e) (hcas : FairCas e.choices) (hclk : FairClock e.choices) {below : List Frame} {s : State} {g : JFrame} {c : Code}
    (htopS : s.topJava?.isSome) (habove : ∃ mid, s.frames.tail = mid ++ below) (hrunning : s.status = .running) (hrunnable : s.curStatus? = some .runnable) (haloneS : s.alone = true) (hcodeG : s.code? g.method = some c)
    {m : MethodId} {meth : Method} {k : Class} {cm : Code} {b x : UInt64} (acts : List Action)
    (hk : s.vm.classes[m.cls]? = some k) (hx : k.methods[m.idx]? = some meth) (hboot : k.loader = none)
    (hkn : k.name = "java/lang/Math") (hmn : meth.name = "rint") (hmd : meth.desc = "(D)D") (hsig : parseMethodDescriptor "(D)D" = some meth.sig)
    (hc : meth.code = some cm) (hml : cm.maxLocals = 2) (hl : meth.locks = false)
    (hroom : (s.calling g m #[.double b]).hasRoom e.platform {} = true)
    {mS : MethodId} {kS : Class} (hfS : s.vm.findClass "java/lang/StrictMath" = some mS.cls) (hkS : s.vm.classes[mS.cls]? = some kS) (hiS : kS.init = .initialized) (hmS : kS.findMethod "rint" "(D)D" = some mS.idx)
    {y : MethodName} {S : Spec} {P : Array Value → State → Prop} {Q : Array Value → State → Outcome → State → Prop} (hM : MetFree l y S P (fun _ _ _ _ _ => True) Q)
    (hQ : ∀ st o t, Q #[.double b] st o t → o = .returned (some (.double x)) ∧ ∃ L k n, FrameEnd st o t L k n)
    (happ : S.appliesLoose y e.platform (rz_in s g m mS b) = true) (hP : P #[.double b] (rz_in s g m mS b))
    (hn : x &&& 0x7fffffffffffffff ≤ 0x7ff0000000000000) {ig : Instr} {len : Nat} (hdg : decode c.code g.pc = .ok (ig, len)) :
    ∃ s₂ : State, Q #[.double b] (rz_in s g m mS b) (.returned (some (.double x))) s₂ ∧
      Steps p.tables e below (doInvoke e (s.setTop g) acts m #[.double b]).1 (s₂.setFrames (.java { g with pc := g.pc + len, stack := .double x :: g.stack } :: s.frames.tail)) := by
  obtain ⟨g₀, hg⟩ := Option.isSome_iff_exists.mp htopS
  obtain ⟨r, hr⟩ := State.topJava?_eq_some.mp hg
  obtain ⟨mid, hmid⟩ := habove
  have hcur : s.cur < s.threads.size := State.cur_lt_of_frames hr
  have hm : s.vm.method? m = some meth := by simp [Vm.method?, hk, hx]
  have htop : s.setTop g = s.setFrames (.java g :: r) := State.setTop_of_frames _ hr
  have htail : s.frames.tail = r := by rw [hr]; rfl
  unfold rz_in at happ hP ⊢
  rw [htail] at happ hP hmid ⊢
  have hfull : e.platform.stackFull (s.setTop g).me (s.setTop g).frames cm.maxLocals = false := by
    have hfc := State.frames_calling htopS g m #[.double b]
    obtain ⟨-, r2, -, r4⟩ := State.hasRoom_stack hroom
    rw [State.localsInUse_invoking hfc (meth := meth) (c := cm) hm hc] at r4
    rw [hfc, htail] at r2
    rw [htail] at r4
    have hw := stackUse_le_stackWeight (.java g :: r)
    rw [State.calling_eq htopS, State.stackLimits_setFrames] at r2 r4
    rw [htop, State.frames_setFrames _ hcur]
    refine Platform.stackFull_eq_false (by rw [State.stackLimits_setFrames]; simp only [List.length_cons] at r2 ⊢; have : ({} : Room).frames = 0 := rfl; omega) (by rw [State.stackLimits_setFrames]; have : ({} : Room).locals = 0 := rfl; omega)
  rw [(doInvoke_java (s := s.setTop g) (e := e) (acts := acts) (args := #[.double b]) (meth := meth) (code := cm) hm hc hl hfull).1, hml]
  have hU : (s.setTop g).pushFrame (.java { method := m, pc := 0, locals := argsToLocals #[.double b] 2, stack := [], locked := none }) = s.setFrames (.java (entryFrame m #[.double b] 2) :: .java g :: r) := by
    rw [State.pushFrame, State.frames_setTop _ hr, htop, State.setFrames_setFrames]
    rfl
  rw [hU]
  have hf1 : (s.setFrames (.java (entryFrame m #[.double b] 2) :: .java g :: r)).frames = .java (entryFrame m #[.double b] 2) :: .java g :: r := State.frames_setFrames _ hcur
  have hov : overridden p.tables e (s.setFrames (.java (entryFrame m #[.double b] 2) :: .java g :: r)) (entryFrame m #[.double b] 2) = some rz_row :=
    Jvm.Free.Fl.Abs.overridden_some (k := k) (x := meth) rfl hk (by rw [hkn]; decide) hboot hx (by rw [hkn, hmn, hmd]; exact rz_find p)
  have hb2 : ∀ F : List Frame, ((s.setFrames F).vm.classes[m.cls]?.bind fun y => y.methods[m.idx]?) = some meth := by
    intro F
    show (s.vm.classes[m.cls]?.bind fun y => y.methods[m.idx]?) = some meth
    simp [hk, hx]
  have hsig2 : parseMethodDescriptor "(D)D" = some { parameters := [.double], returnType := some .double } := by decide +kernel
  have hparams : meth.sig.parameters.length = 1 := by
    have h3 := hsig
    rw [hsig2] at h3
    rw [← Option.some.inj h3]
    rfl
  have htake : ∀ n : Nat, List.take (1 + n) [Value.double b] = [Value.double b] := by
    intro n
    exact List.take_of_length_le (Nat.le_add_right 1 n)
  obtain ⟨acts₂, hr2⟩ := rz_run b e (s.setFrames (.native { method := m, args := #[.double b] } :: .java g :: r)) (cS := mS.cls) (kS := kS) (i := mS.idx) hfS hkS hiS hmS
  have hwords : ∀ F : List Frame, (((s.setFrames F).vm.classes[m.cls]?).bind fun k => (k.methods[m.idx]?).map fun n => upcallWords k.name n.name).getD 0 = 0 := by
    intro F
    show ((s.vm.classes[m.cls]?).bind fun k => (k.methods[m.idx]?).map fun n => upcallWords k.name n.name).getD 0 = 0
    simp [hk, hx, hkn, hmn, upcallWords]
  have hstep2 : (stepThread p.tables e (s.setFrames (.java (entryFrame m #[.double b] 2) :: .java g :: r))).1 = (doInvoke e (s.setFrames (.native (rz_nf m b) :: .java g :: r)) acts₂ mS #[.double b]).1 := by
    unfold stepThread
    simp only [hf1, hov]
    have hb3 : (s.vm.classes[m.cls]?.bind fun x => x.methods[m.idx]?) = some meth := by simp [hk, hx]
    have hw3 : ((s.vm.classes[m.cls]?).bind fun k => Option.map (fun n => upcallWords k.name n.name) k.methods[m.idx]?).getD 0 = 0 := by simp [hk, hx, hkn, hmn, upcallWords]
    simp [entryFrame, argsToLocals, Value.category, argCount, hb2, hb3, hparams, htake, hr2, afterNative, hwords, hw3, State.setFrames_setFrames, rz_nf]
  have hfN : (s.setFrames (.native (rz_nf m b) :: .java g :: r)).frames = (.native (rz_nf m b) :: .java g :: mid) ++ below := by rw [State.frames_setFrames _ hcur, hmid]; rfl
  obtain ⟨o, s₂, hsteps, hrun2, hend, hq⟩ := Steps.callFree hM p hadm hcas hclk (s := (s.setFrames (.native (rz_nf m b) :: .java g :: r))) (m := mS) (args := #[.double b]) (acts := acts₂) hfN happ hP trivial
  obtain ⟨ho, L9, k9, n9, hfe⟩ := hQ _ _ _ hq
  subst ho
  rw [State.frames_setFrames _ hcur] at hend
  replace hend : s₂.frames = .native { method := m, args := #[.double b], stage := 1, saved := #[], awaiting := false, answer := some (.returned (some (.double x))), words := 0 } :: .java g :: r := hend
  refine ⟨s₂, hq, ?_⟩
  refine Steps.head ⟨hrunning, by simpa using hrunnable, by simpa using haloneS⟩ ⟨.java (entryFrame m #[.double b] 2) :: .java g :: mid, by rw [hf1, hmid]; rfl, by simp, by simp⟩ ?_
  rw [hstep2]
  refine hsteps.trans ?_
  obtain ⟨-, hW₂, e2, -⟩ := id hfe
  have hal : s.vm.Alike s₂.vm := hW₂.alike
  obtain ⟨k', hk', ek⟩ := hal.2.2 _ _ hk
  have hboot' : k'.loader = none := by rw [ek]; exact hboot
  have hx' : k'.methods[m.idx]? = some meth := by rw [ek]; exact hx
  have hkn' : k'.name = "java/lang/Math" := by rw [ek]; exact hkn
  obtain ⟨acts₃, hr3⟩ := rz_back hn e s₂
  have hcode2 : s₂.code? g.method = some c := by
    have h1 : s₂.code? g.method = s.code? g.method := by rw [State.code?_eq, State.code?_eq, hal.method?]
    rw [h1]; exact hcodeG
  have hfs : handOver s₂ (some (.double x)) (.java g :: r) = some (.java { g with pc := g.pc + len, stack := .double x :: g.stack } :: r) := by
    simp [handOver, hcode2, hdg, Except.toOption]
  have hstep4 : (stepThread p.tables e s₂).1 = s₂.setFrames (.java { g with pc := g.pc + len, stack := .double x :: g.stack } :: r) := by
    rw [Jvm.Free.Hsc.stepThread_resumed' (f := { method := m, args := #[.double b], stage := 1, saved := #[], awaiting := false, answer := some (.returned (some (.double x))), words := 0 }) (o := .returned (some (.double x))) hend hk' hboot' hx' (by rw [hkn', hmn, hmd]; exact rz_find p) rfl]
    show (afterNative e _ _ ((rz_row.resume 1 #[] (.returned (some (.double x)))).run e s₂)).1 = _
    rw [hr3]
    exact doReturn_native (f := { method := m, args := #[.double b], stage := 1, saved := #[], awaiting := false, answer := some (.returned (some (.double x))), words := 0 }) hend rfl hfs
  have hcs : s₂.curStatus? = some .runnable := by
    have h1 : s₂.curStatus? = ({ s₂ with vm := ((s.setFrames (.native (rz_nf m b) :: .java g :: r)).pushFrame (.invoking mS #[.double b])).vm } : State).curStatus? := rfl
    rw [h1, e2]
    show (((s.setFrames (.native (rz_nf m b) :: .java g :: r)).pushFrame (.invoking mS #[.double b])).setFrames _).curStatus? = _
    simpa [State.pushFrame] using hrunnable
  have hal2 : s₂.alone = true := by
    have h1 : s₂.alone = ({ s₂ with vm := ((s.setFrames (.native (rz_nf m b) :: .java g :: r)).pushFrame (.invoking mS #[.double b])).vm } : State).alone := rfl
    rw [h1, e2]
    show (((s.setFrames (.native (rz_nf m b) :: .java g :: r)).pushFrame (.invoking mS #[.double b])).setFrames _).alone = _
    simpa [State.pushFrame] using haloneS
  refine Steps.head ⟨hrun2, hcs, hal2⟩ ⟨.native { method := m, args := #[.double b], stage := 1, saved := #[], awaiting := false, answer := some (.returned (some (.double x))), words := 0 } :: .java g :: mid, by rw [hend, hmid]; rfl, by simp, by simp⟩ ?_
  rw [hstep4]
  exact Steps.refl _
set_option maxRecDepth 100000 in
theorem rz_pays {l : Launch} {R : Room} {p : Program} {e : Env} {below : List Frame} {s : State} {sargs : Array Value} {len Wd : Nat} {y : MethodName} {ws : List Cond} {rm : Room} {Pc : Array Value → State → Prop} {Qc : Array Value → State → Outcome → State → Prop} {free : Addr → Prop} {b x : UInt64} {bM bS : ByteArray} {nS : Nat} {ret : Option FieldType}
    (hM : Met l y ws rm Pc Qc 0 0 free) (hy : y = ⟨"java/lang/StrictMath", "rint", "(D)D"⟩) (hrc : rm.cells = 0) (hrs : rm.slots = 0)
    (hblind : ∀ U V : State, U.vm = V.vm → U.heap = V.heap → Pc #[.double b] U → Pc #[.double b] V) (hv : ∀ st o t, Qc #[.double b] st o t → o = .returned (some (.double x)))
    (hws : ∀ w ∈ ws, ∀ a' U, s.WarmedH U.vm → w.before a' U = true) (hcM : ∀ a' U, s.WarmedH U.vm → (Cond.code ⟨"java/lang/Math", "rint", "(D)D"⟩ bM 2 (some .double)).before a' U = true)
    (hcS : Cond.code y bS nS ret ∈ ws) (hini : ∀ a' U, s.WarmedH U.vm → (Cond.initialized "java/lang/StrictMath").before a' U = true) (hn : x &&& 0x7fffffffffffffff ≤ 0x7ff0000000000000)
    (hfr : rm.frames + 2 ≤ R.frames) (hlo : Wd + (nS + 13) + rm.locals + 1024 ≤ R.locals) :
    Back l R p e below s sargs ⟨"java/lang/Math", "rint", "(D)D"⟩ len Wd (fun A a => A.cells ≤ R.cells ∧ A.slots ≤ R.slots ∧ a = #[.double b] ∧ Pc a A.U)
      (fun A a v B => v = some (.double x) ∧ ∃ (st t : State) (L : List Loc), st.heap = A.U.heap ∧ B.U.heap = t.heap ∧ B.U.vm = t.vm ∧ Qc #[.double b] st (.returned v) t ∧ B.locs = A.locs ++ L ∧ (∀ q ∈ L, free q.base) ∧ B.cells = A.cells ∧ B.slots = A.slots) := by
  subst hy
  intro m meth c A g ig mk a' X hg hsize hdg hW hnamed ⟨hc, hs, ha', hPc⟩
  subst ha'
  obtain ⟨U, Ls, c0, s0⟩ := A
  dsimp only [Pt.U, Pt.locs, Pt.cells, Pt.slots] at hc hs hPc X hnamed ⊢
  obtain ⟨methM, cM, hmethM, hcodeM', -, hlocalsM, -, hlocksM, -, hsigM⟩ := Cond.code_spec hnamed (hcM #[.double b] U X.warmed)
  obtain ⟨kP, hkP, hkname⟩ := className_of_methodNamed hnamed
  obtain ⟨hmnM, hmdM⟩ := name_of_methodNamed hnamed hmethM
  have hxP : kP.methods[mk.idx]? = some methM := by simpa [Vm.method?, hkP] using hmethM
  have hbootP : kP.loader = none := Vm.bootOf_findClass (findClass_of_methodNamed hnamed) hkP
  have hCS := hws _ hcS #[.double b] U X.warmed
  obtain ⟨mS, hnS⟩ := Cond.code_named hCS
  obtain ⟨methS, cSd, hmethS, hcodeS, -, hlocS, -, -, -, -⟩ := Cond.code_spec hnS hCS
  obtain ⟨kS, hkS, -⟩ := className_of_methodNamed hnS
  have hfS : U.vm.findClass "java/lang/StrictMath" = some mS.cls := findClass_of_methodNamed hnS
  have hiS : kS.init = .initialized := Cond.initialized_spec hfS hkS (hini #[.double b] U X.warmed)
  have hmS : kS.findMethod "rint" "(D)D" = some mS.idx := by
    have h := hnS
    simp only [State.methodNamed?, Option.bind_eq_bind, Option.pure_def] at h
    rw [hfS] at h
    simp only [Option.bind_some, hkS] at h
    cases hfm : kS.findMethod "rint" "(D)D" with
    | none => rw [hfm] at h; cases h
    | some j => rw [hfm] at h; simp at h; rw [← h]
  have h : At U g.method c below := by rw [hg]; exact X.here
  obtain ⟨g₀, hg0⟩ := Option.isSome_iff_exists.mp h.top
  obtain ⟨r, hr⟩ := State.topJava?_eq_some.mp hg0
  have hcur : U.cur < U.threads.size := State.cur_lt_of_frames hr
  have htail : U.frames.tail = r := by rw [hr]; rfl
  have eFirst : rz_in U g mk mS b = U.setFrames (.invoking mS #[.double b] :: .native (rz_nf mk b) :: .java g :: r) := by
    rw [rz_in, State.pushFrame, State.frames_setFrames _ hcur, State.setFrames_setFrames, htail]
  have hloS : 2 * g.monitorRoom + (g.stack.map fun v => v.category).sum + (nS + 11) + (rm.locals + 1024) ≤ R.locals := by (clear hn; omega)
  have hroomS : (U.calling g mS #[.double b]).hasRoom e.platform { frames := rm.frames + 1, locals := rm.locals + 1024, cells := 0, slots := 0 } = true :=
    X.room_calling hsize hmethS hcodeS (R' := { frames := rm.frames + 1, locals := rm.locals + 1024, cells := 0, slots := 0 }) (by show rm.frames + 1 + 1 ≤ R.frames; (clear hn; omega)) (by rw [hlocS]; exact hloS) (by show c0 + 0 ≤ R.cells; (clear hn; omega)) (by show s0 + 0 ≤ R.slots; (clear hn; omega))
  rw [State.calling_eq h.top, htail] at hroomS
  have hroom2 : (U.setFrames (.invoking mS #[.double b] :: .native (rz_nf mk b) :: .java g :: r)).hasRoom e.platform rm = true := by
    have h9 := Jvm.Free.Hsc.hasRoom_native (nf := rz_nf mk b) (F := rm.frames) (L := rm.locals) (C := 0) (Sl := 0) hcur (Nat.zero_le _) hroomS
    have e9 : rm = { frames := rm.frames, locals := rm.locals, cells := 0, slots := 0 } := by
      obtain ⟨a1, a2, a3, a4⟩ := rm
      dsimp only at hrc hrs
      subst hrc; subst hrs; rfl
    rw [e9]; exact h9
  have happ : (headSpec ws rm).appliesLoose ⟨"java/lang/StrictMath", "rint", "(D)D"⟩ e.platform (rz_in U g mk mS b) = true := by
    rw [eFirst]
    refine (Spec.appliesLoose_iff (State.frames_setFrames _ hcur)).mpr ⟨h.running, by simpa using h.runnable, by simpa using h.alone, hnS, rfl, State.classRipe_of (s := U.setFrames _) hkS hiS, hroom2, ?_⟩
    rw [Cond.before_setFrames]
    exact atoms_intro fun w hw => hws w hw _ _ X.warmed
  obtain ⟨s₂, hq, hsteps⟩ := rz_steps l p X.admits X.cas X.clock (below := below) (g := g) (c := c) (x := x) h.top h.above h.running h.runnable h.alone h.code [] hkP hxP hbootP hkname hmnM hmdM hsigM hcodeM' hlocalsM hlocksM
    (X.room_calling hsize hmethM hcodeM' (R' := {}) (by show 0 + 1 ≤ R.frames; (clear hn; omega)) (by rw [hlocalsM]; show 2 * g.monitorRoom + (g.stack.map fun v => v.category).sum + (2 + 11) + 0 ≤ R.locals; (clear hn; omega)) (by show c0 + 0 ≤ R.cells; (clear hn; omega)) (by show s0 + 0 ≤ R.slots; (clear hn; omega)))
    hfS hkS hiS hmS hM (fun st o t ⟨q1, L, q2, q3⟩ => ⟨hv _ _ _ q1, L, 0, 0, q2⟩) happ (by rw [eFirst]; exact hblind U _ rfl rfl hPc) hn hdg
  obtain ⟨hqc, L, hfe, hL⟩ := hq
  obtain ⟨-, hW₂, e2, q2, q3, q4, q5, q6⟩ := id hfe
  have hW' : U.WarmedH s₂.vm := hW₂
  have e3 : s₂ = ({ U.setFrames s₂.frames with heap := s₂.heap, slotsUsed := s₂.slotsUsed } : State).setVm s₂.vm := by
    have h1 : s₂ = ({ s₂ with vm := (rz_in U g mk mS b).vm } : State).setVm s₂.vm := rfl
    rw [e2, eFirst, State.setFrames_setFrames] at h1
    exact h1
  have hs₂ : s₂.setFrames (.java { g with pc := g.pc + len, stack := .double x :: g.stack } :: U.frames.tail) = (({ U with heap := s₂.heap, slotsUsed := s₂.slotsUsed } : State).setVm s₂.vm).setTop { g with pc := g.pc + len, stack := .double x :: g.stack } := by
    have hr' : (({ U with heap := s₂.heap, slotsUsed := s₂.slotsUsed } : State).setVm s₂.vm).frames = .java g₀ :: r := hr
    rw [State.setTop_of_frames _ hr', htail]
    conv => lhs; rw [e3]
    show (({ U.setFrames s₂.frames with heap := s₂.heap, slotsUsed := s₂.slotsUsed } : State).setVm s₂.vm).setFrames _ = _
    have e4 : ∀ F G : List Frame, (({ U.setFrames F with heap := s₂.heap, slotsUsed := s₂.slotsUsed } : State).setVm s₂.vm).setFrames G = (({ U with heap := s₂.heap, slotsUsed := s₂.slotsUsed } : State).setVm s₂.vm).setFrames G := fun F G => by
      show ({ (U.setFrames F).setFrames G with heap := s₂.heap, slotsUsed := s₂.slotsUsed } : State).setVm s₂.vm = _
      rw [State.setFrames_setFrames]; rfl
    exact e4 _ _
  have hsame : U.sameButNew ({ U with heap := s₂.heap, slotsUsed := s₂.slotsUsed } : State) L 0 0 := by
    refine ⟨?_, q2, q3, q4, q5, q6⟩
    obtain ⟨t, ht, -⟩ := State.frames_cons hr
    show ({ U with heap := s₂.heap, slotsUsed := s₂.slotsUsed } : State) = { U.setFrames U.frames with heap := s₂.heap, slotsUsed := s₂.slotsUsed }
    rw [State.setFrames_self ht]
  subst hg
  refine ⟨some (.double x), ⟨(({ U with heap := s₂.heap, slotsUsed := s₂.slotsUsed } : State).setVm s₂.vm), Ls ++ L, c0 + 0, s0 + 0⟩,
    ⟨X.admits, X.cas, X.clock, X.frames, X.room, X.hears, X.method, X.code, (X.here.setHeapUsed s₂.heap s₂.slotsUsed).setVm hW'.alike, X.tail, State.WarmedH.trans X.warmed hW', X.limits, X.bytes, X.same.trans (hsame.setVm s.vm)⟩,
    ⟨rfl, rz_in U g mk mS b, s₂, L, by rw [eFirst]; rfl, rfl, rfl, hqc, rfl, hL, rfl, rfl⟩, ?_⟩
  show Steps p.tables e below _ ((({ U with heap := s₂.heap, slotsUsed := s₂.slotsUsed } : State).setVm s₂.vm).setTop { g with pc := g.pc + len, stack := .double x :: g.stack })
  rw [← hs₂]
  exact hsteps
set_option maxRecDepth 100000 in
theorem RN_mrint {idx : Nat} {b x : UInt64} {M2 : Md} (k : MT G M2 [.double b] σ (some (.double x)) σ) (hM : mY M2 = ⟨"java/lang/StrictMath", "rint", "(D)D"⟩ ∧ mL M2 = 6 ∧ mFr M2 ≤ 3 ∧ mLo M2 ≤ 180) (hd : decode (mC M) pc = .ok (.invokestatic idx, 3)) (w1 : Cond.methodLink (mOwn M) idx ⟨"java/lang/Math", "rint", "(D)D"⟩ ∈ TB) (w2 : Cond.static ⟨"java/lang/Math", "rint", "(D)D"⟩ ∈ TB) (w3 : Cond.initialized "java/lang/Math" ∈ TB) {bytes : ByteArray} (w4 : Cond.code ⟨"java/lang/Math", "rint", "(D)D"⟩ bytes 2 (some .double) ∈ TB) (w5 : Cond.code (mY M2) (mC M2) (mL M2) (mRet M2) ∈ TB) (w6 : Cond.initialized "java/lang/StrictMath" ∈ TB) (hn : n64 x) (hf : 5 ≤ mFr M) (hl : 1300 ≤ mLo M) (hw : (st.map fun v => v.category).sum ≤ 8) (h : RN G M (pc + 3) ls (.double x :: st) σ r σ') : RN G M pc ls (.double b :: st) σ r σ' := by
  obtain ⟨m1, m2, m3, m4⟩ := hM
  have hg := h.1
  refine ⟨h.1, fun p e R s m args below meth c H locs cells slots A C P S L h1 h2 => ?_⟩
  obtain ⟨hx, hb, hml, -, -, hown, hnm, hts, hKN, hfr, hlo⟩ := id C
  have hk2 := k.2
  unfold mRm at hk2
  rw [Nat.sub_self, Nat.sub_self] at hk2
  have hgW := good_mW w5
  have hbk := rz_pays (R := R) (p := p) (e := e) (below := below) (s := s) (sargs := args) (len := 3) (Wd := 8) (b := b) (x := x) (bM := bytes) (bS := mC M2) (nS := mL M2) (ret := mRet M2) hk2 m1 rfl rfl
    (fun U V e1 e2 q => ⟨q.1, by rw [← e2]; exact q.2.1.moved (by rw [← e1]; exact Vm.Alike.refl _), KN.go (u := U) (U := V) (by rw [← e1]; exact Vm.Alike.refl _) (XK.same e1 (fun a _ _ => by rw [e2]) q.2.2.2.2.1.2.2.2) (fun w hw => by
      obtain ⟨a, i, x, hs, rfl⟩ := NB_form hw
      exact va_tabs rfl e1 (q.2.2.2.1 _ hw)) (fun a _ _ => by rw [e2]) q.2.2⟩) (fun st o t q => q.1)
    (fun w hw a' U hW => word_at hW (hgW w hw).2 (hts w (hgW w hw).1)) (fun a' U hW => word_at hW (good_of_word rfl) (hts _ w4)) (List.mem_cons_self ..) (fun a' U hW => word_at hW (good_of_word rfl) (hts _ w6)) hn
    (by show mFr M2 + 2 ≤ R.frames; omega) (by show 8 + (mL M2 + 13) + mLo M2 + 1024 ≤ R.locals; omega)
  intro T hT X
  obtain ⟨v, vm₁, B, hW₁, X', ⟨hv, st0, t, L9, f1, f2, f3, f4, f5, f6, f7, f8⟩, st1⟩ := callS X hx hown (hts _ w1) (hts _ w2) (hts _ w3) (hts _ w4) (by decide) hbk (g := F0 m pc A (.double b :: st.map (eV G))) rfl (L.1.trans hml.symm) (argsL := [.double b]) (rest := st.map (eV G)) (fun sig h9 => by rw [show parseMethodDescriptor "(D)D" = some ⟨[.double], some .double⟩ from by decide +kernel] at h9; rw [← Option.some.inj h9]; rfl) rfl (lv_room (cat8 hw)) (by rw [hb]; exact hd)
    (fun vm₁ hW => ⟨by show cells ≤ R.cells; omega, by show slots ≤ R.slots; omega, rfl, Pcc_here (as := [.double b]) C P S (T.setVm vm₁) hT hW⟩)
  subst hv
  obtain ⟨U', l2, c2, s2⟩ := B
  dsimp only [Pt.U, Pt.locs, Pt.cells, Pt.slots] at f1 f2 f3 f4 f5 f6 f7 f8 X' st1
  subst f5; subst f7; subst f8
  obtain ⟨-, hP, hz, hkk⟩ := f4
  have f1' : st0.heap = H := f1.trans hT
  rw [f1'] at hz hkk
  obtain ⟨t2, a1, b1⟩ := h.2 p e R s m args below meth c U'.heap (locs ++ L9) c2 s2 A C (by rw [f2]; exact hP.moved (by rw [← f3]; exact X'.warmed.alike.symm))
    ⟨Nat.le_trans S.1 (by rw [f2]; exact hz), fun q h1 h2 => by rw [f2, hkk q (Nat.lt_of_lt_of_le h1 S.1) h2]; exact S.2.1 q h1 h2, fun q hq => by
      rcases List.mem_append.mp hq with h | h
      · exact S.2.2 q h
      · exact f6 q h⟩ L h1 h2 U' rfl X'
  exact ⟨t2, st1 t2 a1, b1⟩
end MATH
