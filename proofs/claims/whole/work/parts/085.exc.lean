theorem xb_ot {w : Cond} (h : w ∈ TB ∨ w ∈ XB) : vx_ot w = true := by
  rcases h with h | h
  · have h1 := (List.mem_filter.mp h).2
    simp only [vx_ot, Bool.or_eq_true]
    exact Or.inr h1
  · have hk := (List.mem_filter.mp h).2
    cases w <;> first | (simp [isXw] at hk; done) | rfl
theorem xb_at {args : Array Value} {s : State} (hts : ∀ w ∈ TB, w.before args s = true) (hx : ∀ w ∈ XB, va_Nw w s) {w : Cond} (h : w ∈ TB ∨ w ∈ XB) : w.before args s = true := by
  rcases h with h | h
  · exact hts w h
  · have h1 := hx w h
    have hk := (List.mem_filter.mp h).2
    clear h hx hts
    cases w <;> first | (simp [isXw] at hk; done) | exact va_tabs rfl rfl h1
theorem cP_any {G : Gl} {σ : Sg} {H : Heap} {n : Nat} : cP G (nw σ 19 n) H (sN σ) := by
  have hk : sK (nw σ 19 n) (sN σ) = (19, n) := if_pos rfl
  refine ⟨fun t => ?_, fun t => ?_, fun t => ?_, fun t => ?_, fun t b1 b2 e => ?_, fun c' b1 e => ?_⟩
  · rw [hk] at t; dsimp only at t; omega
  · rw [hk] at t; dsimp only at t; omega
  · rw [hk] at t; dsimp only at t; omega
  · rw [hk] at t; dsimp only at t; omega
  · rw [hk] at e; dsimp only at e; omega
  · rw [hk] at e; dsimp only at e; omega
def xQ (G : Gl) (r : Option Value ⊕ String) (σ' : Sg) : Array Value → State → Outcome → State → Prop := match r with
  | .inl v => QC G v σ'
  | .inr _ => fun _ _ _ _ => False
def xX (G : Gl) (r : Option Value ⊕ String) (σ' : Sg) : String → State → State → Prop := match r with
  | .inl _ => fun _ _ _ => False
  | .inr E => XC G E σ'
def MX (G : Gl) (M : Md) (av : List Value) (σ : Sg) (r : Option Value ⊕ String) (σ' : Sg) : Prop :=
  (sN σ ≤ sN σ' ∧ sZ σ ≤ sZ σ') ∧ vx_Met (gl G) (mY M) (mW M) (mRm M (sN σ' - sN σ) (sZ σ' - sZ σ)) (Pcc G av σ) (xQ G r σ') (xX G r σ') (sN σ' - sN σ) (sZ σ' - sZ σ) (fr G)
def mWH (M : Md) : List Cond := Cond.codeWith (mY M) (mC M) (mL M) (mRet M) (mT M) :: TB
def MH (G : Gl) (M : Md) (av : List Value) (σ : Sg) (v : Option Value) (σ' : Sg) : Prop :=
  (sN σ ≤ sN σ' ∧ sZ σ ≤ sZ σ') ∧ vx_Met (gl G) (mY M) (mWH M) (mRm M (sN σ' - sN σ) (sZ σ' - sZ σ)) (Pcc G av σ) (QC G v σ') (fun _ _ _ => False) (sN σ' - sN σ) (sZ σ' - sZ σ) (fr G)
theorem MX_of {G : Gl} {M : Md} {av : List Value} {σ σ' : Sg} {r : Option Value ⊕ String} (hy : plainName (mY M).cls = true) (ho : mOwn M = (mY M).cls) (hl : (lvA av).length ≤ mL M) (h : RN G M 0 (lvA av) [] σ r σ') (hT : mT M = [] := by rfl) : MX G M av σ r σ' := by
  refine ⟨h.1, vx_ofW (cc := mC M) (maxL := mL M) (ret := mRet M) hy rfl ?_⟩
  intro p e s m args below meth c s₁ B hml _ hv
  obtain ⟨rfl, hP, hK⟩ := hv
  have hts0 := atoms_spec (ws := mW M) B.pre
  have hts : ∀ w ∈ TB, w.before (av.map (eV G)).toArray s = true := fun w hw => hts0 w (List.mem_cons_of_mem _ hw)
  have hown : s.vm.findClass (mOwn M) = some m.cls := by rw [ho]; exact findClass_of_methodNamed B.named
  have C : CX G M p (mRm M (sN σ' - sN σ) (sZ σ' - sZ σ)) s m (av.map (eV G)).toArray meth c :=
    ⟨B.exec, B.bytes, hml, B.returns, ⟨B.notSynchronized, no_table B (hts0 _ List.mem_cons_self) hT⟩, hown, (name_of_methodNamed B.named B.method).1, hts, hK, Nat.le_refl _, Nat.le_refl _⟩
  rw [lg_entry_eq]
  have hL := lv_entry (av.map (eV G)) (n := mL M) (by rw [len_lvA]; exact hl)
  rw [← asc_lvA av 0] at hL
  have hW := h.2 p e (mRm M (sN σ' - sN σ) (sZ σ' - sZ σ)) s m _ below meth c s.heap [] 0 0 _ C hP va_S.rf hL (by rw [Nat.zero_add]; exact Nat.le_refl _) (by rw [Nat.zero_add]; exact Nat.le_refl _)
  rw [Nat.zero_add, Nat.zero_add] at hW
  cases r with
  | inl v => exact vx_ret hW
  | inr E => exact hW
theorem MH_of {G : Gl} {M : Md} {av : List Value} {σ σ' : Sg} {v : Option Value} (hy : plainName (mY M).cls = true) (ho : mOwn M = (mY M).cls) (hl : (lvA av).length ≤ mL M) (h : RN G M 0 (lvA av) [] σ (.inl v) σ') : MH G M av σ v σ' := by
  refine ⟨h.1, vx_ofWH (cc := mC M) (maxL := mL M) (ret := mRet M) (hh := mT M) hy rfl ?_⟩
  intro p e s m args below meth c s₁ B hml hv
  obtain ⟨rfl, hP, hK⟩ := hv
  have hts0 := atoms_spec (ws := mWH M) B.pre
  have hts : ∀ w ∈ TB, w.before (av.map (eV G)).toArray s = true := fun w hw => hts0 w (List.mem_cons_of_mem _ hw)
  have hown : s.vm.findClass (mOwn M) = some m.cls := by rw [ho]; exact findClass_of_methodNamed B.named
  have C : CX G M p (mRm M (sN σ' - sN σ) (sZ σ' - sZ σ)) s m (av.map (eV G)).toArray meth c :=
    ⟨B.exec, B.bytes, hml, B.returns, ⟨B.notSynchronized, vx_table (x := mY M) B (hts0 _ List.mem_cons_self)⟩, hown, (name_of_methodNamed B.named B.method).1, hts, hK, Nat.le_refl _, Nat.le_refl _⟩
  rw [lg_entry_eq]
  have hL := lv_entry (av.map (eV G)) (n := mL M) (by rw [len_lvA]; exact hl)
  rw [← asc_lvA av 0] at hL
  have hW := h.2 p e (mRm M (sN σ' - sN σ) (sZ σ' - sZ σ)) s m _ below meth c s.heap [] 0 0 _ C hP va_S.rf hL (by rw [Nat.zero_add]; exact Nat.le_refl _) (by rw [Nat.zero_add]; exact Nat.le_refl _)
  rw [Nat.zero_add, Nat.zero_add] at hW
  exact vx_ret hW
section THROWS
variable {G : Gl} {M M2 : Md} {p : Program} {l : Launch} {e : Env} {R : Room} {s : State} {m : MethodId} {args : Array Value} {below : List Frame} {meth : Method} {c : Code} {H : Heap} {locs : List Loc} {cells slots mc ms : Nat} {A : Array Slot} {Q : State → Prop} {σ σ1 σ' : Sg} {pc : Nat} {st0 rest : List Value} {v : Option Value} {ls : List (Option Value)} {st : List Value} {r : Option Value ⊕ String}
theorem vx_toR {g : JFrame} {Qa : State → Outcome → State → Prop} {free : Addr → Prop} (hr : vx_Run p l e R s m args below meth c H locs cells slots mc ms g rest Qa (fun _ _ _ => False) free) : va_Run p l e R s m args below meth c H locs cells slots mc ms g rest Qa free := by
  intro T hT X
  rcases hr T hT X with h | ⟨q, st0, t, T', L, E, ce, h1, h2, h3, h4, h5, h6, h7⟩
  · exact h
  · exact h6.elim
theorem RN_throwS {ik is ic : Nat} {cls text : String} {names : List String} (hown9 : mOwn M = "PennyJudge") (hT : mT M = []) (d0 : decode (mC M) pc = .ok (.new ik, 3)) (d3 : decode (mC M) (pc + 3) = .ok (.dup, 1)) (d4 : decode (mC M) (pc + 4) = .ok (.ldc is, 2)) (d6 : decode (mC M) (pc + 6) = .ok (.invokespecial ic, 3)) (d9 : decode (mC M) (pc + 9) = .ok (.athrow, 1))
    (w1 : Cond.classLink (mOwn M) ik cls ∈ TB) (w2 : Cond.initialized cls ∈ TB) (hs : (is, text) ∈ SB) (hat : ∀ w ∈ vx_atS (mOwn M) ic cls names, w ∈ TB ∨ w ∈ XB) (hcls : Bundle.fit cls = true) (hnames : ∀ n ∈ names, Bundle.fit n = true) (hf : names.length + 3 < mFr M) (hl : 8 + (13 * (names.length + 1) + 43) ≤ mLo M) (hw : (st.map fun v => v.category).sum ≤ 8) : RN G M pc ls st σ (.inr cls) (nw σ 19 6) := by
  have e1 : sN (nw σ 19 6) = sN σ + 1 := rfl
  have e2 : sZ (nw σ 19 6) = sZ σ + 6 := rfl
  refine ⟨⟨by omega, by omega⟩, fun p e R s m args below meth c H locs cells slots A C P S L h1 h2 => ?_⟩
  obtain ⟨hx, hb, hml, -, ⟨hlk, htb⟩, hown, hnm, hts, hKN, hfr, hlo⟩ := id C
  have hX := hKN.2.2.1.2.2.2
  obtain ⟨sa, hsa⟩ := hX.2.2.2.1 _ hs
  have hcat := cat8 (G := G) hw
  exact vx_throwS (A := fr G) (text := text) (sa := sa) hx hb hX.1 hown hcls hnames (hts _ w1) (hts _ w2) (by rw [hown9]; exact hsa) (fun w h => xb_at hts hX.2.1 (hat w h))
    (fun w h => by
      rcases List.mem_cons.mp h with rfl | h
      · exact xb_ot (Or.inl w1)
      · rcases List.mem_cons.mp h with rfl | h
        · exact xb_ot (Or.inl w2)
        · exact xb_ot (hat w h)) hX.2.2.1.1 hX.2.2.1.2 S (L.1.trans hml.symm) d0 d3 d4 d6 d9 (by rw [htb, hT]; intro x h; cases h) (by omega) (by omega) (by omega) (by omega) hlk
    (fun t ht hz hq => ⟨rfl, (P.push hz hq cP_any).moved ht, (S.grown hz hq).F rfl⟩) S.2.2 (by omega) (by omega)
theorem RN_throwSW {ik is ic : Nat} {cls text : String} {names : List String} (hown9 : mOwn M = "PennyJudge") (hT : mT M = []) (d0 : decode (mC M) pc = .ok (.new ik, 3)) (d3 : decode (mC M) (pc + 3) = .ok (.dup, 1)) (d4 : decode (mC M) (pc + 4) = .ok (.ldc_w is, 3)) (d7 : decode (mC M) (pc + 7) = .ok (.invokespecial ic, 3)) (d10 : decode (mC M) (pc + 10) = .ok (.athrow, 1))
    (w1 : Cond.classLink (mOwn M) ik cls ∈ TB) (w2 : Cond.initialized cls ∈ TB) (hs : (is, text) ∈ SB) (hat : ∀ w ∈ vx_atS (mOwn M) ic cls names, w ∈ TB ∨ w ∈ XB) (hcls : Bundle.fit cls = true) (hnames : ∀ n ∈ names, Bundle.fit n = true) (hf : names.length + 3 < mFr M) (hl : 8 + (13 * (names.length + 1) + 43) ≤ mLo M) (hw : (st.map fun v => v.category).sum ≤ 8) : RN G M pc ls st σ (.inr cls) (nw σ 19 6) := by
  have e1 : sN (nw σ 19 6) = sN σ + 1 := rfl
  have e2 : sZ (nw σ 19 6) = sZ σ + 6 := rfl
  refine ⟨⟨by omega, by omega⟩, fun p e R s m args below meth c H locs cells slots A C P S L h1 h2 => ?_⟩
  obtain ⟨hx, hb, hml, -, ⟨hlk, htb⟩, hown, hnm, hts, hKN, hfr, hlo⟩ := id C
  have hX := hKN.2.2.1.2.2.2
  obtain ⟨sa, hsa⟩ := hX.2.2.2.1 _ hs
  have hcat := cat8 (G := G) hw
  exact vx_throwSW (A := fr G) (text := text) (sa := sa) hx hb hX.1 hown hcls hnames (hts _ w1) (hts _ w2) (by rw [hown9]; exact hsa) (fun w h => xb_at hts hX.2.1 (hat w h))
    (fun w h => by
      rcases List.mem_cons.mp h with rfl | h
      · exact xb_ot (Or.inl w1)
      · rcases List.mem_cons.mp h with rfl | h
        · exact xb_ot (Or.inl w2)
        · exact xb_ot (hat w h)) hX.2.2.1.1 hX.2.2.1.2 S (L.1.trans hml.symm) d0 d3 d4 d7 d10 (by rw [htb, hT]; intro x h; cases h) (by omega) (by omega) (by omega) (by omega) hlk
    (fun t ht hz hq => ⟨rfl, (P.push hz hq cP_any).moved ht, (S.grown hz hq).F rfl⟩) S.2.2 (by omega) (by omega)
theorem RN_callVR {idx b ci n : Nat} {as : List Value} (k : MX G M2 (.ref b :: as) σ (.inl v) σ1) (hd : decode (mC M) pc = .ok (.invokevirtual idx, 3)) (hlk : lkV (mOwn M) idx M2 n) (hn : as.length = n) (hci : ci < 12 ∧ ∀ q : vw_C, vwCl[ci]? = some q → q.1 = (mY M2).cls) (ho : okO σ b ci) (hw : (st.map fun v => v.category).sum ≤ 8) (hR : mFr M2 + 1 ≤ mFr M ∧ 8 + (mL M2 + 11) + mLo M2 ≤ mLo M) {stk : List Value} (hs : stk = as.reverse ++ .ref b :: st) (h : RN G M (pc + 3) ls (v.toList ++ st) σ1 r σ') : RN G M pc ls stk σ r σ' := by
  subst hs
  obtain ⟨g1, g2⟩ := id k.1
  obtain ⟨g3, g4⟩ := id h.1
  refine ⟨by omega, fun p e R s m args below meth c H locs cells slots A C P S L h1 h2 => ?_⟩
  obtain ⟨hx, hb, hml, -, -, hown, hnm, hts, hKN, hfr, hlo⟩ := id C
  obtain ⟨⟨l1, l2, l3, l4, l5, l6⟩, l7, l8⟩ := hlk
  obtain ⟨q, hq, cell, q1, q2, q3, -⟩ := (P.2.2.2 b ho.1 ho.2.1).2.2.2.2.2 ci hci.1 ho.2.2
  have hrun := vx_toR (vx_runV (As := as.map (eV G)) (rest := st.map (eV G)) (g := F0 m pc A ((as.reverse ++ .ref b :: st).map (eV G))) (locs := locs) (cells := cells) (slots := slots) (below := below) (meth := meth) (e := e) (b := ad G b) ⟨hx, hb, hml, hown, hts⟩ k.2
    (cw := ⟨callB_of n hts (good_mW l1) rfl rfl rfl (hts _ l2) (hts _ l3) ⟨l4, l5, l6⟩ ⟨by show mFr M2 + 1 ≤ R.frames; omega, by show 8 + (mL M2 + 11) + mLo M2 ≤ R.locals; omega⟩, hts _ l7, hts _ l8⟩)
    (hp := ⟨Pcc_blind, ⟨cell, q1, by rw [q3]; rfl, by rw [← hci.2 q hq, q2]; exact (hKN.1.1 ci q hq).2.1⟩, Pcc_here (as := .ref b :: as) C P S⟩)
    rfl (by rw [List.length_map]; exact hn) L.1 (by simp [eV]) (lv_room (cat8 hw)) hd ⟨by omega, by omega⟩)
  refine W_after (v := v) (show va_Run p (gl G) e R s m args below meth c H locs cells slots _ _ _ _ (QC G v σ1 (Value.ref (ad G b) :: List.map (eV G) as).toArray) (fr G) from hrun) S (fun H1 locs1 P1 S1 => ?_)
  have hW := h.2 p e R s m args below meth c H1 locs1 (cells + (sN σ1 - sN σ)) (slots + (sZ σ1 - sZ σ)) A C P1 S1 L (by omega) (by omega)
  rw [show cells + (sN σ1 - sN σ) + (sN σ' - sN σ1) = cells + (sN σ' - sN σ) by omega, show slots + (sZ σ1 - sZ σ) + (sZ σ' - sZ σ1) = slots + (sZ σ' - sZ σ) by omega] at hW
  have e9 : (v.toList ++ st).map (eV G) = (v.map (eV G)).toList ++ st.map (eV G) := by cases v <;> rfl
  rw [e9] at hW
  exact hW
theorem RN_callVX {idx b ci n i ln : Nat} {as : List Value} {E : String} (k : MX G M2 (.ref b :: as) σ (.inr E) σ1) (hd : decode (mC M) pc = .ok (.invokevirtual idx, 3)) (hlk : lkV (mOwn M) idx M2 n) (hn : as.length = n) (hci : ci < 12 ∧ ∀ q : vw_C, vwCl[ci]? = some q → q.1 = (mY M2).cls) (ho : okO σ b ci) (hw : (st.map fun v => v.category).sum ≤ 8) (hR : mFr M2 + 1 ≤ mFr M ∧ 8 + (mL M2 + 11) + mLo M2 ≤ mLo M) {stk : List Value} (hs : stk = as.reverse ++ .ref b :: st)
    (pre : List ExceptionTableEntry) (x : ExceptionTableEntry) (suf : List ExceptionTableEntry) (hsplit : tableOf (mT M) = pre ++ x :: suf) (hpass : ∀ z ∈ pre, z.catchType ≠ 0 ∧ Cond.classLink (mOwn M) z.catchType nIA ∈ TB ∧ E = nIS) (hcov : covers x pc = true) (hx0 : x.catchType ≠ 0) (wl : Cond.classLink (mOwn M) x.catchType E ∈ TB) (wc : Cond.castable E E ∈ XB)
    (hdh : (decode (mC M) x.handlerPc = .ok (.astore i, 2) ∧ ln = 2) ∨ (∃ k : Fin 4, (k : Nat) = i ∧ decode (mC M) x.handlerPc = .ok (.astore_n k, 1) ∧ ln = 1)) (hi : i < mL M) (hls : ls.length ≤ i) (hlast : ∀ v, ls[i - 1]? = some (some v) → v.category ≠ 2)
    (h : RN G M (x.handlerPc + ln) ls [] σ1 r σ') : RN G M pc ls stk σ r σ' := by
  subst hs
  obtain ⟨g1, g2⟩ := id k.1
  obtain ⟨g3, g4⟩ := id h.1
  refine ⟨by omega, fun p e R s m args below meth c H locs cells slots A C P S L h1 h2 => ?_⟩
  obtain ⟨hx, hb, hml, -, ⟨-, htb⟩, hown, hnm, hts, hKN, hfr, hlo⟩ := id C
  obtain ⟨⟨l1, l2, l3, l4, l5, l6⟩, l7, l8⟩ := hlk
  obtain ⟨q, hq, cell, q1, q2, q3, -⟩ := (P.2.2.2 b ho.1 ho.2.1).2.2.2.2.2 ci hci.1 ho.2.2
  have hX := hKN.2.2.1.2.2.2
  have hrun := vx_runV (As := as.map (eV G)) (rest := st.map (eV G)) (g := F0 m pc A ((as.reverse ++ .ref b :: st).map (eV G))) (locs := locs) (cells := cells) (slots := slots) (below := below) (meth := meth) (e := e) (b := ad G b) ⟨hx, hb, hml, hown, hts⟩ k.2
    (cw := ⟨callB_of n hts (good_mW l1) rfl rfl rfl (hts _ l2) (hts _ l3) ⟨l4, l5, l6⟩ ⟨by show mFr M2 + 1 ≤ R.frames; omega, by show 8 + (mL M2 + 11) + mLo M2 ≤ R.locals; omega⟩, hts _ l7, hts _ l8⟩)
    (hp := ⟨Pcc_blind, ⟨cell, q1, by rw [q3]; rfl, by rw [← hci.2 q hq, q2]; exact (hKN.1.1 ci q hq).2.1⟩, Pcc_here (as := .ref b :: as) C P S⟩)
    rfl (by rw [List.length_map]; exact hn) L.1 (by simp [eV]) (lv_room (cat8 hw)) hd ⟨by omega, by omega⟩
  intro T hT X
  rcases hrun T hT X with ⟨v9, st9, t, T', L9, h0, X', hL, f1, f2, hq9, hst⟩ | ⟨q9, st9, t, T', L9, E9, ce, h0, X', hL, f1, f2, hq9, hce, hcv, hcl, hst⟩
  · exact hq9.elim
  · obtain ⟨rfl, hP, hz, hk⟩ := hq9
    rw [h0] at hz hk
    have P1 : Rp G σ1 s T'.heap := by rw [f1]; exact hP.moved (by rw [← f2]; exact X'.warmed.alike.symm)
    have S1 : va_S (fr G) s.heap T'.heap (locs ++ L9) := ⟨Nat.le_trans S.1 (by rw [f1]; exact hz), fun q h1 h2 => by rw [f1, hk q (Nat.lt_of_lt_of_le h1 S.1) h2]; exact S.2.1 q h1 h2, fun q hq => by
      rcases List.mem_append.mp hq with h | h
      · exact S.2.2 q h
      · exact hL q h⟩
    have hgo : ∀ A' : Array Slot, lv_has A' (mL M) ((i, Value.ref q9) :: (asc G 0 ls).filter (fun q => !(q.1 == i) && !(q.1 + 1 == i && q.2.category == 2))) → W p (gl G) e R s m args below meth c T'.heap (locs ++ L9) (cells + (sN σ1 - sN σ)) (slots + (sZ σ1 - sZ σ)) (FIN G r σ' below args s (cells + (sN σ' - sN σ)) (slots + (sZ σ' - sZ σ))) (F0 m (x.handlerPc + ln) A' []) := by
      intro A' L'
      have L2 : LV G (mL M) ls A' := by
        refine ⟨L'.1, L'.2.1, fun z hz => L'.2.2 z (List.mem_cons_of_mem _ (List.mem_filter.mpr ⟨hz, ?_⟩))⟩
        obtain ⟨k9, v9, hk9, rfl⟩ := mem_asc.mp hz
        have hlt : k9 < ls.length := (List.getElem?_eq_some_iff.mp hk9).1
        have a1 : (0 + k9 == i) = false := by rw [beq_eq_false_iff_ne]; omega
        have a2 : (0 + k9 + 1 == i && (eV G v9).category == 2) = false := by
          rw [eV_cat]
          by_cases hki : 0 + k9 + 1 = i
          · have h7 : v9.category ≠ 2 := hlast v9 (by rw [← hki]; simpa using hk9)
            simp [h7]
          · simp [hki]
            intro h9
            omega
        show (!(0 + k9 == i) && !(0 + k9 + 1 == i && (eV G v9).category == 2)) = true
        rw [a1, a2]; rfl
      have hW := h.2 p e R s m args below meth c T'.heap (locs ++ L9) (cells + (sN σ1 - sN σ)) (slots + (sZ σ1 - sZ σ)) A' C P1 S1 L2 (by omega) (by omega)
      rw [show cells + (sN σ1 - sN σ) + (sN σ' - sN σ1) = cells + (sN σ' - sN σ) by omega, show slots + (sZ σ1 - sZ σ) + (sZ σ' - sZ σ1) = slots + (sZ σ' - sZ σ) by omega] at hW
      exact hW
    have hwc := vx_catch (rest := st.map (eV G)) (ls := A) (pc := pc) (H := T'.heap) (locs := locs ++ L9) (cells := cells + (sN σ1 - sN σ)) (slots := slots + (sZ σ1 - sZ σ)) (own := mOwn M) (name := E9) (E := E9) (q := q9) (ce := ce) hown pre x suf (htb.trans hsplit)
      (fun z hz => Or.inr ⟨(hpass z hz).1, nIA, hts _ (hpass z hz).2.1, by rw [(hpass z hz).2.2]; exact hX.2.2.2.2⟩) hcov hx0 (hts _ wl) (xb_at hts hX.2.1 (Or.inr wc)) (by rw [f1]; exact hce) hcv hcl
      (by
        rcases hdh with ⟨d1, rfl⟩ | ⟨k8, hk8, d1, rfl⟩
        · exact lv_astore hx hb d1 L hi rfl hgo
        · exact lv_astore_n hx hb d1 hk8 L hi rfl hgo)
    obtain ⟨t2, a1, b1⟩ := hwc T' rfl X'
    exact ⟨t2, hst.trans a1, b1⟩
theorem RN_callH {idx n : Nat} {as : List Value} (k : MH G M2 as σ v σ1) (hd : decode (mC M) pc = .ok (.invokestatic idx, 3)) (l1 : Cond.codeWith (mY M2) (mC M2) (mL M2) (mRet M2) (mT M2) ∈ TB) (l2 : Cond.initialized (mY M2).cls ∈ TB) (l3 : Cond.methodLink (mOwn M) idx (mY M2) ∈ TB) (l7 : Cond.static (mY M2) ∈ TB) (l4 : (mY M2).cls ≠ "java/lang/invoke/MethodHandle" ∧ (mY M2).cls ≠ "java/lang/invoke/VarHandle" ∧ (parseMethodDescriptor (mY M2).desc).map (fun d => d.parameters.length) = some n) (hn : as.length = n) (hw : (st.map fun v => v.category).sum ≤ 8) (hR : mFr M2 + 1 ≤ mFr M ∧ 8 + (mL M2 + 11) + mLo M2 ≤ mLo M) {stk : List Value} (hs : stk = as.reverse ++ st) (h : RN G M (pc + 3) ls (v.toList ++ st) σ1 r σ') : RN G M pc ls stk σ r σ' := by
  subst hs
  obtain ⟨g1, g2⟩ := id k.1
  obtain ⟨g3, g4⟩ := id h.1
  refine ⟨by omega, fun p e R s m args below meth c H locs cells slots A C P S L h1 h2 => ?_⟩
  obtain ⟨hx, hb, hml, -, -, hown, hnm, hts, hKN, hfr, hlo⟩ := id C
  have hG : GoodIn TB (mWH M2) := by
    intro w hw
    have hm : w ∈ TB := (List.mem_cons.mp hw).elim (fun e => by rw [e]; exact l1) id
    exact ⟨hm, good_of_word (List.mem_filter.mp hm).2⟩
  have hrun := vx_toR (vx_runSX (hh := mT M2) (bytes := mC M2) (maxL := mL M2) (ret := mRet M2) (n := n) (index := idx) (As := as.map (eV G)) (rest := st.map (eV G)) (g := F0 m pc A ((as.reverse ++ st).map (eV G))) (locs := locs) (cells := cells) (slots := slots) (below := below) (meth := meth) (e := e) (H := H) ⟨hx, hb, hml, hown, hts⟩ k.2
    (cw := ⟨⟨rfl, rfl, by show mFr M2 + 1 ≤ R.frames; omega, by show 8 + (mL M2 + 11) + mLo M2 ≤ R.locals; omega, pay_in hts hG, List.mem_cons_self⟩, hts _ l1, hts _ l2, ⟨l4.1, l4.2.1⟩, fun sig h9 => by
      have h8 := l4.2.2
      rw [h9] at h8
      exact (Option.some.inj h8).symm, hts _ l3, hts _ l7⟩)
    (hp := ⟨Pcc_blind, Pcc_here (as := as) C P S⟩)
    rfl (by rw [List.length_map]; exact hn) L.1 (by simp) (lv_room (cat8 hw)) hd ⟨by omega, by omega⟩)
  refine W_after (v := v) hrun S (fun H1 locs1 P1 S1 => ?_)
  have hW := h.2 p e R s m args below meth c H1 locs1 (cells + (sN σ1 - sN σ)) (slots + (sZ σ1 - sZ σ)) A C P1 S1 L (by omega) (by omega)
  rw [show cells + (sN σ1 - sN σ) + (sN σ' - sN σ1) = cells + (sN σ' - sN σ) by omega, show slots + (sZ σ1 - sZ σ) + (sZ σ' - sZ σ1) = slots + (sZ σ' - sZ σ) by omega] at hW
  have e9 : (v.toList ++ st).map (eV G) = (v.map (eV G)).toList ++ st.map (eV G) := by cases v <;> rfl
  rw [e9] at hW
  exact hW
end THROWS
