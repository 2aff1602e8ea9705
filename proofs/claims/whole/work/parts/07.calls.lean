theorem Rp.push {G : Gl} {σ : Sg} {U : State} {H H1 : Heap} {t n : Nat} (h : Rp G σ U H) (hz : H1.size = H.size + 1) (ho : ∀ q : Nat, q < H.size → H1[q]? = H[q]?) (hc : cP G (nw σ t n) H1 (sN σ)) : Rp G (nw σ t n) U H1 := by
  obtain ⟨h1, h2, h3, h4⟩ := h
  have hNn : sN (nw σ t n) = sN σ + 1 := rfl
  have hK : ∀ b, b ≠ sN σ → sK (nw σ t n) b = sK σ b := fun b hb => if_neg hb
  refine ⟨by rw [hz, h1, hNn]; omega, by rw [hNn]; omega, fun b hb => ?_, fun b hb hb2 => ?_⟩
  · obtain ⟨g1, g2⟩ := h3 b hb
    have hbn : b ≠ sN σ := by omega
    refine ⟨by rw [hK b hbn]; exact g1, ?_⟩
    have e : (fun j => Value.int (gI (nw σ t n) b j)) = (fun j => Value.int (gI σ b j)) := by
      funext j
      exact congrArg Value.int (if_neg hbn)
    rw [hK b hbn, e]
    exact va_T.kept g2 (fun q hq _ => ho q hq)
  · by_cases hab : b = sN σ
    · subst hab; exact hc
    · have hlt : b < sN σ := by rw [hNn] at hb2; omega
      exact cP_congr (hK b hab) (fun k => if_neg hab) (fun k => if_neg hab) (fun k => if_neg hab) (fun k => if_neg hab) (ho _ (by rw [ad_new hb, h1]; omega)) (h4 b hb hlt)
theorem ad_top {G : Gl} {σ : Sg} {U : State} {H : Heap} (h : Rp G σ U H) : ad G (sN σ) = H.size := by rw [ad_new h.2.1, h.1]
theorem va_S.grown {A : Nat → Prop} {H0 H H1 : Heap} {locs : List Loc} (h : va_S A H0 H locs) (hz : H1.size = H.size + 1) (ho : ∀ q : Nat, q < H.size → H1[q]? = H[q]?) : va_S A H0 H1 locs :=
  ⟨by rw [hz]; exact Nat.le_succ_of_le h.1, fun q h1 h2 => (ho q (Nat.lt_of_lt_of_le h1 h.1)).trans (h.2.1 q h1 h2), h.2.2⟩
theorem fV_def {G : Gl} {σ : Sg} {a c k : Nat} (hI : gI σ a k = 0) (hJ : gJ σ a k = 0) (hD : gD σ a k = 0) (hR : gR σ a k = 0) (ht : okTy (tyC c k) = true) : defaultValue (tyC c k) = fV G σ a c k := by
  unfold fV
  rw [hI, hJ, hD, hR]
  cases hh : tyC c k <;> first | rfl | (rw [hh] at ht; simp [okTy] at ht)
def LN (own : String) (idx c N : Nat) : Prop := c < 12 ∧ clsOK c ∧ ∃ q : vw_C, vwCl[c]? = some q ∧ q.2.2 = N ∧ Cond.classLink own idx q.1 ∈ TB ∧ Cond.instantiable q.1 N ∈ TB ∧ Cond.initialized q.1 ∈ TB
def kT (t : Nat) : FieldType := match t with
  | 12 => .double
  | 13 => .int
  | 14 => .long
  | _ => .boolean
section RULES3
variable {G : Gl} {M : Md} {pc : Nat} {ls ls2 : List (Option Value)} {st : List Value} {σ σ' : Sg} {r : Option Value ⊕ String}
theorem nw_le {t n : Nat} (h : sN (nw σ t n) ≤ sN σ' ∧ sZ (nw σ t n) ≤ sZ σ') : sN σ ≤ sN σ' ∧ sZ σ ≤ sZ σ' := by
  obtain ⟨h1, h2⟩ := h
  have e1 : sN (nw σ t n) = sN σ + 1 := rfl
  have e2 : sZ (nw σ t n) = sZ σ + n := rfl
  omega
theorem RN_new {idx ci N : Nat} (hd : decode (mC M) pc = .ok (.new idx, 3)) (hl : LN (mOwn M) idx ci N) (h : RN G M (pc + 3) ls (.ref (sN σ) :: st) (nw σ ci N) r σ') : RN G M pc ls st σ r σ' := by
  have e1 : sN (nw σ ci N) = sN σ + 1 := rfl
  have e2 : sZ (nw σ ci N) = sZ σ + N := rfl
  refine ⟨nw_le h.1, fun p e R s m args below meth c H locs cells slots A C P S L h1 h2 => ?_⟩
  obtain ⟨hx, hb, -, -, -, hown, hnm, hts, hKN, -⟩ := id C
  obtain ⟨hc12, hok, q, hq, hN, w1, w2, w3⟩ := hl
  obtain ⟨o1, o2, o3, o4⟩ := hok q hq
  obtain ⟨C0, T0, N0⟩ := q
  dsimp only at hN w1 w2 w3 o1 o2 o3 o4
  subst hN
  have hKn := hKN.1.1 ci _ hq
  have hg := h.1
  have b1 : cells + 1 + (sN σ' - sN (nw σ ci N0)) = cells + (sN σ' - sN σ) := by omega
  have b2 : slots + N0 + (sZ σ' - sZ (nw σ ci N0)) = slots + (sZ σ' - sZ σ) := by omega
  refine W.newcK hx hb hown (hts _ w1) (hts _ w2) (hts _ w3) rfl hd (by omega) (by omega) hKn.2.1 rfl fun H1 kC hkC z1 z2 z3 => ?_
  have hcp : cP G (nw σ ci N0) H1 (sN σ) := by
    have hk : sK (nw σ ci N0) (sN σ) = (ci, N0) := if_pos rfl
    refine ⟨fun t => ?_, fun t => ?_, fun t => ?_, fun t => ?_, fun t b1 b2 e => ?_, fun c' b1 e => ?_⟩
    · rw [hk] at t; dsimp only at t; omega
    · rw [hk] at t; dsimp only at t; omega
    · rw [hk] at t; dsimp only at t; omega
    · rw [hk] at t; dsimp only at t; omega
    · rw [hk] at e; dsimp only at e; omega
    · rw [hk] at e
      dsimp only at e
      subst e
      refine ⟨_, hq, ?_⟩
      rw [ad_top P]
      exact (u_born (tyC ci) hts o1 hKn hkC z1 o2).to (fun j hj => fV_def (if_pos rfl) (if_pos rfl) (if_pos rfl) (if_pos rfl) (o4 j hj))
  have hW := h.2 p e R s m args below meth c H1 locs (cells + 1) (slots + N0) A C (P.push z2 z3 hcp) (S.grown z2 z3) L (by omega) (by omega)
  rw [b1, b2] at hW
  rw [List.map_cons, eV_new, ad_top P] at hW
  exact hW
theorem RN_newa {atype : ArrayType} {n : Int32} {N t : Nat} (hd : decode (mC M) pc = .ok (.newarray atype, 2)) (ht : 12 ≤ t ∧ t ≤ 15 ∧ newarray.typeOf atype = kT t) (hw : Cond.arrayClass (kT t) ∈ TB) (hn : ¬ n < 0) (hN : n.toNatClampNeg = N) (hby : N * componentBytes (kT t) ≤ 536870912) (h : RN G M (pc + 2) ls (.ref (sN σ) :: st) (nw σ t N) r σ') : RN G M pc ls (.int n :: st) σ r σ' := by
  have e1 : sN (nw σ t N) = sN σ + 1 := rfl
  have e2 : sZ (nw σ t N) = sZ σ + N := rfl
  refine ⟨nw_le h.1, fun p e R s m args below meth c H locs cells slots A C P S L h1 h2 => ?_⟩
  obtain ⟨hx, hb, -, -, -, hown, hnm, hts, hKN, -⟩ := id C
  obtain ⟨t1, t2, t3⟩ := ht
  have hg := h.1
  have b1 : cells + 1 + (sN σ' - sN (nw σ t N)) = cells + (sN σ' - sN σ) := by omega
  have b2 : slots + N + (sZ σ' - sZ (nw σ t N)) = slots + (sZ σ' - sZ σ) := by omega
  refine va_newaK hx hb (by rw [t3]; exact hts _ hw) rfl hd rfl hn hN (by rw [t3]; exact hby) (by omega) (by omega) rfl fun H1 cA z1 z2 z3 z4 z5 => ?_
  rw [t3] at z1 z4 z5
  have hk : sK (nw σ t N) (sN σ) = (t, N) := if_pos rfl
  have hcp : cP G (nw σ t N) H1 (sN σ) := by
    have ee : (t = 12 ∨ t = 13 ∨ t = 14 ∨ t = 15) := by omega
    refine ⟨fun u => ?_, fun u => ?_, fun u => ?_, fun u => ?_, fun u b1 b2 e => ?_, fun c' b1 e => ?_⟩
    · rw [hk] at u ⊢
      dsimp only at u ⊢
      subst u
      have : cA = gT G 12 := Option.some.inj (z5.symm.trans (hKN.1.2 0 _ rfl).2)
      rw [ad_top P, z1, this]
      congr 2
      funext k
      exact congrArg Value.double (if_pos rfl).symm
    · rw [hk] at u ⊢
      dsimp only at u ⊢
      subst u
      have : cA = gT G 13 := Option.some.inj (z5.symm.trans (hKN.1.2 1 _ rfl).2)
      rw [ad_top P, z1, this]
      congr 2
      funext k
      exact congrArg Value.int (if_pos rfl).symm
    · rw [hk] at u ⊢
      dsimp only at u ⊢
      subst u
      have : cA = gT G 14 := Option.some.inj (z5.symm.trans (hKN.1.2 2 _ rfl).2)
      rw [ad_top P, z1, this]
      congr 2
      funext k
      exact congrArg Value.long (if_pos rfl).symm
    · rw [hk] at u ⊢
      dsimp only at u ⊢
      subst u
      have : cA = gT G 15 := Option.some.inj (z5.symm.trans (hKN.1.2 3 _ rfl).2)
      rw [ad_top P, z1, this]
      congr 2
      funext k
      exact congrArg Value.int (if_pos rfl).symm
    · rw [hk] at e; dsimp only at e; omega
    · rw [hk] at e; dsimp only at e; omega
  have hW := h.2 p e R s m args below meth c H1 locs (cells + 1) (slots + N) A C (P.push z2 z3 hcp) (S.grown z2 z3) L (by omega) (by omega)
  rw [b1, b2] at hW
  rw [List.map_cons, eV_new, ad_top P] at hW
  exact hW
def oC (t : Nat) : String := if t = 16 then "PennyJudge$Program" else "PennyJudge$Tape"
theorem RN_anew {idx t N : Nat} {n : Int32} (hd : decode (mC M) pc = .ok (.anewarray idx, 3)) (ht : t = 16 ∨ t = 17) (hw : Cond.classLink (mOwn M) idx (oC t) ∈ TB) (hn : ¬ n < 0) (hN : n.toNatClampNeg = N) (hby : N * 4 ≤ 536870912) (h : RN G M (pc + 3) ls (.ref (sN σ) :: st) (nw σ t N) r σ') : RN G M pc ls (.int n :: st) σ r σ' := by
  have e1 : sN (nw σ t N) = sN σ + 1 := rfl
  have e2 : sZ (nw σ t N) = sZ σ + N := rfl
  refine ⟨nw_le h.1, fun p e R s m args below meth c H locs cells slots A C P S L h1 h2 => ?_⟩
  obtain ⟨hx, hb, -, -, -, hown, hnm, hts, hKN, -⟩ := id C
  have hg := h.1
  have b1 : cells + 1 + (sN σ' - sN (nw σ t N)) = cells + (sN σ' - sN σ) := by omega
  have b2 : slots + N + (sZ σ' - sZ (nw σ t N)) = slots + (sZ σ' - sZ σ) := by omega
  have hao : va_AO (oC t) s := by
    rcases ht with rfl | rfl
    · exact hKN.2.2.1.1
    · exact hKN.2.2.1.2.1
  have hRA : va_RA s (gT G t) (.object (oC t)) := by
    rcases ht with rfl | rfl
    · exact (hKN.1.2 4 _ rfl).2
    · exact (hKN.1.2 5 _ rfl).2
  subst hN
  refine W.anew hx hb hown (hts _ hw) (va_AO.use hao) rfl hd rfl hn hby (by omega) (by omega) fun cA kA comp z1 z2 z3 z4 => ?_
  obtain ⟨kA', comp', y1, y2, y3, y4⟩ := hRA
  have hcA : cA = gT G t := Option.some.inj (z1.symm.trans y4)
  subst hcA
  rw [arrV_new]
  generalize hH1 : H.push (arrV (gT G t) n.toNatClampNeg fun x => Value.null) = H1
  have z2 : H1.size = H.size + 1 := by rw [← hH1]; simp
  have z3 : ∀ q : Nat, q < H.size → H1[q]? = H[q]? := fun q hq => by rw [← hH1, Array.getElem?_push, if_neg (Nat.ne_of_lt hq)]
  have z1 : H1[H.size]? = some (arrV (gT G t) n.toNatClampNeg fun x => Value.null) := by rw [← hH1]; simp
  have hk : sK (nw σ t n.toNatClampNeg) (sN σ) = (t, n.toNatClampNeg) := if_pos rfl
  have hcp : cP G (nw σ t n.toNatClampNeg) H1 (sN σ) := by
    refine ⟨fun u => ?_, fun u => ?_, fun u => ?_, fun u => ?_, fun u b1 b2 e => ?_, fun c' b1 e => ?_⟩
    · rw [hk] at u; dsimp only at u; omega
    · rw [hk] at u; dsimp only at u; omega
    · rw [hk] at u; dsimp only at u; omega
    · rw [hk] at u; dsimp only at u; omega
    · rw [hk] at e ⊢
      dsimp only at e ⊢
      subst e
      rw [ad_top P, z1]
      congr 2
      funext k
      have e0 : gR (nw σ t n.toNatClampNeg) (sN σ) k = 0 := if_pos rfl
      rw [e0]; rfl
    · rw [hk] at e; dsimp only at e; omega
  have hW := h.2 p e R s m args below meth c H1 locs (cells + 1) (slots + n.toNatClampNeg) A C (P.push z2 z3 hcp) (S.grown z2 z3) L (by omega) (by omega)
  rw [b1, b2] at hW
  rw [List.map_cons, eV_new, ad_top P] at hW
  exact hW
theorem RN_aast {a v ci : Nat} {i : Int32} {t : Nat} (hd : decode (mC M) pc = .ok (.aastore, 1)) (ht : (t = 16 ∧ ci = 5) ∨ (t = 17 ∧ ci = 8)) (ho : okW σ a t i) (hv : okO σ v ci) (h : RN G M (pc + 1) ls st (pR σ a i.toNatClampNeg v) r σ') : RN G M pc ls (.ref v :: .int i :: .ref a :: st) σ r σ' :=
  ⟨h.1, fun p e R s m args below meth c H locs cells slots A C P S L h1 h2 => by
    obtain ⟨hx, hb, -, -, -, hown, hnm, hts, hKN, -⟩ := id C
    have hc := (P.2.2.2 a ho.1 ho.2.1).2.2.2.2.1 t (by omega) (by omega) ho.2.2.1
    have hlt : i.toNatClampNeg < (sK σ a).2 := Nat.not_le.mp fun q => ho.2.2.2 (Or.inr q)
    have h0 : ¬ i < 0 := fun q => ho.2.2.2 (Or.inl q)
    have hfr : fr G (ad G a) := by rw [ad_new ho.1]; exact Nat.le_add_right _ _
    obtain ⟨q', hq', cellV, g1, g2, g3, -⟩ := (P.2.2.2 v hv.1 hv.2.1).2.2.2.2.2 ci (by omega) hv.2.2
    have hcls := (hKN.1.1 ci q' hq').2
    have hRA : va_RA s (gT G t) (.object (oC t)) ∧ q'.1 = oC t := by
      rcases ht with ⟨rfl, rfl⟩ | ⟨rfl, rfl⟩
      · exact ⟨(hKN.1.2 4 _ rfl).2, by cases hq'; rfl⟩
      · exact ⟨(hKN.1.2 5 _ rfl).2, by cases hq'; rfl⟩
    obtain ⟨⟨kA, comp, k1, k2, k3, -⟩, hqn⟩ := hRA
    rw [hqn] at hcls
    have hcomp : comp = (gC G).1 ci := Option.some.inj (k3.symm.trans hcls.1)
    subst hcomp
    obtain ⟨kC, hkC, -⟩ := id hcls.2
    refine W.aast hx hb hc (fun q h => by cases h) (fun h => by cases h) k1 k2 rfl hkC ⟨h0, by rw [arrV_size]; exact hlt⟩ g1 (fun q h => by rw [g3] at h; cases h) (by rw [g2]; exact hkC) (by rw [g2]; exact va_assign hcls) rfl rfl hd fun H1 e z oq => ?_
    refine h.2 p _ R s m args below meth c H1 _ cells slots A C ?_ (S.put z oq hfr) L h1 h2
    refine P.upd (σ1 := pR σ a i.toNatClampNeg v) ho.1 rfl (fun _ => rfl) (fun b j hb => rfl) (fun b j hb => rfl) (fun b j hb => rfl) (fun b j hb => up2_ne hb) z oq ⟨fun q => absurd (ho.2.2.1.symm.trans q) (by omega), fun q => absurd (ho.2.2.1.symm.trans q) (by omega), fun q => absurd (ho.2.2.1.symm.trans q) (by omega), fun q => absurd (ho.2.2.1.symm.trans q) (by omega), fun t' b1 b2 q => ?_, fun c b1 q => absurd (ho.2.2.1.symm.trans q) (by omega)⟩
    have htt : t' = t := (q.symm.trans ho.2.2.1)
    subst htt
    rw [e, arrV_store]
    congr 2
    funext q
    by_cases hq : q = i.toNatClampNeg
    · subst hq
      simp only [updV, if_true]
      have : gR (pR σ a i.toNatClampNeg v) a i.toNatClampNeg = v := up2_self
      rw [this, rO_ref (by have := hv.1; omega)]
    · simp only [updV, if_neg hq]
      have : gR (pR σ a i.toNatClampNeg v) a q = gR σ a q := up2_k hq
      rw [this]⟩
theorem RN_gets {idx k : Nat} {f : String} (hd : decode (mC M) pc = .ok (.getstatic idx, 3)) (hw : Cond.fieldLink (mOwn M) idx "PennyJudge" f "[I" ∈ TB) (hk : (k = 1 ∧ f = "T_MOST") ∨ (k = 2 ∧ f = "V_LEAST") ∨ (k = 3 ∧ f = "V_MOST")) (h : RN G M (pc + 3) ls (.ref k :: st) σ r σ') : RN G M pc ls st σ r σ' :=
  ⟨h.1, fun p e R s m args below meth c H locs cells slots A C P S L h1 h2 => by
    obtain ⟨hx, hb, -, -, -, hown, hnm, hts, hKN, -⟩ := id C
    have hZ : va_Z "PennyJudge" f "[I" (.ref (ad G k)) (fr G) s s.heap := by
      rcases hk with ⟨rfl, rfl⟩ | ⟨rfl, rfl⟩ | ⟨rfl, rfl⟩
      · exact hKN.2.2.2.1
      · exact hKN.2.2.2.2.1
      · exact hKN.2.2.2.2.2.1
    exact va_gets hx hb hZ S hown (hts _ hw) (fun _ z => z) hd (h.2 p e R s m args below meth c H locs cells slots A C P S L h1 h2)⟩
theorem RN_getsA {idx : Nat} (hd : decode (mC M) pc = .ok (.getstatic idx, 3)) (hw : Cond.fieldLink (mOwn M) idx "java/lang/StrictMath" "$assertionsDisabled" "Z" ∈ TB) (h : RN G M (pc + 3) ls (.int 1 :: st) σ r σ') : RN G M pc ls st σ r σ' :=
  ⟨h.1, fun p e R s m args below meth c H locs cells slots A C P S L h1 h2 => by
    obtain ⟨hx, hb, -, -, -, hown, hnm, hts, hKN, -⟩ := id C
    exact va_gets hx hb hKN.2.2.2.2.2.2 S hown (hts _ hw) (fun _ z => z) hd (h.2 p e R s m args below meth c H locs cells slots A C P S L h1 h2)⟩
theorem QC_of {v : Option Value} {s t : State} {H : Heap} {locs : List Loc} {a : Array Value} (P : Rp G σ s H) (S : va_S (fr G) s.heap H locs) (ht : t.heap = H) (hW : s.WarmedH t.vm) : QC G v σ a s (.returned (v.map (eV G))) t :=
  ⟨rfl, by rw [ht]; exact P.moved hW.alike, S.F ht⟩
theorem RN_ireturn {x : Int32} (hd : decode (mC M) pc = .ok (.ireturn, 1)) (hr : mRet M = some .int) : RN G M pc ls [.int x] σ (.inl (some (.int x))) σ :=
  ⟨⟨Nat.le_refl _, Nat.le_refl _⟩, fun p e R s m args below meth c H locs cells slots A C P S L h1 h2 => by
    rw [Nat.sub_self, Nat.sub_self, Nat.add_zero, Nat.add_zero]
    exact W.iret C.1 C.2.1 (C.2.2.2.1.trans hr) (fun t ht hW => QC_of (v := some (.int x)) P S ht hW) S.2.2 hd C.2.2.2.2.1.1⟩
theorem RN_zreturn {x : Int32} (hd : decode (mC M) pc = .ok (.ireturn, 1)) (hr : mRet M = some .boolean) (hx : x = 0 ∨ x = 1) : RN G M pc ls [.int x] σ (.inl (some (.int x))) σ :=
  ⟨⟨Nat.le_refl _, Nat.le_refl _⟩, fun p e R s m args below meth c H locs cells slots A C P S L h1 h2 => by
    rw [Nat.sub_self, Nat.sub_self, Nat.add_zero, Nat.add_zero]
    exact W.zret C.1 C.2.1 (C.2.2.2.1.trans hr) (nar_z hx).1 (fun t ht hW => QC_of (v := some (.int x)) P S ht hW) S.2.2 hd C.2.2.2.2.1.1⟩
theorem RN_lreturn {x : Int64} (hd : decode (mC M) pc = .ok (.lreturn, 1)) (hr : mRet M = some .long) : RN G M pc ls [.long x] σ (.inl (some (.long x))) σ :=
  ⟨⟨Nat.le_refl _, Nat.le_refl _⟩, fun p e R s m args below meth c H locs cells slots A C P S L h1 h2 => by
    rw [Nat.sub_self, Nat.sub_self, Nat.add_zero, Nat.add_zero]
    exact W.lret C.1 C.2.1 (C.2.2.2.1.trans hr) (fun t ht hW => QC_of (v := some (.long x)) P S ht hW) S.2.2 hd C.2.2.2.2.1.1⟩
theorem RN_dreturn {x : UInt64} (hd : decode (mC M) pc = .ok (.dreturn, 1)) (hr : mRet M = some .double) : RN G M pc ls [.double x] σ (.inl (some (.double x))) σ :=
  ⟨⟨Nat.le_refl _, Nat.le_refl _⟩, fun p e R s m args below meth c H locs cells slots A C P S L h1 h2 => by
    rw [Nat.sub_self, Nat.sub_self, Nat.add_zero, Nat.add_zero]
    exact W.dret C.1 C.2.1 (C.2.2.2.1.trans hr) (fun t ht hW => QC_of (v := some (.double x)) P S ht hW) S.2.2 hd C.2.2.2.2.1.1⟩
theorem RN_return (hd : decode (mC M) pc = .ok (.return_, 1)) (hr : mRet M = none) : RN G M pc ls [] σ (.inl none) σ :=
  ⟨⟨Nat.le_refl _, Nat.le_refl _⟩, fun p e R s m args below meth c H locs cells slots A C P S L h1 h2 => by
    rw [Nat.sub_self, Nat.sub_self, Nat.add_zero, Nat.add_zero]
    exact W.vret C.1 C.2.1 (C.2.2.2.1.trans hr) (fun t ht hW => QC_of (v := none) P S ht hW) S.2.2 hd C.2.2.2.2.1.1⟩
theorem RN_objInit {idx a : Nat} (hd : decode (mC M) pc = .ok (.invokespecial idx, 3)) (w1 : Cond.methodLink (mOwn M) idx objectInit ∈ TB) (w2 : Cond.instanceMethod objectInit ∈ TB) (w3 : Cond.code objectInit ⟨#[0xb1]⟩ 1 none ∈ TB) (hf : 1 ≤ mFr M) (hl : 20 ≤ mLo M) (hw : (st.map fun v => v.category).sum ≤ 8) (h : RN G M (pc + 3) ls st σ r σ') : RN G M pc ls (.ref a :: st) σ r σ' :=
  ⟨h.1, fun p e R s m args below meth c H locs cells slots A C P S L h1 h2 => by
    obtain ⟨hx, hb, hml, -, -, hown, hnm, hts, hKN, hfr, hlo⟩ := id C
    have hw2 : ((st.map (eV G)).map fun v => v.category).sum ≤ 8 := by
      rw [List.map_map]
      have : ((fun v : Value => v.category) ∘ eV G) = (fun v : Value => v.category) := funext fun v => eV_cat G v
      rw [this]; exact hw
    have hw3 := lv_room (m := m) (pc := pc) (ls := A) (rest := (Value.ref a :: st).map (eV G)) hw2
    exact W.objInit hx hb hown (hts _ w1) (hts _ w2) (hts _ w3) rfl (by rw [hml]; exact L.1) rfl hd (by omega) (by omega) (h.2 p e R s m args below meth c H locs cells slots A C P S L h1 h2)⟩
end RULES3
