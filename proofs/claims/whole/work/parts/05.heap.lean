theorem va_AOA.moved {ty : FieldType} {u U : State} (hvm : u.vm.Alike U.vm) (h : va_AOA ty u) : va_AOA ty U := by
  obtain ⟨comp, c, k, h1, h2, h3, h4, h5⟩ := arrayOverA_spec (show (Cond.arrayOver (.array ty)).holds #[] u none u [] = true from h)
  obtain ⟨k', hk', he⟩ := hvm.2.2 _ _ h3
  have hbb : U.vm.bare = u.vm.bare := by first | exact hvm.bare_eq | exact hvm.bare_eq.symm
  have hi : (U.vm.classes.findIdx? fun (x : Class) => match x.kind with | .array component _ => component == comp | _ => false) = some c :=
    ((va_idx_bare U.vm comp).symm.trans (by rw [hbb]; exact va_idx_bare u.vm comp)).trans h2
  have hkind : k'.kind = .array comp (.array ty) := by rw [he]; exact h4
  have f1 : U.vm.findClass (FieldType.array ty).toString = some comp := by rw [hvm.findClass]; exact h1
  have f2 : U.vm.findClass ("[" ++ (FieldType.array ty).toString) = some c := by rw [hvm.findClass]; exact h5
  unfold va_AOA Cond.before Cond.holds
  simp only [Cond.value]
  rw [f1, Option.bind_some]
  refine (congrArg (fun o : Option Nat => (o.bind (fun c => (U.vm.classes[c]?).map fun (k : Class) => match k.kind with | .array _ t => decide (t = FieldType.array ty) && decide (U.vm.findClass ("[" ++ (FieldType.array ty).toString) = some c) | _ => false) == some true)) hi).trans ?_
  simp [hk', hkind, f2]
theorem NB_form {w : Cond} (h : w ∈ NB) : ∃ a i x hs, w = .methodLinkNest a i x hs := by
  have h1 := (List.mem_filter.mp h).2
  cases w <;> first | exact ⟨_, _, _, _, rfl⟩ | (simp [isNest] at h1)
theorem Xw_moved {w : Cond} (hw : w ∈ XB) {u U : State} (hvm : u.vm.Alike U.vm) (h : va_Nw w u) : va_Nw w U := by
  have hk := (List.mem_filter.mp hw).2
  cases w <;> first
    | (simp [isXw] at hk; done)
    | (refine va_tabs rfl (rfl : (u.setVm U.vm).vm = U.vm) (A := #[]) ?_
       simp only [va_Nw, Cond.before, Cond.holds, Cond.value, State.vm_setVm, hvm.findClass, hvm.assignable] at h ⊢
       exact h)
    | (refine va_tabs rfl (rfl : (u.setVm U.vm).vm = U.vm) (A := #[]) ?_
       rw [Cond.declares_setVm hvm]
       exact h)
theorem XK.go {G : Gl} {u U : State} {H H1 : Heap} (hal : u.vm.Alike U.vm) (hs : ∀ q ∈ SB, ∃ sa : Nat, vk_R "PennyJudge" q.1 q.2 sa U) (hq : ∀ a : Nat, a < H.size → ¬ fr G a → H1[a]? = H[a]?) (h : XK G u H) : XK G U H1 :=
  ⟨h.1, fun w hw => Xw_moved hw hal (h.2.1 w hw), ⟨(vx_Zq.moved hal h.2.2.1.1).kept hq, (vx_Zq.moved hal h.2.2.1.2).kept hq⟩, hs, va_Nc.moved hal h.2.2.2.2⟩
theorem XK.warm {G : Gl} {u U : State} {H H1 : Heap} (hW : u.WarmedH U.vm) (hq : ∀ a : Nat, a < H.size → ¬ fr G a → H1[a]? = H[a]?) (h : XK G u H) : XK G U H1 :=
  XK.go hW.alike (fun q hq9 => by
    obtain ⟨sa, hsa⟩ := h.2.2.2.1 q hq9
    exact ⟨sa, vk_R.warm hW hsa⟩) hq h
theorem XK.same {G : Gl} {u U : State} {H H1 : Heap} (hv : u.vm = U.vm) (hq : ∀ a : Nat, a < H.size → ¬ fr G a → H1[a]? = H[a]?) (h : XK G u H) : XK G U H1 :=
  XK.go (by rw [← hv]; exact Vm.Alike.refl _) (fun q hq9 => by
    obtain ⟨sa, hsa⟩ := h.2.2.2.1 q hq9
    exact ⟨sa, vk_R.same hv.symm hsa⟩) hq h
theorem KN.go {G : Gl} {u U : State} {H H1 : Heap} (hal : u.vm.Alike U.vm) (hxk : XK G U H1) (hn : ∀ w ∈ NB, va_Nw w U) (hq : ∀ a : Nat, a < H.size → ¬ fr G a → H1[a]? = H[a]?) (h : KN G u H) : KN G U H1 :=
  ⟨va_K.moved hal h.1, hn, ⟨va_AO.moved hal h.2.2.1.1, va_AO.moved hal h.2.2.1.2.1, va_AOA.moved hal h.2.2.1.2.2.1, hxk⟩, va_Z.kept (va_Z.moved hal h.2.2.2.1) hq, va_Z.kept (va_Z.moved hal h.2.2.2.2.1) hq, va_Z.kept (va_Z.moved hal h.2.2.2.2.2.1) hq, va_Z.kept (va_Z.moved hal h.2.2.2.2.2.2) hq⟩
theorem KN.warm {G : Gl} {u U : State} {H H1 : Heap} (hW : u.WarmedH U.vm) (hq : ∀ a : Nat, a < H.size → ¬ fr G a → H1[a]? = H[a]?) (h : KN G u H) : KN G U H1 :=
  KN.go hW.alike (XK.warm hW hq h.2.2.1.2.2.2) (fun w hw => by
    obtain ⟨a, i, x, hs, rfl⟩ := NB_form hw
    exact va_Nw.warmM hW (h.2.1 _ hw)) hq h
theorem KN.calling {G : Gl} {U : State} {g : JFrame} {mk : MethodId} {a : Array Value} (h : KN G U U.heap) : KN G (U.calling g mk a) (U.calling g mk a).heap :=
  KN.go (u := U) (U := U.calling g mk a) (Vm.Alike.refl U.vm) (XK.same (u := U) rfl (fun _ _ _ => rfl) h.2.2.1.2.2.2) (fun w hw => by
    obtain ⟨a, i, x, hs, rfl⟩ := NB_form hw
    exact va_Nw.same rfl (u := U) rfl (h.2.1 _ hw)) (fun _ _ _ => rfl) h
theorem Rp.moved {G : Gl} {σ : Sg} {u U : State} {H : Heap} (hvm : u.vm.Alike U.vm) (h : Rp G σ u H) : Rp G σ U H :=
  ⟨h.1, h.2.1, fun a ha => ⟨(h.2.2.1 a ha).1, va_T.moved hvm (h.2.2.1 a ha).2⟩, h.2.2.2⟩
theorem ad_new {G : Gl} {a : Nat} (h : 4 ≤ a) : ad G a = gA G + (a - 4) := if_neg (by omega)
theorem ad_inj {G : Gl} {a b : Nat} (ha : 4 ≤ a) (hb : 4 ≤ b) (h : ad G a = ad G b) : a = b := by
  rw [ad_new ha, ad_new hb] at h
  omega
theorem cP_congr {G : Gl} {σ σ1 : Sg} {H H1 : Heap} {a : Nat} (hK : sK σ1 a = sK σ a) (hI : ∀ k, gI σ1 a k = gI σ a k) (hJ : ∀ k, gJ σ1 a k = gJ σ a k) (hD : ∀ k, gD σ1 a k = gD σ a k) (hR : ∀ k, gR σ1 a k = gR σ a k) (hH : H1[ad G a]? = H[ad G a]?) (h : cP G σ H a) : cP G σ1 H1 a := by
  obtain ⟨h1, h2, h3, h4, h5, h6⟩ := h
  have eI : gI σ1 a = gI σ a := funext hI
  have eJ : gJ σ1 a = gJ σ a := funext hJ
  have eD : gD σ1 a = gD σ a := funext hD
  have eR : gR σ1 a = gR σ a := funext hR
  refine ⟨fun t => ?_, fun t => ?_, fun t => ?_, fun t => ?_, fun t b1 b2 e => ?_, fun c b1 e => ?_⟩
  · rw [hH, hK, eD]; exact h1 (by rw [← hK]; exact t)
  · rw [hH, hK, eI]; exact h2 (by rw [← hK]; exact t)
  · rw [hH, hK, eJ]; exact h3 (by rw [← hK]; exact t)
  · rw [hH, hK, eI]; exact h4 (by rw [← hK]; exact t)
  · rw [hH, hK, eR]; exact h5 t b1 b2 (by rw [← hK]; exact e)
  · obtain ⟨q, q1, q2⟩ := h6 c b1 (by rw [← hK]; exact e)
    have ef : fV G σ1 a c = fV G σ a c := by
      funext k
      unfold fV
      rw [eI, eJ, eD, eR]
    exact ⟨q, q1, by rw [ef]; exact q2.kept hH⟩
theorem Rp.upd {G : Gl} {σ σ1 : Sg} {U : State} {H H1 : Heap} {a : Nat} (h : Rp G σ U H) (ha : 4 ≤ a) (hN : sN σ1 = sN σ) (hK : ∀ b, sK σ1 b = sK σ b) (hI : ∀ b k, b ≠ a → gI σ1 b k = gI σ b k) (hJ : ∀ b k, b ≠ a → gJ σ1 b k = gJ σ b k) (hD : ∀ b k, b ≠ a → gD σ1 b k = gD σ b k) (hR : ∀ b k, b ≠ a → gR σ1 b k = gR σ b k) (hz : H1.size = H.size) (ho : ∀ q : Nat, q ≠ ad G a → H1[q]? = H[q]?) (hc : cP G σ1 H1 a) : Rp G σ1 U H1 := by
  obtain ⟨h1, h2, h3, h4⟩ := h
  have hfr : fr G (ad G a) := by rw [ad_new ha]; exact Nat.le_add_right _ _
  refine ⟨by rw [hz, hN]; exact h1, by rw [hN]; exact h2, fun b hb => ?_, fun b hb hb2 => ?_⟩
  · obtain ⟨g1, g2⟩ := h3 b hb
    refine ⟨by rw [hK]; exact g1, ?_⟩
    have e : (fun j => Value.int (gI σ1 b j)) = (fun j => Value.int (gI σ b j)) := by
      funext j
      rw [hI b j (by omega)]
    rw [hK, e]
    exact va_T.kept g2 (fun q _ hq => ho q (fun z => hq (by rw [z]; exact hfr)))
  · by_cases hab : b = a
    · subst hab; exact hc
    · exact cP_congr (hK b) (fun k => hI b k hab) (fun k => hJ b k hab) (fun k => hD b k hab) (fun k => hR b k hab) (ho _ (fun z => hab (ad_inj hb ha z))) (h4 b hb (by rw [← hN]; exact hb2))
theorem up2_ne {α : Type} {f : Nat → Nat → α} {a k b j : Nat} {v : α} (h : b ≠ a) : up2 f a k v b j = f b j := if_neg (fun q => h q.1)
theorem up2_self {α : Type} {f : Nat → Nat → α} {a k : Nat} {v : α} : up2 f a k v a k = v := if_pos ⟨rfl, rfl⟩
theorem up2_k {α : Type} {f : Nat → Nat → α} {a k j : Nat} {v : α} (h : j ≠ k) : up2 f a k v a j = f a j := if_neg (fun q => h q.2)
def okTy (t : FieldType) : Bool := match t with
  | .int => true
  | .boolean => true
  | .long => true
  | .double => true
  | .object _ => true
  | .array _ => true
  | _ => false
def clsOK (c : Nat) : Prop := ∀ q : vw_C, vwCl[c]? = some q → (∀ w ∈ u_ws q.1 q.2.1 q.2.2, w ∈ TB) ∧ (∀ k, k < q.2.2 → parseFieldDescriptor (q.2.1 k).2.2.1 = some (tyC c k)) ∧ (∀ a, a < q.2.2 → ∀ b, b < q.2.2 → a ≠ b → (q.2.1 a).2.1 ≠ (q.2.1 b).2.1) ∧ ∀ k, k < q.2.2 → okTy (tyC c k) = true
def LF (own : String) (idx c k : Nat) : Prop := c < 12 ∧ clsOK c ∧ ∃ q : vw_C, vwCl[c]? = some q ∧ k < q.2.2 ∧ Cond.fieldLink own idx (q.2.1 k).1 (q.2.1 k).2.1 (q.2.1 k).2.2.1 ∈ TB
section HEAP
variable {G : Gl} {M : Md} {p : Program} {e : Env} {R : Room} {s : State} {m : MethodId} {args : Array Value} {below : List Frame} {meth : Method} {c : Code} {H : Heap} {locs : List Loc} {cells slots : Nat} {A : Array Slot} {Q : State → Prop} {σ : Sg} {pc : Nat} {rest : List Value}
theorem W_get {idx ci k a : Nat} (C : CX G M p R s m args meth c) (P : Rp G σ s H) (hlf : LF (mOwn M) idx ci k) (h4 : 4 ≤ a) (hn : a < sN σ) (hk : (sK σ a).1 = ci) (hd : decode (mC M) pc = .ok (.getfield idx, 3)) (kk : W p (gl G) e R s m args below meth c H locs cells slots Q (F0 m (pc + 3) A (fV G σ a ci k :: rest))) : W p (gl G) e R s m args below meth c H locs cells slots Q (F0 m pc A (.ref (ad G a) :: rest)) := by
  obtain ⟨hx, hb, -, -, -, hown, -, hts, hKN, -⟩ := C
  obtain ⟨hc12, hok, q, hq, hkN, hlink⟩ := hlf
  obtain ⟨q', hq', cell, q1, q2, q3, q4⟩ := (P.2.2.2 a h4 hn).2.2.2.2.2 ci hc12 hk
  cases hq.symm.trans hq'
  obtain ⟨o1, o2, o3, o4⟩ := hok q hq
  obtain ⟨hS, hfc, kC, hkC, hkind⟩ := hKN.1.1 ci _ hq
  obtain ⟨cf, kf, fi, f, hi, hsl⟩ := hS k hkN
  refine W.getf hx hb hown (hts _ hlink) hi (u_facts hfc hkC (u_lays hts o1 hkN) hi).1 q1 (by rw [q3]; exact fun h => by cases h) (v := fV G σ a ci k) ?_ rfl rfl hd kk
  rw [hsl, q4 k hkN]
theorem W_put {idx ci k a : Nat} {v : Value} {σ1 : Sg} (C : CX G M p R s m args meth c) (P : Rp G σ s H) (S : va_S (fr G) s.heap H locs) (hlf : LF (mOwn M) idx ci k) (h4 : 4 ≤ a) (hn : a < sN σ) (hk : (sK σ a).1 = ci)
    (hfin : ∀ q : vw_C, vwCl[ci]? = some q → (q.2.1 k).2.2.2 = false ∨ ((q.2.1 k).2.2.2 = true ∧ (mY M).name = "<init>" ∧ (q.2.1 k).1 = mOwn M))
    (hnr : narrow (tyC ci k) v = v) (hft : fits (tyC ci k) v = true)
    (hN : sN σ1 = sN σ) (hK : ∀ b, sK σ1 b = sK σ b) (hI : ∀ b j, b ≠ a → gI σ1 b j = gI σ b j) (hJ : ∀ b j, b ≠ a → gJ σ1 b j = gJ σ b j) (hD : ∀ b j, b ≠ a → gD σ1 b j = gD σ b j) (hR : ∀ b j, b ≠ a → gR σ1 b j = gR σ b j)
    (hv : fV G σ1 a ci k = v) (hv2 : ∀ j, j ≠ k → fV G σ1 a ci j = fV G σ a ci j)
    (hd : decode (mC M) pc = .ok (.putfield idx, 3)) (kk : ∀ (H1 : Heap) (locs1 : List Loc), Rp G σ1 s H1 → va_S (fr G) s.heap H1 locs1 → W p (gl G) e R s m args below meth c H1 locs1 cells slots Q (F0 m (pc + 3) A rest)) : W p (gl G) e R s m args below meth c H locs cells slots Q (F0 m pc A (v :: .ref (ad G a) :: rest)) := by
  obtain ⟨hx, hb, -, -, -, hown, hnm, hts, hKN, -⟩ := C
  obtain ⟨hc12, hok, q, hq, hkN, hlink⟩ := hlf
  obtain ⟨q', hq', cell, q1, q2, q3, q4⟩ := (P.2.2.2 a h4 hn).2.2.2.2.2 ci hc12 hk
  cases hq.symm.trans hq'
  obtain ⟨o1, o2, o3, o4⟩ := hok q hq
  obtain ⟨C0, T0, N0⟩ := q
  have hap := va_apart (own := mOwn M) hts o1 (tyC ci) o2 o3 hKN.1 hq
  obtain ⟨hS, hfc, kC, hkC, hkind⟩ := hKN.1.1 ci _ hq
  obtain ⟨cf, kf, fi, f, hi, hsl⟩ := hS k hkN
  have hlay := hts _ (o1 _ (u_in_lay hkN))
  unfold u_lay at hlay
  have hst := (u_facts hfc hkC (u_lays hts o1 hkN) hi).1
  have hfr : fr G (ad G a) := by rw [ad_new h4]; exact Nat.le_add_right _ _
  have last : ∀ H' : Heap, H'[ad G a]? = some (cell.setSlot ((gC G).2 ci k) v) → H'.size = H.size → (∀ q : Nat, q ≠ ad G a → H'[q]? = H[q]?) → Rp G σ1 s H' := by
    intro H' e1 e2 e3
    refine P.upd h4 hN hK hI hJ hD hR e2 e3 ?_
    have hno : ∀ t, (sK σ1 a).1 = t → t = ci := fun t e => by rw [← e, hK, hk]
    refine ⟨fun t => ?_, fun t => ?_, fun t => ?_, fun t => ?_, fun t b1 b2 e => ?_, fun c' b1 e => ?_⟩
    · have := hno _ t; omega
    · have := hno _ t; omega
    · have := hno _ t; omega
    · have := hno _ t; omega
    · have := hno _ e; omega
    · have hcc := hno _ e
      subst hcc
      refine ⟨_, hq, t_OB.to (V := updV (fV G σ a c') k v) ⟨_, e1, q2, q3, t_set q4 hap hkN v⟩ (fun j _ => ?_)⟩
      by_cases hj : j = k
      · subst hj; simp [updV, hv]
      · simp [updV, hj, hv2 j hj]
  rcases hfin _ hq with hf | ⟨hf, hni, hdecl⟩
  · dsimp only at hf
    rw [if_neg (by rw [hf]; decide)] at hlay
    have h6 := u_store hfc hkC hkind hlay hi (o2 k hkN) hnr hft
    refine W.putK hx hb (f := f) ⟨hown, hts _ hlink, ⟨_, _, _, hi⟩, hst⟩ (by rw [q2]; exact h6) q1 q3 (by rw [hsl]; exact k2_hasslot (q4 k hkN)) rfl rfl hd fun H' e1 e2 e3 => ?_
    rw [hsl] at e1 ⊢
    exact kk H' _ (last H' e1 e2 e3) (S.put e2 e3 hfr)
  · dsimp only at hf hdecl
    rw [if_pos hf] at hlay
    have hcf : m.cls = cf := by
      obtain ⟨_, _, c', _, _, _, -, -, hf', -, -, -, hown2, -⟩ := Cond.laysFinal_spec hlay
      have e1 : c' = cf := by have := hi.symm.trans hf'; simp at this; exact this.1.symm
      rw [hdecl] at hown2
      rw [← e1]; exact Option.some.inj (hown.symm.trans hown2)
    have h6 := u_fits hfc hkC hkind (Or.inr hlay) hi (o2 k hkN) hnr hft
    refine W.putFinK hx hb hown (hts _ hlink) hi hst hcf (hnm.trans hni) (by rw [q2]; exact h6) q1 q3 (by rw [hsl]; exact k2_hasslot (q4 k hkN)) rfl rfl hd fun H' e1 e2 e3 => ?_
    rw [hsl] at e1 ⊢
    exact kk H' _ (last H' e1 e2 e3) (S.put e2 e3 hfr)
end HEAP
