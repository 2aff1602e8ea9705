theorem eV_new {G : Gl} {a : Nat} : eV G (.ref a) = .ref (ad G a) := rfl
theorem fV_I {G : Gl} {σ : Sg} {a c k : Nat} (h : tyC c k = .int ∨ tyC c k = .boolean) : fV G σ a c k = .int (gI σ a k) := by
  unfold fV
  rcases h with h | h <;> rw [h]
theorem fV_J {G : Gl} {σ : Sg} {a c k : Nat} (h : tyC c k = .long) : fV G σ a c k = .long (gJ σ a k) := by
  unfold fV; rw [h]
theorem fV_D {G : Gl} {σ : Sg} {a c k : Nat} (h : tyC c k = .double) : fV G σ a c k = .double (gD σ a k) := by
  unfold fV; rw [h]
def isRf (t : FieldType) : Bool := match t with
  | .object _ => true
  | .array _ => true
  | _ => false
theorem fV_R {G : Gl} {σ : Sg} {a c k : Nat} (h : isRf (tyC c k) = true) : fV G σ a c k = va_rf (rO G (gR σ a k)) := by
  unfold fV
  cases hh : tyC c k <;> simp_all [isRf]
theorem rO_ref {G : Gl} {n : Nat} (h : ¬ n = 0) : va_rf (rO G n) = .ref (ad G n) := by
  unfold rO; rw [if_neg h]; rfl
theorem fV_same {G : Gl} {σ σ1 : Sg} {a c j : Nat} (hI : gI σ1 a j = gI σ a j) (hJ : gJ σ1 a j = gJ σ a j) (hD : gD σ1 a j = gD σ a j) (hR : gR σ1 a j = gR σ a j) : fV G σ1 a c j = fV G σ a c j := by
  unfold fV
  rw [hI, hJ, hD, hR]
theorem nar_ref {t : FieldType} (h : isRf t = true) (n : Nat) : narrow t (.ref n) = .ref n ∧ fits t (.ref n) = true := by
  cases t <;> first | (simp [isRf] at h; done) | exact ⟨rfl, rfl⟩
theorem nar_z {x : Int32} (h : x = 0 ∨ x = 1) : narrow .boolean (.int x) = .int x ∧ fits .boolean (.int x) = true := by
  rcases h with rfl | rfl <;> exact ⟨rfl, rfl⟩
abbrev okO (σ : Sg) (a c : Nat) : Prop := 4 ≤ a ∧ a < sN σ ∧ (sK σ a).1 = c
abbrev okA (σ : Sg) (a t : Nat) (i : Int32) : Prop := a < sN σ ∧ (sK σ a).1 = t ∧ ¬ (i < 0 ∨ (sK σ a).2 ≤ i.toNatClampNeg)
abbrev okW (σ : Sg) (a t : Nat) (i : Int32) : Prop := 4 ≤ a ∧ okA σ a t i
def fin0 (M : Md) (c k : Nat) : Prop := ∀ q : vw_C, vwCl[c]? = some q → (q.2.1 k).2.2.2 = false ∨ ((q.2.1 k).2.2.2 = true ∧ (mY M).name = "<init>" ∧ (q.2.1 k).1 = mOwn M)
section RULES2
variable {G : Gl} {M : Md} {pc : Nat} {ls ls2 : List (Option Value)} {st : List Value} {σ σ' : Sg} {r : Option Value ⊕ String}
theorem RN_getI {idx ci k a : Nat} (hd : decode (mC M) pc = .ok (.getfield idx, 3)) (hlf : LF (mOwn M) idx ci k) (ht : tyC ci k = .int ∨ tyC ci k = .boolean) (ho : okO σ a ci) (h : RN G M (pc + 3) ls (.int (gI σ a k) :: st) σ r σ') : RN G M pc ls (.ref a :: st) σ r σ' :=
  ⟨h.1, fun p e R s m args below meth c H locs cells slots A C P S L h1 h2 => W_get C P hlf ho.1 ho.2.1 ho.2.2 hd (by rw [fV_I ht]; exact h.2 p e R s m args below meth c H locs cells slots A C P S L h1 h2)⟩
theorem RN_getJ {idx ci k a : Nat} (hd : decode (mC M) pc = .ok (.getfield idx, 3)) (hlf : LF (mOwn M) idx ci k) (ht : tyC ci k = .long) (ho : okO σ a ci) (h : RN G M (pc + 3) ls (.long (gJ σ a k) :: st) σ r σ') : RN G M pc ls (.ref a :: st) σ r σ' :=
  ⟨h.1, fun p e R s m args below meth c H locs cells slots A C P S L h1 h2 => W_get C P hlf ho.1 ho.2.1 ho.2.2 hd (by rw [fV_J ht]; exact h.2 p e R s m args below meth c H locs cells slots A C P S L h1 h2)⟩
theorem RN_getD {idx ci k a : Nat} (hd : decode (mC M) pc = .ok (.getfield idx, 3)) (hlf : LF (mOwn M) idx ci k) (ht : tyC ci k = .double) (ho : okO σ a ci) (h : RN G M (pc + 3) ls (.double (gD σ a k) :: st) σ r σ') : RN G M pc ls (.ref a :: st) σ r σ' :=
  ⟨h.1, fun p e R s m args below meth c H locs cells slots A C P S L h1 h2 => W_get C P hlf ho.1 ho.2.1 ho.2.2 hd (by rw [fV_D ht]; exact h.2 p e R s m args below meth c H locs cells slots A C P S L h1 h2)⟩
theorem RN_getR {idx ci k a : Nat} (hd : decode (mC M) pc = .ok (.getfield idx, 3)) (hlf : LF (mOwn M) idx ci k) (ht : isRf (tyC ci k) = true) (ho : okO σ a ci) (hz : ¬ gR σ a k = 0) (h : RN G M (pc + 3) ls (.ref (gR σ a k) :: st) σ r σ') : RN G M pc ls (.ref a :: st) σ r σ' :=
  ⟨h.1, fun p e R s m args below meth c H locs cells slots A C P S L h1 h2 => W_get C P hlf ho.1 ho.2.1 ho.2.2 hd (by rw [fV_R ht, rO_ref hz]; exact h.2 p e R s m args below meth c H locs cells slots A C P S L h1 h2)⟩
theorem fv_stI {a c k j : Nat} {x : Int32} (hj : j ≠ k) : fV G (pI σ a k x) a c j = fV G σ a c j := fV_same (up2_k hj) rfl rfl rfl
theorem fv_stJ {a c k j : Nat} {x : Int64} (hj : j ≠ k) : fV G (pJ σ a k x) a c j = fV G σ a c j := fV_same rfl (up2_k hj) rfl rfl
theorem fv_stD {a c k j : Nat} {x : UInt64} (hj : j ≠ k) : fV G (pD σ a k x) a c j = fV G σ a c j := fV_same rfl rfl (up2_k hj) rfl
theorem fv_stR {a c k j : Nat} {x : Nat} (hj : j ≠ k) : fV G (pR σ a k x) a c j = fV G σ a c j := fV_same rfl rfl rfl (up2_k hj)
theorem RN_putI {idx ci k a : Nat} {x : Int32} (hd : decode (mC M) pc = .ok (.putfield idx, 3)) (hlf : LF (mOwn M) idx ci k) (ht : tyC ci k = .int) (hf : fin0 M ci k) (ho : okO σ a ci) (h : RN G M (pc + 3) ls st (pI σ a k x) r σ') : RN G M pc ls (.int x :: .ref a :: st) σ r σ' :=
  ⟨h.1, fun p e R s m args below meth c H locs cells slots A C P S L h1 h2 => W_put (σ1 := pI σ a k x) C P S hlf ho.1 ho.2.1 ho.2.2 hf (by rw [ht]; rfl) (by rw [ht]; rfl) rfl (fun _ => rfl)
    (fun b j hb => up2_ne hb)
    (fun b j hb => rfl)
    (fun b j hb => rfl)
    (fun b j hb => rfl)
    ((fV_I (Or.inl ht)).trans (congrArg Value.int up2_self))
    (fun j hj => fv_stI hj) hd (fun H1 locs1 P1 S1 => h.2 p e R s m args below meth c H1 locs1 cells slots A C P1 S1 L h1 h2)⟩
theorem RN_putZ {idx ci k a : Nat} {x : Int32} (hd : decode (mC M) pc = .ok (.putfield idx, 3)) (hlf : LF (mOwn M) idx ci k) (ht : tyC ci k = .boolean) (hf : fin0 M ci k) (hx : x = 0 ∨ x = 1) (ho : okO σ a ci) (h : RN G M (pc + 3) ls st (pI σ a k x) r σ') : RN G M pc ls (.int x :: .ref a :: st) σ r σ' :=
  ⟨h.1, fun p e R s m args below meth c H locs cells slots A C P S L h1 h2 => W_put (σ1 := pI σ a k x) C P S hlf ho.1 ho.2.1 ho.2.2 hf (by rw [ht]; exact (nar_z hx).1) (by rw [ht]; exact (nar_z hx).2) rfl (fun _ => rfl)
    (fun b j hb => up2_ne hb)
    (fun b j hb => rfl)
    (fun b j hb => rfl)
    (fun b j hb => rfl)
    ((fV_I (Or.inr ht)).trans (congrArg Value.int up2_self))
    (fun j hj => fv_stI hj) hd (fun H1 locs1 P1 S1 => h.2 p e R s m args below meth c H1 locs1 cells slots A C P1 S1 L h1 h2)⟩
theorem RN_putJ {idx ci k a : Nat} {x : Int64} (hd : decode (mC M) pc = .ok (.putfield idx, 3)) (hlf : LF (mOwn M) idx ci k) (ht : tyC ci k = .long) (hf : fin0 M ci k) (ho : okO σ a ci) (h : RN G M (pc + 3) ls st (pJ σ a k x) r σ') : RN G M pc ls (.long x :: .ref a :: st) σ r σ' :=
  ⟨h.1, fun p e R s m args below meth c H locs cells slots A C P S L h1 h2 => W_put (σ1 := pJ σ a k x) C P S hlf ho.1 ho.2.1 ho.2.2 hf (by rw [ht]; rfl) (by rw [ht]; rfl) rfl (fun _ => rfl)
    (fun b j hb => rfl)
    (fun b j hb => up2_ne hb)
    (fun b j hb => rfl)
    (fun b j hb => rfl)
    ((fV_J ht).trans (congrArg Value.long up2_self))
    (fun j hj => fv_stJ hj) hd (fun H1 locs1 P1 S1 => h.2 p e R s m args below meth c H1 locs1 cells slots A C P1 S1 L h1 h2)⟩
theorem RN_putD {idx ci k a : Nat} {x : UInt64} (hd : decode (mC M) pc = .ok (.putfield idx, 3)) (hlf : LF (mOwn M) idx ci k) (ht : tyC ci k = .double) (hf : fin0 M ci k) (ho : okO σ a ci) (h : RN G M (pc + 3) ls st (pD σ a k x) r σ') : RN G M pc ls (.double x :: .ref a :: st) σ r σ' :=
  ⟨h.1, fun p e R s m args below meth c H locs cells slots A C P S L h1 h2 => W_put (σ1 := pD σ a k x) C P S hlf ho.1 ho.2.1 ho.2.2 hf (by rw [ht]; rfl) (by rw [ht]; rfl) rfl (fun _ => rfl)
    (fun b j hb => rfl)
    (fun b j hb => rfl)
    (fun b j hb => up2_ne hb)
    (fun b j hb => rfl)
    ((fV_D ht).trans (congrArg Value.double up2_self))
    (fun j hj => fv_stD hj) hd (fun H1 locs1 P1 S1 => h.2 p e R s m args below meth c H1 locs1 cells slots A C P1 S1 L h1 h2)⟩
theorem RN_putR {idx ci k a : Nat} {x : Nat} (hd : decode (mC M) pc = .ok (.putfield idx, 3)) (hlf : LF (mOwn M) idx ci k) (ht : isRf (tyC ci k) = true) (hf : fin0 M ci k) (hx : ¬ x = 0) (ho : okO σ a ci) (h : RN G M (pc + 3) ls st (pR σ a k x) r σ') : RN G M pc ls (.ref x :: .ref a :: st) σ r σ' :=
  ⟨h.1, fun p e R s m args below meth c H locs cells slots A C P S L h1 h2 => W_put (σ1 := pR σ a k x) C P S hlf ho.1 ho.2.1 ho.2.2 hf (nar_ref ht _).1 (nar_ref ht _).2 rfl (fun _ => rfl)
    (fun b j hb => rfl)
    (fun b j hb => rfl)
    (fun b j hb => rfl)
    (fun b j hb => up2_ne hb)
    ((fV_R ht).trans (by show va_rf (rO G (up2 _ _ _ _ _ _)) = _; rw [up2_self, rO_ref hx]; rfl))
    (fun j hj => fv_stR hj) hd (fun H1 locs1 P1 S1 => h.2 p e R s m args below meth c H1 locs1 cells slots A C P1 S1 L h1 h2)⟩
theorem RN_iald {a : Nat} {i : Int32} (hd : decode (mC M) pc = .ok (.iaload, 1)) (ho : okA σ a 13 i) (h : RN G M (pc + 1) ls (.int (gI σ a i.toNatClampNeg) :: st) σ r σ') : RN G M pc ls (.int i :: .ref a :: st) σ r σ' :=
  ⟨h.1, fun p e R s m args below meth c H locs cells slots A C P S L h1 h2 => by
    by_cases h4 : 4 ≤ a
    · have hc := (P.2.2.2 a h4 ho.1).2.1 ho.2.1
      have hlt : i.toNatClampNeg < (sK σ a).2 := Nat.not_le.mp fun q => ho.2.2 (Or.inr q)
      exact W.iald (v := .int (gI σ a i.toNatClampNeg)) C.1 C.2.1 hc ((C.2.2.2.2.2.2.2.2.1.1.2 1 _ rfl).1 _ _) (fun q => by cases q) (by rw [arrV_size]; exact ho.2.2) (by rw [arrV_read _ _ hlt]) rfl rfl hd (h.2 p e R s m args below meth c H locs cells slots A C P S L h1 h2)
    · obtain ⟨cell, e1, e2, e3, e5, e6, e7, e8⟩ := (P.2.2.1 a (by omega)).2
      have hlt : i.toNatClampNeg < (sK σ a).2 := Nat.not_le.mp fun q => ho.2.2 (Or.inr q)
      exact W.iald (v := .int (gI σ a i.toNatClampNeg)) (a := ad G a) C.1 C.2.1 (by rw [show ad G a = gO G a from if_pos (by omega)]; exact e1) e2 e3 (fun q => by
        rcases q with q | q
        · exact ho.2.2 (Or.inl q)
        · omega) (e7 _ hlt) rfl rfl hd (h.2 p e R s m args below meth c H locs cells slots A C P S L h1 h2)⟩
theorem okA_4 {a t : Nat} {i : Int32} {s : State} {H : Heap} (P : Rp G σ s H) (ho : okA σ a t i) (ht : t ≠ 13) : 4 ≤ a := by
  rcases Nat.lt_or_ge a 4 with q | q
  · exact absurd (ho.2.1.symm.trans (P.2.2.1 a q).1) ht
  · exact q
theorem RN_lald {a : Nat} {i : Int32} (hd : decode (mC M) pc = .ok (.laload, 1)) (ho : okA σ a 14 i) (h : RN G M (pc + 1) ls (.long (gJ σ a i.toNatClampNeg) :: st) σ r σ') : RN G M pc ls (.int i :: .ref a :: st) σ r σ' :=
  ⟨h.1, fun p e R s m args below meth c H locs cells slots A C P S L h1 h2 => by
    have hc := (P.2.2.2 a (okA_4 P ho (by decide)) ho.1).2.2.1 ho.2.1
    have hlt : i.toNatClampNeg < (sK σ a).2 := Nat.not_le.mp fun q => ho.2.2 (Or.inr q)
    exact W.lald (v := .long (gJ σ a i.toNatClampNeg)) C.1 C.2.1 hc ((C.2.2.2.2.2.2.2.2.1.1.2 2 _ rfl).1 _ _) (fun q => by cases q) (by rw [arrV_size]; exact ho.2.2) (by rw [arrV_read _ _ hlt]) rfl rfl hd (h.2 p e R s m args below meth c H locs cells slots A C P S L h1 h2)⟩
theorem RN_zald {a : Nat} {i : Int32} (hd : decode (mC M) pc = .ok (.baload, 1)) (ho : okA σ a 15 i) (h : RN G M (pc + 1) ls (.int (gI σ a i.toNatClampNeg) :: st) σ r σ') : RN G M pc ls (.int i :: .ref a :: st) σ r σ' :=
  ⟨h.1, fun p e R s m args below meth c H locs cells slots A C P S L h1 h2 => by
    have hc := (P.2.2.2 a (okA_4 P ho (by decide)) ho.1).2.2.2.1 ho.2.1
    have hlt : i.toNatClampNeg < (sK σ a).2 := Nat.not_le.mp fun q => ho.2.2 (Or.inr q)
    exact W.zald (v := .int (gI σ a i.toNatClampNeg)) C.1 C.2.1 hc ((C.2.2.2.2.2.2.2.2.1.1.2 3 _ rfl).1 _ _) (fun q => by cases q) (by rw [arrV_size]; exact ho.2.2) (by rw [arrV_read _ _ hlt]) rfl rfl hd (h.2 p e R s m args below meth c H locs cells slots A C P S L h1 h2)⟩
theorem RN_dald {a : Nat} {i : Int32} (hd : decode (mC M) pc = .ok (.daload, 1)) (ho : okA σ a 12 i) (h : RN G M (pc + 1) ls (.double (gD σ a i.toNatClampNeg) :: st) σ r σ') : RN G M pc ls (.int i :: .ref a :: st) σ r σ' :=
  ⟨h.1, fun p e R s m args below meth c H locs cells slots A C P S L h1 h2 => by
    have hc := (P.2.2.2 a (okA_4 P ho (by decide)) ho.1).1 ho.2.1
    have hlt : i.toNatClampNeg < (sK σ a).2 := Nat.not_le.mp fun q => ho.2.2 (Or.inr q)
    exact W.dald (v := .double (gD σ a i.toNatClampNeg)) C.1 C.2.1 hc ((C.2.2.2.2.2.2.2.2.1.1.2 0 _ rfl).1 _ _) (fun q => by cases q) (by rw [arrV_size]; exact ho.2.2) (by rw [arrV_read _ _ hlt]) rfl rfl hd (h.2 p e R s m args below meth c H locs cells slots A C P S L h1 h2)⟩
theorem RN_aald16 {a : Nat} {i : Int32} (hd : decode (mC M) pc = .ok (.aaload, 1)) (ho : okA σ a 16 i) (hz : ¬ gR σ a i.toNatClampNeg = 0) (h : RN G M (pc + 1) ls (.ref (gR σ a i.toNatClampNeg) :: st) σ r σ') : RN G M pc ls (.int i :: .ref a :: st) σ r σ' :=
  ⟨h.1, fun p e R s m args below meth c H locs cells slots A C P S L h1 h2 => by
    have hc := (P.2.2.2 a (okA_4 P ho (by decide)) ho.1).2.2.2.2.1 16 (by decide) (by decide) ho.2.1
    have hlt : i.toNatClampNeg < (sK σ a).2 := Nat.not_le.mp fun q => ho.2.2 (Or.inr q)
    exact W.aald (v := .ref (ad G (gR σ a i.toNatClampNeg))) (ty := (.object "PennyJudge$Program")) C.1 C.2.1 hc ((C.2.2.2.2.2.2.2.2.1.1.2 4 _ rfl).1 _ _) rfl (fun q => by cases q) (by rw [arrV_size]; exact ho.2.2) (by rw [arrV_read _ _ hlt, rO_ref hz]) rfl rfl hd (h.2 p e R s m args below meth c H locs cells slots A C P S L h1 h2)⟩
theorem RN_aald17 {a : Nat} {i : Int32} (hd : decode (mC M) pc = .ok (.aaload, 1)) (ho : okA σ a 17 i) (hz : ¬ gR σ a i.toNatClampNeg = 0) (h : RN G M (pc + 1) ls (.ref (gR σ a i.toNatClampNeg) :: st) σ r σ') : RN G M pc ls (.int i :: .ref a :: st) σ r σ' :=
  ⟨h.1, fun p e R s m args below meth c H locs cells slots A C P S L h1 h2 => by
    have hc := (P.2.2.2 a (okA_4 P ho (by decide)) ho.1).2.2.2.2.1 17 (by decide) (by decide) ho.2.1
    have hlt : i.toNatClampNeg < (sK σ a).2 := Nat.not_le.mp fun q => ho.2.2 (Or.inr q)
    exact W.aald (v := .ref (ad G (gR σ a i.toNatClampNeg))) (ty := (.object "PennyJudge$Tape")) C.1 C.2.1 hc ((C.2.2.2.2.2.2.2.2.1.1.2 5 _ rfl).1 _ _) rfl (fun q => by cases q) (by rw [arrV_size]; exact ho.2.2) (by rw [arrV_read _ _ hlt, rO_ref hz]) rfl rfl hd (h.2 p e R s m args below meth c H locs cells slots A C P S L h1 h2)⟩
theorem RN_aald18 {a : Nat} {i : Int32} (hd : decode (mC M) pc = .ok (.aaload, 1)) (ho : okA σ a 18 i) (hz : ¬ gR σ a i.toNatClampNeg = 0) (h : RN G M (pc + 1) ls (.ref (gR σ a i.toNatClampNeg) :: st) σ r σ') : RN G M pc ls (.int i :: .ref a :: st) σ r σ' :=
  ⟨h.1, fun p e R s m args below meth c H locs cells slots A C P S L h1 h2 => by
    have hc := (P.2.2.2 a (okA_4 P ho (by decide)) ho.1).2.2.2.2.1 18 (by decide) (by decide) ho.2.1
    have hlt : i.toNatClampNeg < (sK σ a).2 := Nat.not_le.mp fun q => ho.2.2 (Or.inr q)
    exact W.aald (v := .ref (ad G (gR σ a i.toNatClampNeg))) (ty := (.array .int)) C.1 C.2.1 hc ((C.2.2.2.2.2.2.2.2.1.1.2 6 _ rfl).1 _ _) rfl (fun q => by cases q) (by rw [arrV_size]; exact ho.2.2) (by rw [arrV_read _ _ hlt, rO_ref hz]) rfl rfl hd (h.2 p e R s m args below meth c H locs cells slots A C P S L h1 h2)⟩
theorem RN_iast {a : Nat} {i : Int32} {x : Int32} (hd : decode (mC M) pc = .ok (.iastore, 1)) (ho : okW σ a 13 i) (h : RN G M (pc + 1) ls st (pI σ a i.toNatClampNeg x) r σ') : RN G M pc ls (.int x :: .int i :: .ref a :: st) σ r σ' :=
  ⟨h.1, fun p e R s m args below meth c H locs cells slots A C P S L h1 h2 => by
    have hc := (P.2.2.2 a ho.1 ho.2.1).2.1 ho.2.2.1
    have hfr : fr G (ad G a) := by rw [ad_new ho.1]; exact Nat.le_add_right _ _
    refine W.iast C.1 C.2.1 hc ((C.2.2.2.2.2.2.2.2.1.1.2 1 _ rfl).1 _ _) (fun q => by cases q) (by rw [arrV_size]; exact ho.2.2.2) rfl rfl hd fun H1 e z oq => ?_
    refine h.2 p _ R s m args below meth c H1 _ cells slots A C ?_ (S.put z oq hfr) L h1 h2
    refine P.upd (σ1 := pI σ a i.toNatClampNeg x) ho.1 rfl (fun _ => rfl) (fun b j hb => up2_ne hb) (fun b j hb => rfl) (fun b j hb => rfl) (fun b j hb => rfl) z oq ⟨fun q => absurd (ho.2.2.1.symm.trans q) (by decide), fun _ => ?_, fun q => absurd (ho.2.2.1.symm.trans q) (by decide), fun q => absurd (ho.2.2.1.symm.trans q) (by decide), fun t b1 b2 q => absurd (ho.2.2.1.symm.trans q) (by omega), fun c b1 q => absurd (ho.2.2.1.symm.trans q) (by omega)⟩
    rw [e, arrV_store]
    congr 2
    funext q
    by_cases hq : q = i.toNatClampNeg
    · subst hq
      simp only [updV, if_true]
      exact congrArg _ up2_self.symm
    · simp only [updV, if_neg hq]
      exact congrArg _ (up2_k hq).symm⟩
theorem RN_last {a : Nat} {i : Int32} {x : Int64} (hd : decode (mC M) pc = .ok (.lastore, 1)) (ho : okW σ a 14 i) (h : RN G M (pc + 1) ls st (pJ σ a i.toNatClampNeg x) r σ') : RN G M pc ls (.long x :: .int i :: .ref a :: st) σ r σ' :=
  ⟨h.1, fun p e R s m args below meth c H locs cells slots A C P S L h1 h2 => by
    have hc := (P.2.2.2 a ho.1 ho.2.1).2.2.1 ho.2.2.1
    have hfr : fr G (ad G a) := by rw [ad_new ho.1]; exact Nat.le_add_right _ _
    refine W.last C.1 C.2.1 hc ((C.2.2.2.2.2.2.2.2.1.1.2 2 _ rfl).1 _ _) (fun q => by cases q) (by rw [arrV_size]; exact ho.2.2.2) rfl rfl hd fun H1 e z oq => ?_
    refine h.2 p _ R s m args below meth c H1 _ cells slots A C ?_ (S.put z oq hfr) L h1 h2
    refine P.upd (σ1 := pJ σ a i.toNatClampNeg x) ho.1 rfl (fun _ => rfl) (fun b j hb => rfl) (fun b j hb => up2_ne hb) (fun b j hb => rfl) (fun b j hb => rfl) z oq ⟨fun q => absurd (ho.2.2.1.symm.trans q) (by decide), fun q => absurd (ho.2.2.1.symm.trans q) (by decide), fun _ => ?_, fun q => absurd (ho.2.2.1.symm.trans q) (by decide), fun t b1 b2 q => absurd (ho.2.2.1.symm.trans q) (by omega), fun c b1 q => absurd (ho.2.2.1.symm.trans q) (by omega)⟩
    rw [e, arrV_store]
    congr 2
    funext q
    by_cases hq : q = i.toNatClampNeg
    · subst hq
      simp only [updV, if_true]
      exact congrArg _ up2_self.symm
    · simp only [updV, if_neg hq]
      exact congrArg _ (up2_k hq).symm⟩
theorem RN_dast {a : Nat} {i : Int32} {x : UInt64} (hd : decode (mC M) pc = .ok (.dastore, 1)) (ho : okW σ a 12 i) (h : RN G M (pc + 1) ls st (pD σ a i.toNatClampNeg x) r σ') : RN G M pc ls (.double x :: .int i :: .ref a :: st) σ r σ' :=
  ⟨h.1, fun p e R s m args below meth c H locs cells slots A C P S L h1 h2 => by
    have hc := (P.2.2.2 a ho.1 ho.2.1).1 ho.2.2.1
    have hfr : fr G (ad G a) := by rw [ad_new ho.1]; exact Nat.le_add_right _ _
    refine W.dast C.1 C.2.1 hc ((C.2.2.2.2.2.2.2.2.1.1.2 0 _ rfl).1 _ _) (fun q => by cases q) (by rw [arrV_size]; exact ho.2.2.2) rfl rfl hd fun H1 e z oq => ?_
    refine h.2 p _ R s m args below meth c H1 _ cells slots A C ?_ (S.put z oq hfr) L h1 h2
    refine P.upd (σ1 := pD σ a i.toNatClampNeg x) ho.1 rfl (fun _ => rfl) (fun b j hb => rfl) (fun b j hb => rfl) (fun b j hb => up2_ne hb) (fun b j hb => rfl) z oq ⟨fun _ => ?_, fun q => absurd (ho.2.2.1.symm.trans q) (by decide), fun q => absurd (ho.2.2.1.symm.trans q) (by decide), fun q => absurd (ho.2.2.1.symm.trans q) (by decide), fun t b1 b2 q => absurd (ho.2.2.1.symm.trans q) (by omega), fun c b1 q => absurd (ho.2.2.1.symm.trans q) (by omega)⟩
    rw [e, arrV_store]
    congr 2
    funext q
    by_cases hq : q = i.toNatClampNeg
    · subst hq
      simp only [updV, if_true]
      exact congrArg _ up2_self.symm
    · simp only [updV, if_neg hq]
      exact congrArg _ (up2_k hq).symm⟩
theorem RN_zast {a : Nat} {i : Int32} {x : Int32} (hd : decode (mC M) pc = .ok (.bastore, 1)) (hx : x = 0 ∨ x = 1) (ho : okW σ a 15 i) (h : RN G M (pc + 1) ls st (pI σ a i.toNatClampNeg x) r σ') : RN G M pc ls (.int x :: .int i :: .ref a :: st) σ r σ' :=
  ⟨h.1, fun p e R s m args below meth c H locs cells slots A C P S L h1 h2 => by
    have hc := (P.2.2.2 a ho.1 ho.2.1).2.2.2.1 ho.2.2.1
    have hfr : fr G (ad G a) := by rw [ad_new ho.1]; exact Nat.le_add_right _ _
    refine W.zast C.1 C.2.1 hc ((C.2.2.2.2.2.2.2.2.1.1.2 3 _ rfl).1 _ _) (fun q => by cases q) (by rw [arrV_size]; exact ho.2.2.2) rfl rfl hd fun H1 e z oq => ?_
    rw [(nar_z hx).1] at e
    refine h.2 p _ R s m args below meth c H1 _ cells slots A C ?_ (S.put z oq hfr) L h1 h2
    refine P.upd (σ1 := pI σ a i.toNatClampNeg x) ho.1 rfl (fun _ => rfl) (fun b j hb => up2_ne hb) (fun b j hb => rfl) (fun b j hb => rfl) (fun b j hb => rfl) z oq ⟨fun q => absurd (ho.2.2.1.symm.trans q) (by decide), fun q => absurd (ho.2.2.1.symm.trans q) (by decide), fun q => absurd (ho.2.2.1.symm.trans q) (by decide), fun _ => ?_, fun t b1 b2 q => absurd (ho.2.2.1.symm.trans q) (by omega), fun c b1 q => absurd (ho.2.2.1.symm.trans q) (by omega)⟩
    rw [e, arrV_store]
    congr 2
    funext q
    by_cases hq : q = i.toNatClampNeg
    · subst hq
      simp only [updV, if_true]
      exact congrArg _ up2_self.symm
    · simp only [updV, if_neg hq]
      exact congrArg _ (up2_k hq).symm⟩
end RULES2
