def R_law : String := "PennyJudgeLaw"
def lw_P (b : Addr) (xs : List Int32) (args : Array Value) (s : State) : Prop := args = #[.ref b] ∧ s.IntsAt b xs ∧ xs.length ≤ 3072 ∧ (Jvm.Cond.and given_1 narrow_1).before args s = true
/-- what a walk over the start with the record d0 says of its end, said of the start itself -/
theorem lw_closed {s t : State} {o : Outcome} {d0 : Drawn} {L : List Loc} {k n : Nat} (hd0 : s.drawn.sameBut d0 lw_cs) (hv : ∃ v, o = .returned v) (hW : (s.setDrawn d0).WarmedH t.vm) (hs : (s.setDrawn d0).sameButNew ({ t with vm := s.vm } : State) L k n) : State.butDraws s t lw_cs (fun t1 => Framed s o t1 L k n) := by
  have h2 : t.drawn = d0 := congrArg State.drawn hs.1
  refine ⟨⟨hv, hW, State.sameButNew.setDrawn hs s.drawn⟩, ?_, by decide⟩
  rw [h2]
  exact hd0
def lw_Q (_ : Array Value) (s : State) (o : Outcome) (t : State) : Prop := o = .returned (some (.int 1)) ∧ State.butDraws s t lw_cs (fun t1 => Framed s o t1 [] 601024 7293034)
def lw_Z (below : List Frame) (a : Array Value) (s : State) : State → Prop := fun t => ∃ o, t.status = .running ∧ Ended t below o ∧ lw_Q a s o t
/-- the law's own end, with 1 on the stack, nothing written that was there before, its room as the claim has it; d0: the record of draws at this point (at the entry s.drawn: begin with 'refine W.base ?_' and 'have hd0 := Drawn.sameBut.refl s.drawn lw_cs') -/
theorem lw_ret {p : Program} {l : Launch} {e : Env} {s : State} {m : MethodId} {below : List Frame} {meth : Method} {c : Code} {b : Nat} {d0 : Drawn} (hd0 : s.drawn.sameBut d0 lw_cs) (hx : p.tables.exec = Jvm.exec) (hb : c.code = code) (hr : meth.sig.returnType = ret) (hlocks : meth.locks = false) {pc : Nat} {H : Heap} {ls : Array Slot} (hdg : decode code pc = .ok (.ireturn, 1)) : W p l e room_1 (s.setDrawn d0) m #[Value.ref b] below meth c H [] 601024 7293034 (lw_Z below #[Value.ref b] s) (F0 m pc ls [.int 1]) := by
  intro T hT X
  obtain ⟨fs, hret, hrun, hended, hW, hframe⟩ := X.leave (v := some (.int 1)) (hlocks := hlocks) (fun h => by rw [hr] at h; cases h)
  have hmeth' : T.vm.method? m = some meth := X.method'
  refine ⟨T.setFrames fs, ?_, .returned (some (.int 1)), hrun, hended, rfl, lw_closed hd0 ⟨_, rfl⟩ hW hframe⟩
  jvm_step X.here [X.here.top, hx, hb, hdg, hmeth', hr, ret, narrow_b1]
  (try refine ⟨rfl, ?_⟩); (try refine ⟨rfl, ?_⟩)
  first | (intro acts; rw [hret _ acts rfl rfl rfl]) | rw [hret _ _ rfl rfl rfl]
  exact Steps.refl _
/-- what holds at the law's entry: the machine, the code, the tables' words (any of lw_tbl by 'hts w (by decide +kernel)'), the script of L ints xs at the cell b, what the Statement gives of the start (any of its parts by flat_of_before) -/
def lw_At (p : Program) (s : State) (m : MethodId) (meth : Method) (c : Code) (b L : Nat) (xs : Nat → Int32) : Prop :=
  p.tables.exec = Jvm.exec ∧ c.code = code ∧ meth.sig.returnType = ret ∧ c.maxLocals = 8 ∧ s.vm.findClass R_law = some m.cls ∧ (∀ w ∈ lw_tbl, w.before #[Value.ref b] s = true) ∧ va_X b L xs s s.heap ∧ b < s.heap.size ∧ meth.locks = false ∧ (Jvm.Cond.and given_1 narrow_1).before #[Value.ref b] s = true
def tmL : List Int32 := [0, 7, 7, 7, 5, 7, 3, 7, 0, 1, 7, 7, 7]
def vlL : List Int32 := [0, 0, 0, 0, 1, 0, 0, 0, 0, 0, 0, 0, 1]
def vmL : List Int32 := [0, 5, 5, 7, 100, 1, 3, 0, 0, 1000000, 1, 5, 30]
def sg0 (L : Nat) (xs : Nat → Int32) : Sg := ((4, 0, fun a => if a = 0 then (13, L) else (13, 13)), (fun a k => if a = 0 then xs k else if a = 1 then tmL.getD k 0 else if a = 2 then vlL.getD k 0 else vmL.getD k 0), (fun _ _ => 0), (fun _ _ => 0), (fun _ _ => 0))
def tyN (t : Nat) : Option FieldType := (match t with
  | 12 => some .double
  | 13 => some .int
  | 14 => some .long
  | 15 => some .boolean
  | 16 => some (.object "PennyJudge$Program")
  | 17 => some (.object "PennyJudge$Tape")
  | 18 => some (.array .int)
  | _ => none)
theorem top_cls : ∀ (c : Nat) (q : vw_C), vwCl[c]? = some q → clsOK c ∧ Cond.instantiable q.1 q.2.2 ∈ TB
  | 0, q, h => by cases h; exact ⟨cok0, mem_T1 71 rfl rfl⟩
  | 1, q, h => by cases h; exact ⟨cok1, mem_T2 19 rfl rfl⟩
  | 2, q, h => by cases h; exact ⟨cok2, mem_T1 221 rfl rfl⟩
  | 3, q, h => by cases h; exact ⟨cok3, mem_T1 90 rfl rfl⟩
  | 4, q, h => by cases h; exact ⟨cok4, mem_T1 114 rfl rfl⟩
  | 5, q, h => by cases h; exact ⟨cok5, mem_T2 43 rfl rfl⟩
  | 6, q, h => by cases h; exact ⟨cok6, mem_T1 124 rfl rfl⟩
  | 7, q, h => by cases h; exact ⟨cok7, mem_T1 33 rfl rfl⟩
  | 8, q, h => by cases h; exact ⟨cok8, mem_T2 87 rfl rfl⟩
  | 9, q, h => by cases h; exact ⟨cok9, mem_T1 213 rfl rfl⟩
  | 10, q, h => by cases h; exact ⟨cok10, mem_T1 25 rfl rfl⟩
  | 11, q, h => by cases h; exact ⟨cok11, mem_T5 1 rfl rfl⟩
  | n + 12, q, h => by cases h
theorem top_arr {args : Array Value} {s : State} (hts : ∀ w ∈ lw_tbl, w.before args s = true) : ∀ t : Nat, ∃ cA : ClassId, ∀ ty, tyN t = some ty → ArrOfT s cA ty ∧ va_RA s cA ty := by
  intro t
  by_cases h12 : t = 12
  · subst h12
    · obtain ⟨c, k, comp, h1, h2, h3⟩ := Cond.arrayClass_spec (hts (.arrayClass .double) (List.mem_append_right _ (List.mem_append_right _ (List.mem_append_left _ (List.mem_of_getElem? (i := 4) rfl)))))
      exact ⟨c, fun ty h => by cases h; exact ⟨fun n z => ⟨fun k h => (by cases h), k, h2, comp, h3⟩, h1⟩⟩
  by_cases h13 : t = 13
  · subst h13
    · obtain ⟨c, k, comp, h1, h2, h3⟩ := Cond.arrayClass_spec (hts (.arrayClass .int) (List.mem_append_right _ (List.mem_append_left _ (List.mem_of_getElem? (i := 69) rfl))))
      exact ⟨c, fun ty h => by cases h; exact ⟨fun n z => ⟨fun k h => (by cases h), k, h2, comp, h3⟩, h1⟩⟩
  by_cases h14 : t = 14
  · subst h14
    · obtain ⟨c, k, comp, h1, h2, h3⟩ := Cond.arrayClass_spec (hts (.arrayClass .long) (List.mem_append_right _ (List.mem_append_left _ (List.mem_of_getElem? (i := 108) rfl))))
      exact ⟨c, fun ty h => by cases h; exact ⟨fun n z => ⟨fun k h => (by cases h), k, h2, comp, h3⟩, h1⟩⟩
  by_cases h15 : t = 15
  · subst h15
    · obtain ⟨c, k, comp, h1, h2, h3⟩ := Cond.arrayClass_spec (hts (.arrayClass .boolean) (List.mem_append_right _ (List.mem_append_left _ (List.mem_of_getElem? (i := 211) rfl))))
      exact ⟨c, fun ty h => by cases h; exact ⟨fun n z => ⟨fun k h => (by cases h), k, h2, comp, h3⟩, h1⟩⟩
  by_cases h16 : t = 16
  · subst h16
    · obtain ⟨comp, c, k, h1, h2, h3, h4, h5⟩ := Cond.arrayOver_spec (hts (.arrayOver (.object "PennyJudge$Program")) (List.mem_append_right _ (List.mem_append_left _ (List.mem_of_getElem? (i := 110) rfl))))
      exact ⟨c, fun ty h => by cases h; exact ⟨fun n z => ⟨fun k h => (by cases h), k, h3, comp, h4⟩, ⟨k, comp, h3, h4, h1, h5⟩⟩⟩
  by_cases h17 : t = 17
  · subst h17
    · obtain ⟨comp, c, k, h1, h2, h3, h4, h5⟩ := Cond.arrayOver_spec (hts (.arrayOver (.object "PennyJudge$Tape")) (List.mem_append_right _ (List.mem_append_left _ (List.mem_of_getElem? (i := 112) rfl))))
      exact ⟨c, fun ty h => by cases h; exact ⟨fun n z => ⟨fun k h => (by cases h), k, h3, comp, h4⟩, ⟨k, comp, h3, h4, h1, h5⟩⟩⟩
  by_cases h18 : t = 18
  · subst h18
    · obtain ⟨comp, c, k, h1, h2, h3, h4⟩ := Cond.arrayOver_specA (hts (.arrayOver (.array .int)) (List.mem_append_right _ (List.mem_append_left _ (List.mem_of_getElem? (i := 39) rfl))))
      exact ⟨c, fun ty h => by cases h; exact ⟨fun n z => ⟨fun k h => (by cases h), k, h2, comp, h3⟩, h4⟩⟩
  refine ⟨0, fun ty h => ?_⟩
  unfold tyN at h
  split at h <;> first | (exfalso; omega) | cases h
theorem top_T_MOST {args : Array Value} {s : State} (hts : ∀ w ∈ lw_tbl, w.before args s = true) (hgv : (Jvm.Cond.and given_1 narrow_1).before args s = true) : ∃ t : Nat, va_T .int t 13 (fun j => .int (tmL.getD j 0)) (fun q => s.heap.size ≤ q) s s.heap ∧ va_Z "PennyJudge" "T_MOST" "[I" (.ref t) (fun q => s.heap.size ≤ q) s s.heap := by
  have hs := flat_of_before _ hgv
  obtain ⟨t, e1, T1⟩ := va_Tof (tm := .static "PennyJudge" "T_MOST" "[I") (ty := .int) (N := 13) (f := fun j => .int (tmL.getD j 0)) (A := fun q => s.heap.size ≤ q) (by decide) (hs (.arrayOf (.static "PennyJudge" "T_MOST" "[I") .int) (by decide +kernel)) (va_eqt (hs (.eq (.length (.static "PennyJudge" "T_MOST" "[I")) (.int 13)) (by decide +kernel)))
    (fun j hj => match j, hj with
    | 0, _ => va_eqt (hs (.eq (.elem (.static "PennyJudge" "T_MOST" "[I") (.int 0)) (.int (0))) (by decide +kernel))
    | 1, _ => va_eqt (hs (.eq (.elem (.static "PennyJudge" "T_MOST" "[I") (.int 1)) (.int (7))) (by decide +kernel))
    | 2, _ => va_eqt (hs (.eq (.elem (.static "PennyJudge" "T_MOST" "[I") (.int 2)) (.int (7))) (by decide +kernel))
    | 3, _ => va_eqt (hs (.eq (.elem (.static "PennyJudge" "T_MOST" "[I") (.int 3)) (.int (7))) (by decide +kernel))
    | 4, _ => va_eqt (hs (.eq (.elem (.static "PennyJudge" "T_MOST" "[I") (.int 4)) (.int (5))) (by decide +kernel))
    | 5, _ => va_eqt (hs (.eq (.elem (.static "PennyJudge" "T_MOST" "[I") (.int 5)) (.int (7))) (by decide +kernel))
    | 6, _ => va_eqt (hs (.eq (.elem (.static "PennyJudge" "T_MOST" "[I") (.int 6)) (.int (3))) (by decide +kernel))
    | 7, _ => va_eqt (hs (.eq (.elem (.static "PennyJudge" "T_MOST" "[I") (.int 7)) (.int (7))) (by decide +kernel))
    | 8, _ => va_eqt (hs (.eq (.elem (.static "PennyJudge" "T_MOST" "[I") (.int 8)) (.int (0))) (by decide +kernel))
    | 9, _ => va_eqt (hs (.eq (.elem (.static "PennyJudge" "T_MOST" "[I") (.int 9)) (.int (1))) (by decide +kernel))
    | 10, _ => va_eqt (hs (.eq (.elem (.static "PennyJudge" "T_MOST" "[I") (.int 10)) (.int (7))) (by decide +kernel))
    | 11, _ => va_eqt (hs (.eq (.elem (.static "PennyJudge" "T_MOST" "[I") (.int 11)) (.int (7))) (by decide +kernel))
    | 12, _ => va_eqt (hs (.eq (.elem (.static "PennyJudge" "T_MOST" "[I") (.int 12)) (.int (7))) (by decide +kernel))
    | n + 13, h => absurd h (by omega)) (fun a h => Nat.not_le.mpr h)
  exact ⟨t, T1, va_Zref (hts (.laysStatic "PennyJudge" "T_MOST" "[I") (List.mem_append_right _ (List.mem_append_right _ (List.mem_append_left _ (List.mem_of_getElem? (i := 209) rfl))))) (hts (.initialized "PennyJudge") (List.mem_append_right _ (List.mem_append_left _ (List.mem_of_getElem? (i := 1) rfl)))) e1 (fun a h => Nat.not_le.mpr h)⟩
theorem top_V_LEAST {args : Array Value} {s : State} (hts : ∀ w ∈ lw_tbl, w.before args s = true) (hgv : (Jvm.Cond.and given_1 narrow_1).before args s = true) : ∃ t : Nat, va_T .int t 13 (fun j => .int (vlL.getD j 0)) (fun q => s.heap.size ≤ q) s s.heap ∧ va_Z "PennyJudge" "V_LEAST" "[I" (.ref t) (fun q => s.heap.size ≤ q) s s.heap := by
  have hs := flat_of_before _ hgv
  obtain ⟨t, e1, T1⟩ := va_Tof (tm := .static "PennyJudge" "V_LEAST" "[I") (ty := .int) (N := 13) (f := fun j => .int (vlL.getD j 0)) (A := fun q => s.heap.size ≤ q) (by decide) (hs (.arrayOf (.static "PennyJudge" "V_LEAST" "[I") .int) (by decide +kernel)) (va_eqt (hs (.eq (.length (.static "PennyJudge" "V_LEAST" "[I")) (.int 13)) (by decide +kernel)))
    (fun j hj => match j, hj with
    | 0, _ => va_eqt (hs (.eq (.elem (.static "PennyJudge" "V_LEAST" "[I") (.int 0)) (.int (0))) (by decide +kernel))
    | 1, _ => va_eqt (hs (.eq (.elem (.static "PennyJudge" "V_LEAST" "[I") (.int 1)) (.int (0))) (by decide +kernel))
    | 2, _ => va_eqt (hs (.eq (.elem (.static "PennyJudge" "V_LEAST" "[I") (.int 2)) (.int (0))) (by decide +kernel))
    | 3, _ => va_eqt (hs (.eq (.elem (.static "PennyJudge" "V_LEAST" "[I") (.int 3)) (.int (0))) (by decide +kernel))
    | 4, _ => va_eqt (hs (.eq (.elem (.static "PennyJudge" "V_LEAST" "[I") (.int 4)) (.int (1))) (by decide +kernel))
    | 5, _ => va_eqt (hs (.eq (.elem (.static "PennyJudge" "V_LEAST" "[I") (.int 5)) (.int (0))) (by decide +kernel))
    | 6, _ => va_eqt (hs (.eq (.elem (.static "PennyJudge" "V_LEAST" "[I") (.int 6)) (.int (0))) (by decide +kernel))
    | 7, _ => va_eqt (hs (.eq (.elem (.static "PennyJudge" "V_LEAST" "[I") (.int 7)) (.int (0))) (by decide +kernel))
    | 8, _ => va_eqt (hs (.eq (.elem (.static "PennyJudge" "V_LEAST" "[I") (.int 8)) (.int (0))) (by decide +kernel))
    | 9, _ => va_eqt (hs (.eq (.elem (.static "PennyJudge" "V_LEAST" "[I") (.int 9)) (.int (0))) (by decide +kernel))
    | 10, _ => va_eqt (hs (.eq (.elem (.static "PennyJudge" "V_LEAST" "[I") (.int 10)) (.int (0))) (by decide +kernel))
    | 11, _ => va_eqt (hs (.eq (.elem (.static "PennyJudge" "V_LEAST" "[I") (.int 11)) (.int (0))) (by decide +kernel))
    | 12, _ => va_eqt (hs (.eq (.elem (.static "PennyJudge" "V_LEAST" "[I") (.int 12)) (.int (1))) (by decide +kernel))
    | n + 13, h => absurd h (by omega)) (fun a h => Nat.not_le.mpr h)
  exact ⟨t, T1, va_Zref (hts (.laysStatic "PennyJudge" "V_LEAST" "[I") (List.mem_append_right _ (List.mem_append_right _ (List.mem_append_left _ (List.mem_of_getElem? (i := 211) rfl))))) (hts (.initialized "PennyJudge") (List.mem_append_right _ (List.mem_append_left _ (List.mem_of_getElem? (i := 1) rfl)))) e1 (fun a h => Nat.not_le.mpr h)⟩
theorem top_V_MOST {args : Array Value} {s : State} (hts : ∀ w ∈ lw_tbl, w.before args s = true) (hgv : (Jvm.Cond.and given_1 narrow_1).before args s = true) : ∃ t : Nat, va_T .int t 13 (fun j => .int (vmL.getD j 0)) (fun q => s.heap.size ≤ q) s s.heap ∧ va_Z "PennyJudge" "V_MOST" "[I" (.ref t) (fun q => s.heap.size ≤ q) s s.heap := by
  have hs := flat_of_before _ hgv
  obtain ⟨t, e1, T1⟩ := va_Tof (tm := .static "PennyJudge" "V_MOST" "[I") (ty := .int) (N := 13) (f := fun j => .int (vmL.getD j 0)) (A := fun q => s.heap.size ≤ q) (by decide) (hs (.arrayOf (.static "PennyJudge" "V_MOST" "[I") .int) (by decide +kernel)) (va_eqt (hs (.eq (.length (.static "PennyJudge" "V_MOST" "[I")) (.int 13)) (by decide +kernel)))
    (fun j hj => match j, hj with
    | 0, _ => va_eqt (hs (.eq (.elem (.static "PennyJudge" "V_MOST" "[I") (.int 0)) (.int (0))) (by decide +kernel))
    | 1, _ => va_eqt (hs (.eq (.elem (.static "PennyJudge" "V_MOST" "[I") (.int 1)) (.int (5))) (by decide +kernel))
    | 2, _ => va_eqt (hs (.eq (.elem (.static "PennyJudge" "V_MOST" "[I") (.int 2)) (.int (5))) (by decide +kernel))
    | 3, _ => va_eqt (hs (.eq (.elem (.static "PennyJudge" "V_MOST" "[I") (.int 3)) (.int (7))) (by decide +kernel))
    | 4, _ => va_eqt (hs (.eq (.elem (.static "PennyJudge" "V_MOST" "[I") (.int 4)) (.int (100))) (by decide +kernel))
    | 5, _ => va_eqt (hs (.eq (.elem (.static "PennyJudge" "V_MOST" "[I") (.int 5)) (.int (1))) (by decide +kernel))
    | 6, _ => va_eqt (hs (.eq (.elem (.static "PennyJudge" "V_MOST" "[I") (.int 6)) (.int (3))) (by decide +kernel))
    | 7, _ => va_eqt (hs (.eq (.elem (.static "PennyJudge" "V_MOST" "[I") (.int 7)) (.int (0))) (by decide +kernel))
    | 8, _ => va_eqt (hs (.eq (.elem (.static "PennyJudge" "V_MOST" "[I") (.int 8)) (.int (0))) (by decide +kernel))
    | 9, _ => va_eqt (hs (.eq (.elem (.static "PennyJudge" "V_MOST" "[I") (.int 9)) (.int (1000000))) (by decide +kernel))
    | 10, _ => va_eqt (hs (.eq (.elem (.static "PennyJudge" "V_MOST" "[I") (.int 10)) (.int (1))) (by decide +kernel))
    | 11, _ => va_eqt (hs (.eq (.elem (.static "PennyJudge" "V_MOST" "[I") (.int 11)) (.int (5))) (by decide +kernel))
    | 12, _ => va_eqt (hs (.eq (.elem (.static "PennyJudge" "V_MOST" "[I") (.int 12)) (.int (30))) (by decide +kernel))
    | n + 13, h => absurd h (by omega)) (fun a h => Nat.not_le.mpr h)
  exact ⟨t, T1, va_Zref (hts (.laysStatic "PennyJudge" "V_MOST" "[I") (List.mem_append_right _ (List.mem_append_right _ (List.mem_append_left _ (List.mem_of_getElem? (i := 213) rfl))))) (hts (.initialized "PennyJudge") (List.mem_append_right _ (List.mem_append_left _ (List.mem_of_getElem? (i := 1) rfl)))) e1 (fun a h => Nat.not_le.mpr h)⟩
theorem top_str {args : Array Value} {s : State} (hts : ∀ w ∈ lw_tbl, w.before args s = true) (hgv : (Jvm.Cond.and given_1 narrow_1).before args s = true) : ∀ q ∈ SB, ∃ sa : Nat, vk_R "PennyJudge" q.1 q.2 sa s := by
  have hs := flat_of_before _ hgv
  intro q hq
  simp only [SB, List.mem_cons, List.not_mem_nil, or_false] at hq
  rcases hq with rfl | rfl | rfl | rfl | rfl | rfl | rfl | rfl | rfl | rfl | rfl
  · obtain ⟨a, c, cell, k, q1, -⟩ := Cond.exactly_spec (hs (.exactly (.string "PennyJudge" 144) "java/lang/String") (by decide +kernel))
    exact ⟨a, vk_R.of (hts (.stringRef "PennyJudge" 144 "no such account") (List.mem_append_right _ (List.mem_append_right _ (List.mem_append_right _ (List.mem_append_right _ (List.mem_append_left _ (List.mem_of_getElem? (i := 97) rfl))))))) q1⟩
  · obtain ⟨a, c, cell, k, q1, -⟩ := Cond.exactly_spec (hs (.exactly (.string "PennyJudge" 153) "java/lang/String") (by decide +kernel))
    exact ⟨a, vk_R.of (hts (.stringRef "PennyJudge" 153 "no such slot or what") (List.mem_append_right _ (List.mem_append_right _ (List.mem_append_right _ (List.mem_append_right _ (List.mem_append_left _ (List.mem_of_getElem? (i := 131) rfl))))))) q1⟩
  · obtain ⟨a, c, cell, k, q1, -⟩ := Cond.exactly_spec (hs (.exactly (.string "PennyJudge" 165) "java/lang/String") (by decide +kernel))
    exact ⟨a, vk_R.of (hts (.stringRef "PennyJudge" 165 "no such part") (List.mem_append_right _ (List.mem_append_right _ (List.mem_append_right _ (List.mem_append_right _ (List.mem_append_left _ (List.mem_of_getElem? (i := 139) rfl))))))) q1⟩
  · obtain ⟨a, c, cell, k, q1, -⟩ := Cond.exactly_spec (hs (.exactly (.string "PennyJudge" 176) "java/lang/String") (by decide +kernel))
    exact ⟨a, vk_R.of (hts (.stringRef "PennyJudge" 176 "no such line") (List.mem_append_right _ (List.mem_append_right _ (List.mem_append_right _ (List.mem_append_right _ (List.mem_append_left _ (List.mem_of_getElem? (i := 147) rfl))))))) q1⟩
  · obtain ⟨a, c, cell, k, q1, -⟩ := Cond.exactly_spec (hs (.exactly (.string "PennyJudge" 181) "java/lang/String") (by decide +kernel))
    exact ⟨a, vk_R.of (hts (.stringRef "PennyJudge" 181 "no such program or what") (List.mem_append_right _ (List.mem_append_right _ (List.mem_append_right _ (List.mem_append_right _ (List.mem_append_left _ (List.mem_of_getElem? (i := 155) rfl))))))) q1⟩
  · obtain ⟨a, c, cell, k, q1, -⟩ := Cond.exactly_spec (hs (.exactly (.string "PennyJudge" 207) "java/lang/String") (by decide +kernel))
    exact ⟨a, vk_R.of (hts (.stringRef "PennyJudge" 207 "no such rate or mode") (List.mem_append_right _ (List.mem_append_right _ (List.mem_append_right _ (List.mem_append_right _ (List.mem_append_left _ (List.mem_of_getElem? (i := 166) rfl))))))) q1⟩
  · obtain ⟨a, c, cell, k, q1, -⟩ := Cond.exactly_spec (hs (.exactly (.string "PennyJudge" 209) "java/lang/String") (by decide +kernel))
    exact ⟨a, vk_R.of (hts (.stringRef "PennyJudge" 209 "no such n, most or what") (List.mem_append_right _ (List.mem_append_right _ (List.mem_append_right _ (List.mem_append_right _ (List.mem_append_left _ (List.mem_of_getElem? (i := 167) rfl))))))) q1⟩
  · obtain ⟨a, c, cell, k, q1, -⟩ := Cond.exactly_spec (hs (.exactly (.string "PennyJudge" 239) "java/lang/String") (by decide +kernel))
    exact ⟨a, vk_R.of (hts (.stringRef "PennyJudge" 239 "no such d or m") (List.mem_append_right _ (List.mem_append_right _ (List.mem_append_right _ (List.mem_append_right _ (List.mem_append_left _ (List.mem_of_getElem? (i := 206) rfl))))))) q1⟩
  · obtain ⟨a, c, cell, k, q1, -⟩ := Cond.exactly_spec (hs (.exactly (.string "PennyJudge" 245) "java/lang/String") (by decide +kernel))
    exact ⟨a, vk_R.of (hts (.stringRef "PennyJudge" 245 "no such n or mode") (List.mem_append_right _ (List.mem_append_right _ (List.mem_append_right _ (List.mem_append_right _ (List.mem_append_left _ (List.mem_of_getElem? (i := 209) rfl))))))) q1⟩
  · obtain ⟨a, c, cell, k, q1, -⟩ := Cond.exactly_spec (hs (.exactly (.string "PennyJudge" 291) "java/lang/String") (by decide +kernel))
    exact ⟨a, vk_R.of (hts (.stringRef "PennyJudge" 291 "no such tape") (List.mem_append_right _ (List.mem_append_right _ (List.mem_append_right _ (List.mem_append_right _ (List.mem_append_left _ (List.mem_of_getElem? (i := 219) rfl))))))) q1⟩
  · obtain ⟨a, c, cell, k, q1, -⟩ := Cond.exactly_spec (hs (.exactly (.string "PennyJudge" 299) "java/lang/String") (by decide +kernel))
    exact ⟨a, vk_R.of (hts (.stringRef "PennyJudge" 299 "no row with such a place") (List.mem_append_right _ (List.mem_append_right _ (List.mem_append_right _ (List.mem_append_right _ (List.mem_append_left _ (List.mem_of_getElem? (i := 233) rfl))))))) q1⟩
theorem top_xk {args : Array Value} {s : State} {G : Gl} (hA : gA G = s.heap.size) (hst : (gl G).stackTraces = false) (hts : ∀ w ∈ lw_tbl, w.before args s = true) (hgv : (Jvm.Cond.and given_1 narrow_1).before args s = true) : XK G s s.heap := by
  have hs := flat_of_before _ hgv
  have hF : ∀ a : Nat, a < s.heap.size → ¬ fr G a := fun a h h2 => by unfold fr at h2; omega
  refine ⟨hst, fun w hw => ?_, ⟨vx_Zqof (hts (.laysStatic Bundle.tN "UNASSIGNED_STACK" Bundle.steD) (List.mem_append_right _ (List.mem_append_right _ (List.mem_append_right _ (List.mem_append_right _ (List.mem_append_left _ (List.mem_of_getElem? (i := 84) rfl))))))) (hts (.initialized Bundle.tN) (List.mem_append_right _ (List.mem_append_left _ (List.mem_of_getElem? (i := 14) rfl)))) (hs (.isRef (.static Bundle.tN "UNASSIGNED_STACK" Bundle.steD)) (by decide +kernel)) hF, vx_Zqof (hts (.laysStatic Bundle.tN "SUPPRESSED_SENTINEL" Bundle.listD) (List.mem_append_right _ (List.mem_append_right _ (List.mem_append_right _ (List.mem_append_right _ (List.mem_append_left _ (List.mem_of_getElem? (i := 86) rfl))))))) (hts (.initialized Bundle.tN) (List.mem_append_right _ (List.mem_append_left _ (List.mem_of_getElem? (i := 14) rfl)))) (hs (.isRef (.static Bundle.tN "SUPPRESSED_SENTINEL" Bundle.listD)) (by decide +kernel)) hF⟩, top_str hts hgv, va_Nc.of (hs (.not (.castable nIS nIA)) (by decide +kernel))⟩
  obtain ⟨h1, hk⟩ := List.mem_filter.mp hw
  have h2 := hts w h1
  clear hs hts hgv h1 hw
  cases w <;> first | (simp [isXw] at hk; done) | exact va_tabs rfl rfl h2
theorem top_G {s : State} {b L : Nat} {xs : Nat → Int32} (l : Launch) (hst : l.stackTraces = false) (hL : L ≤ 3072) (hts : ∀ w ∈ lw_tbl, w.before #[Value.ref b] s = true) (hX : va_X b L xs s s.heap) (hbl : b < s.heap.size) (hgv : (Jvm.Cond.and given_1 narrow_1).before #[Value.ref b] s = true) :
    ∃ G : Gl, gl G = l ∧ gA G = s.heap.size ∧ gO G 0 = b ∧ KN G s s.heap ∧ Rp G (sg0 L xs) s s.heap := by
  have htb : ∀ w ∈ TB, w.before #[Value.ref b] s = true := fun w hw => hts w (List.mem_filter.mp hw).1
  have hs := flat_of_before _ hgv
  have h1 : ∀ c : Nat, ∃ d : ClassId × (Nat → Nat), ∀ q : vw_C, vwCl[c]? = some q → u_Kn s q.1 q.2.1 q.2.2 d.1 d.2 := by
    intro c
    cases hq : vwCl[c]? with
    | none => exact ⟨(0, fun _ => 0), fun q h => by cases h⟩
    | some q =>
      obtain ⟨k1, k2⟩ := top_cls c q hq
      obtain ⟨cC, iS, hK⟩ := u_known htb (k1 q hq).1 (htb _ k2)
      exact ⟨(cC, iS), fun q' h => by cases h; exact hK⟩
  obtain ⟨d, hd⟩ := Classical.axiomOfChoice h1
  obtain ⟨T, hT⟩ := Classical.axiomOfChoice (top_arr hts)
  obtain ⟨t1, a1, z1⟩ := top_T_MOST hts hgv
  obtain ⟨t2, a2, z2⟩ := top_V_LEAST hts hgv
  obtain ⟨t3, a3, z3⟩ := top_V_MOST hts hgv
  refine ⟨(l, s.heap.size, (fun k => if k = 0 then b else if k = 1 then t1 else if k = 2 then t2 else t3), ((fun c => (d c).1), (fun c => (d c).2)), T), rfl, rfl, rfl, ?_, ?_⟩
  · refine ⟨⟨fun c q h => hd c q h, fun k q h => ?_⟩, fun w hw => ?_, ⟨hts (.arrayOver (.object "PennyJudge$Program")) (List.mem_append_right _ (List.mem_append_left _ (List.mem_of_getElem? (i := 110) rfl))), hts (.arrayOver (.object "PennyJudge$Tape")) (List.mem_append_right _ (List.mem_append_left _ (List.mem_of_getElem? (i := 112) rfl))), hts (.arrayOver (.array .int)) (List.mem_append_right _ (List.mem_append_left _ (List.mem_of_getElem? (i := 39) rfl))), top_xk rfl hst hts hgv⟩, z1, z2, z3, va_Zof (hts (.laysStatic "java/lang/StrictMath" "$assertionsDisabled" "Z") (List.mem_append_right _ (List.mem_append_right _ (List.mem_append_right _ (List.mem_append_right _ (List.mem_append_right _ (List.mem_append_right _ (List.mem_append_left _ (List.mem_of_getElem? (i := 184) rfl))))))))) (hts (.initialized "java/lang/StrictMath") (List.mem_append_right _ (List.mem_append_left _ (List.mem_of_getElem? (i := 19) rfl)))) (va_eqt (hs (.eq (.static "java/lang/StrictMath" "$assertionsDisabled" "Z") (.int 1)) (by decide +kernel))) (fun a h => Nat.not_le.mpr h)⟩
    · match k, h with
      | 0, h => cases h; exact hT 12 _ rfl
      | 1, h => cases h; exact hT 13 _ rfl
      | 2, h => cases h; exact hT 14 _ rfl
      | 3, h => cases h; exact hT 15 _ rfl
      | 4, h => cases h; exact hT 16 _ rfl
      | 5, h => cases h; exact hT 17 _ rfl
      | 6, h => cases h; exact hT 18 _ rfl
      | n + 7, h => cases h
    · obtain ⟨a, i, x, hs9, rfl⟩ := NB_form hw
      exact va_tabs rfl rfl (hts _ (List.mem_filter.mp hw).1)
  · refine ⟨rfl, Nat.le_refl _, fun a ha => ?_, fun a h4 h5 => ?_⟩
    · obtain ⟨scr, s1, s2, s3, s4, s5⟩ := hX
      match a, ha with
      | 0, _ => exact ⟨rfl, scr, s1, s2, s3, Nat.le_of_eq s4.symm, by rw [s4]; rfl, s5, Nat.not_le.mpr hbl⟩
      | 1, _ => exact ⟨rfl, a1⟩
      | 2, _ => exact ⟨rfl, a2⟩
      | 3, _ => exact ⟨rfl, a3⟩
      | n + 4, h => exact absurd h (by omega)
    · have e4 : sN (sg0 L xs) = 4 := rfl
      omega
def lw_pure : Prop := ∀ (L : Nat) (xs : Nat → Int32), L ≤ 3072 → ∃ (n : Nat) (σ' : Sg), f_L_law n 0 (sg0 L xs) = some (1, σ') ∧ sN σ' ≤ 4 + 601024 ∧ sZ σ' ≤ 7293034
theorem whole_from (hpure : lw_pure) {p : Program} {e : Env} {s : State} {m : MethodId} {below : List Frame} {meth : Method} {c : Code} (l : Launch) {b L : Nat} {xs : Nat → Int32} (hL : L ≤ 3072) (C0 : lw_At p s m meth c b L xs) (hst : l.stackTraces = false) (htab : c.exceptionTable.toList = []) (hnm : meth.name = "law") : W p l e room_1 s m #[Value.ref b] below meth c s.heap [] 0 0 (lw_Z below #[Value.ref b] s) (entryFrame m ([Value.ref b] : List Value).toArray 8) := by
  obtain ⟨hx, hb, hr, hml, hown, hts, hX, hbl, hlk, hgv⟩ := C0
  obtain ⟨G, rfl, g2, g3, hK, hP⟩ := top_G l hst hL hts hX hbl hgv
  obtain ⟨n, σ', hf, z1, z2⟩ := hpure L xs hL
  have hR := t_L_law (G := G) hf
  have C : CX G M_L_law p room_1 s m #[Value.ref b] meth c := ⟨hx, hb, hml, hr, ⟨hlk, htab⟩, hown, hnm, fun w hw => hts w (List.mem_filter.mp hw).1, hK, Nat.le_of_ble_eq_true rfl, Nat.le_of_ble_eq_true rfl⟩
  have e4 : sN (sg0 L xs) = 4 := rfl
  have e5 : sZ (sg0 L xs) = 0 := rfl
  have r1 : room_1.cells = 601024 := rfl
  have r2 : room_1.slots = 7293034 := rfl
  have hL1 := lv_entry [Value.ref b] (n := 8) (Nat.le_of_ble_eq_true rfl)
  have eL : lv_args 0 [Value.ref b] = asc G 0 [some (.ref 0)] := by
    show [(0, Value.ref b)] = [(0, Value.ref (gO G 0))]
    rw [g3]
  rw [eL] at hL1
  rw [lg_entry_eq]
  intro T hT X
  obtain ⟨t, a1, o, b1, b2, hq, Lc, hfe, hfr⟩ := hR.2 p e room_1 s m _ below meth c s.heap [] 0 0 _ C hP va_S.rf hL1 (by omega) (by omega) T hT X
  refine ⟨t, a1, o, b1, b2, ?_⟩
  obtain ⟨rfl, -, -⟩ := hq
  obtain ⟨-, hW, q1, q2, q3, q4, q5, q6⟩ := hfe
  have hdrop : s.sameButNew ({ t with vm := s.vm } : State) [] 601024 7293034 := by
    refine State.sameButNew.mono (c := 0 + (sN σ' - sN (sg0 L xs))) (n := 0 + (sZ σ' - sZ (sg0 L xs))) ⟨q1, q2, q3, q4, q5, fun a c9 h9 => ?_⟩ (by omega) (by omega)
    obtain ⟨c8, w1, w2, w3, w4⟩ := q6 a c9 h9
    refine ⟨c8, w1, w2, w3, fun i hi => w4 i (fun hmem => ?_)⟩
    have h7 := hfr _ hmem
    have h8 : a < s.heap.size := (Array.getElem?_eq_some_iff.mp h9).1
    unfold fr at h7
    rw [g2] at h7
    exact absurd h8 (Nat.not_lt.mpr h7)
  exact ⟨rfl, lw_closed (d0 := s.drawn) (Drawn.sameBut.refl s.drawn lw_cs) ⟨_, rfl⟩ hW hdrop⟩
set_option maxHeartbeats 4000000 in
theorem lw_walk (hpure : lw_pure) (l : Launch) (hst : l.stackTraces = false) (b : Addr) (xs : List Int32) : MetFree l x (headSpec (Jvm.Cond.code x code maxLocals ret :: tables_1) room_1) (lw_P b xs) (fun _ _ _ _ _ => True) lw_Q := by
  refine MetFree.of_bodyS (code := code) (maxLocals := maxLocals) (ret := ret) (by decide) ?_ ?_
  · intro args s m h hn
    obtain ⟨meth, c, h1, h2, h3, h4, h5, h6, -, -⟩ := Cond.code_spec hn (atoms_spec (ws := Jvm.Cond.code x code maxLocals ret :: tables_1) h _ List.mem_cons_self)
    exact ⟨meth, c, h1, h2, h3, h4, h5, h6⟩
  · intro p e s m args below meth c s₁ B hml0 hP _
    obtain ⟨rfl, hx, hbd, hgv⟩ := hP
    obtain ⟨scr, harrAt, hlist, hof, hsmall⟩ := hx
    obtain ⟨hcb, hkn, -, -⟩ := State.arrayAt?_spec harrAt
    have hown : s.vm.findClass R_law = some m.cls := findClass_of_methodNamed B.named
    have hts0 : ∀ c ∈ (Jvm.Cond.code x code maxLocals ret :: tables_1), c.before #[Value.ref b] s = true := atoms_spec (ws := Jvm.Cond.code x code maxLocals ret :: tables_1) B.pre
    have hts : ∀ w ∈ lw_tbl, w.before #[Value.ref b] s = true := k2_hts_sels lw_privs (fun w hw => hts0 w (List.mem_cons_of_mem _ hw)) lw_privs_ok
    have hml : c.maxLocals = 8 := B.maxLocals_eq (hts0 _ List.mem_cons_self)
    have X₀ : Stand p l e room_1 s m #[Value.ref b] below meth c s₁ [] 0 0 := Stand.of_body B
    have hh0 : s₁.heap = s.heap := by rw [B.state]; rfl
    have hsz : scr.slots.size = xs.length := by rw [← Array.length_toList, hlist, List.length_map]
    have hval : ∀ j : Nat, j < xs.length → scr.slots[j]? = some (.int (xs.getD j 0)) := fun j hj => by
      rw [← Array.getElem?_toList, hlist]
      simp [hj]
    have hbl : b < s.heap.size := (Array.getElem?_eq_some_iff.mp hcb).1
    have hX : va_X b xs.length (fun j => xs.getD j 0) s s.heap := ⟨scr, hcb, hof, hkn, hsz, hval⟩
    have K : W p l e room_1 s m #[Value.ref b] below meth c s₁.heap [] 0 0 (lw_Z below #[Value.ref b] s) (entryFrame m ([Value.ref b] : List Value).toArray 8) := by
      rw [hh0]
      exact whole_from hpure l hbd ⟨B.exec, B.bytes, B.returns, hml, hown, hts, hX, hbl, B.notSynchronized, hgv⟩ hst (no_table (M := M_L_law) B (hts0 _ List.mem_cons_self) rfl) (name_of_methodNamed B.named B.method).1
    obtain ⟨t, a1, o, b1, b2, b3⟩ := K s₁ rfl X₀
    exact ⟨t, o, a1, b1, b2, b3⟩
theorem lw_pre_spec {args : Array Value} {s : State} (h : (Jvm.Cond.and given_1 narrow_1).before args s = true) (hr : rest_1_c.before args s = true) : ∃ (b : Addr) (xs : List Int32), lw_P b xs args s := by
  have hs := flat_of_before _ h
  have hq := flat_of_before _ hr
  have hc : (Cond.count 1).before args s = true := hs _ (by decide +kernel)
  have harr : (Cond.arrayOf (.arg 0) .int).before args s = true := hs _ (by decide +kernel)
  have hle : (Cond.le (.length (.arg 0)) (.int 3072)).before args s = true := hs _ (by decide +kernel)
  have hlen : (Cond.isInt (.length (.arg 0))).before args s = true := hq _ (by decide +kernel)
  have hall : (Cond.all (.arg 0) (.isInt (.elem (.arg 0) (.index 0)))).before args s = true := hq _ (by decide +kernel)
  obtain ⟨b, xs, hb, hx⟩ := State.ints_of_pre rfl harr hlen hall
  have hsm : xs.length < 2 ^ 31 := hx.choose_spec.2.2.2
  have hev : (Term.length (.arg 0)).eval args s none [] s = some (.int xs.length.toInt32) := hx.length_eval hb
  have hv := Cond.le_ints hev (show (Term.int 3072).eval args s none [] s = some (.int 3072) from rfl)
  have hd : xs.length.toInt32 ≤ 3072 := by
    simpa [Cond.before, Cond.holds, hv] using hle
  have hN : xs.length ≤ 3072 := (Int32.ofNat_le_ofNat hsm (by decide)).mp (show Int32.ofNat xs.length ≤ Int32.ofNat 3072 from hd)
  exact ⟨b, xs, Cond.one_arg hc (show args[0]? = some (.ref b) from hb), hx, hN, h⟩
theorem lw_comes (hpure : lw_pure) (l : Launch) (hst : l.stackTraces = false) : Comes l x (Jvm.Cond.code x code maxLocals ret :: tables_1) room_1 (fun tb e args s => Calls_1 tb e args s ∧ rest_1 tb e args s ∧ Pre_1 tb e args s)
    (fun _ _ args s o t => lw_Q args s o t) := by
  intro p e ha hc hk s m args below hf hfit hheap happ hpre
  obtain ⟨b, xs, hP⟩ := lw_pre_spec hpre.2.2 hpre.2.1
  obtain ⟨k, o, h1, h2, h3, hQ⟩ := lw_walk hpure l hst b xs p e ha hc hk s m args below hf ((Spec.applies_iff_loose hf).mp happ).1 hP trivial
  exact ⟨k, o, h1, h2, h3, hQ⟩
theorem lw_frame {s t : State} {o : Outcome} {args : Array Value} (h : State.butDraws s t lw_cs (fun t1 => Framed s o t1 [] 601024 7293034)) :
    State.butDraws s t [Jvm.Choice.named "NaN.bits", Jvm.Choice.named "NaN.copy"] (fun t1 => Framed s o t1 (fieldLocs frame_1_writes args s ++ arrayLocs frame_1_arrays args s ++ staticLocs frame_1_statics s) 601024 7293034) := h
theorem lw_limb (hpure : lw_pure) (L : Cond) (hL : ∀ (args : Array Value) (s t : State), L.after args s (.returned (some (.int 1))) t = true) :
    ArmFor flags0 classFile x code maxLocals ret World_1 tables_1 room_1 Calls_1 rest_1 Pre_1
      (fun tb e a s o t => postC L tb e a s o t ∧ State.butDraws s t [Jvm.Choice.named "NaN.bits", Jvm.Choice.named "NaN.copy"] (fun t1 => Framed s o t1 (fieldLocs frame_1_writes a s ++ arrayLocs frame_1_arrays a s ++ staticLocs frame_1_statics s) 601024 7293034)) := by
  intro l hfl _ _ p e ha hc hk s m args below hf hfit hheap happ hpre
  obtain ⟨k, o, h1, h2, h3, rfl, hF⟩ := lw_comes hpure l (by unfold Launch.stackTraces; rw [hfl]; decide +kernel) p e ha hc hk s m args below hf hfit hheap happ hpre
  exact ⟨k, _, h1, h2, h3, hL args s _, lw_frame hF⟩

