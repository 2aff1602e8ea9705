section RULES
variable {G : Gl} {M : Md} {pc : Nat} {ls ls2 : List (Option Value)} {st : List Value} {σ σ' : Sg} {r : Option Value ⊕ String}
theorem RN_iadd {x y : Int32} (hd : decode (mC M) pc = .ok (.iadd, 1)) (h : RN G M (pc + 1) ls (.int (x + y) :: st) σ r σ') : RN G M pc ls (.int y :: .int x :: st) σ r σ' :=
  ⟨h.1, fun p e R s m args below meth c H locs cells slots A C P S L h1 h2 => lv_iadd C.1 C.2.1 hd (h.2 p e R s m args below meth c H locs cells slots A C P S L h1 h2)⟩
theorem RN_isub {x y : Int32} (hd : decode (mC M) pc = .ok (.isub, 1)) (h : RN G M (pc + 1) ls (.int (x - y) :: st) σ r σ') : RN G M pc ls (.int y :: .int x :: st) σ r σ' :=
  ⟨h.1, fun p e R s m args below meth c H locs cells slots A C P S L h1 h2 => lv_isub C.1 C.2.1 hd (h.2 p e R s m args below meth c H locs cells slots A C P S L h1 h2)⟩
theorem RN_imul {x y : Int32} (hd : decode (mC M) pc = .ok (.imul, 1)) (h : RN G M (pc + 1) ls (.int (x * y) :: st) σ r σ') : RN G M pc ls (.int y :: .int x :: st) σ r σ' :=
  ⟨h.1, fun p e R s m args below meth c H locs cells slots A C P S L h1 h2 => lv_imul C.1 C.2.1 hd (h.2 p e R s m args below meth c H locs cells slots A C P S L h1 h2)⟩
theorem RN_iand {x y : Int32} (hd : decode (mC M) pc = .ok (.iand, 1)) (h : RN G M (pc + 1) ls (.int (x &&& y) :: st) σ r σ') : RN G M pc ls (.int y :: .int x :: st) σ r σ' :=
  ⟨h.1, fun p e R s m args below meth c H locs cells slots A C P S L h1 h2 => lv_iand C.1 C.2.1 hd (h.2 p e R s m args below meth c H locs cells slots A C P S L h1 h2)⟩
theorem RN_ior {x y : Int32} (hd : decode (mC M) pc = .ok (.ior, 1)) (h : RN G M (pc + 1) ls (.int (x ||| y) :: st) σ r σ') : RN G M pc ls (.int y :: .int x :: st) σ r σ' :=
  ⟨h.1, fun p e R s m args below meth c H locs cells slots A C P S L h1 h2 => lv_ior C.1 C.2.1 hd (h.2 p e R s m args below meth c H locs cells slots A C P S L h1 h2)⟩
theorem RN_ixor {x y : Int32} (hd : decode (mC M) pc = .ok (.ixor, 1)) (h : RN G M (pc + 1) ls (.int (x ^^^ y) :: st) σ r σ') : RN G M pc ls (.int y :: .int x :: st) σ r σ' :=
  ⟨h.1, fun p e R s m args below meth c H locs cells slots A C P S L h1 h2 => lv_ixor C.1 C.2.1 hd (h.2 p e R s m args below meth c H locs cells slots A C P S L h1 h2)⟩
theorem RN_ishr {x y : Int32} (hd : decode (mC M) pc = .ok (.ishr, 1)) (h : RN G M (pc + 1) ls (.int (x >>> (y &&& 31)) :: st) σ r σ') : RN G M pc ls (.int y :: .int x :: st) σ r σ' :=
  ⟨h.1, fun p e R s m args below meth c H locs cells slots A C P S L h1 h2 => lv_ishr C.1 C.2.1 hd (h.2 p e R s m args below meth c H locs cells slots A C P S L h1 h2)⟩
theorem RN_idiv {x y : Int32} (hd : decode (mC M) pc = .ok (.idiv, 1)) (hy : ¬ y = 0) (h : RN G M (pc + 1) ls (.int (x / y) :: st) σ r σ') : RN G M pc ls (.int y :: .int x :: st) σ r σ' :=
  ⟨h.1, fun p e R s m args below meth c H locs cells slots A C P S L h1 h2 => lv_idiv C.1 C.2.1 hd hy (h.2 p e R s m args below meth c H locs cells slots A C P S L h1 h2)⟩
theorem RN_irem {x y : Int32} (hd : decode (mC M) pc = .ok (.irem, 1)) (hy : ¬ y = 0) (h : RN G M (pc + 1) ls (.int (x - x / y * y) :: st) σ r σ') : RN G M pc ls (.int y :: .int x :: st) σ r σ' :=
  ⟨h.1, fun p e R s m args below meth c H locs cells slots A C P S L h1 h2 => lv_irem C.1 C.2.1 hd hy (h.2 p e R s m args below meth c H locs cells slots A C P S L h1 h2)⟩
theorem RN_iushr {x y : Int32} (hd : decode (mC M) pc = .ok (.iushr, 1)) (h : RN G M (pc + 1) ls (.int ((x.toUInt32 >>> (y.toUInt32 &&& Int32.toUInt32 31)).toInt32) :: st) σ r σ') : RN G M pc ls (.int y :: .int x :: st) σ r σ' :=
  ⟨h.1, fun p e R s m args below meth c H locs cells slots A C P S L h1 h2 => lv_iushr C.1 C.2.1 hd rfl (h.2 p e R s m args below meth c H locs cells slots A C P S L h1 h2)⟩
theorem RN_ladd {x y : Int64} (hd : decode (mC M) pc = .ok (.ladd, 1)) (h : RN G M (pc + 1) ls (.long (x + y) :: st) σ r σ') : RN G M pc ls (.long y :: .long x :: st) σ r σ' :=
  ⟨h.1, fun p e R s m args below meth c H locs cells slots A C P S L h1 h2 => lv_ladd C.1 C.2.1 hd (h.2 p e R s m args below meth c H locs cells slots A C P S L h1 h2)⟩
theorem RN_lsub {x y : Int64} (hd : decode (mC M) pc = .ok (.lsub, 1)) (h : RN G M (pc + 1) ls (.long (x - y) :: st) σ r σ') : RN G M pc ls (.long y :: .long x :: st) σ r σ' :=
  ⟨h.1, fun p e R s m args below meth c H locs cells slots A C P S L h1 h2 => lv_lsub C.1 C.2.1 hd (h.2 p e R s m args below meth c H locs cells slots A C P S L h1 h2)⟩
theorem RN_lmul {x y : Int64} (hd : decode (mC M) pc = .ok (.lmul, 1)) (h : RN G M (pc + 1) ls (.long (x * y) :: st) σ r σ') : RN G M pc ls (.long y :: .long x :: st) σ r σ' :=
  ⟨h.1, fun p e R s m args below meth c H locs cells slots A C P S L h1 h2 => lv_lmul C.1 C.2.1 hd (h.2 p e R s m args below meth c H locs cells slots A C P S L h1 h2)⟩
theorem RN_land {x y : Int64} (hd : decode (mC M) pc = .ok (.land, 1)) (h : RN G M (pc + 1) ls (.long (x &&& y) :: st) σ r σ') : RN G M pc ls (.long y :: .long x :: st) σ r σ' :=
  ⟨h.1, fun p e R s m args below meth c H locs cells slots A C P S L h1 h2 => lv_land C.1 C.2.1 hd (h.2 p e R s m args below meth c H locs cells slots A C P S L h1 h2)⟩
theorem RN_lor {x y : Int64} (hd : decode (mC M) pc = .ok (.lor, 1)) (h : RN G M (pc + 1) ls (.long (x ||| y) :: st) σ r σ') : RN G M pc ls (.long y :: .long x :: st) σ r σ' :=
  ⟨h.1, fun p e R s m args below meth c H locs cells slots A C P S L h1 h2 => lv_lor C.1 C.2.1 hd (h.2 p e R s m args below meth c H locs cells slots A C P S L h1 h2)⟩
theorem RN_lxor {x y : Int64} (hd : decode (mC M) pc = .ok (.lxor, 1)) (h : RN G M (pc + 1) ls (.long (x ^^^ y) :: st) σ r σ') : RN G M pc ls (.long y :: .long x :: st) σ r σ' :=
  ⟨h.1, fun p e R s m args below meth c H locs cells slots A C P S L h1 h2 => lv_lxor C.1 C.2.1 hd (h.2 p e R s m args below meth c H locs cells slots A C P S L h1 h2)⟩
theorem RN_ldiv {x y : Int64} (hd : decode (mC M) pc = .ok (.ldiv, 1)) (hy : ¬ y = 0) (h : RN G M (pc + 1) ls (.long (x / y) :: st) σ r σ') : RN G M pc ls (.long y :: .long x :: st) σ r σ' :=
  ⟨h.1, fun p e R s m args below meth c H locs cells slots A C P S L h1 h2 => lv_ldiv C.1 C.2.1 hd hy (h.2 p e R s m args below meth c H locs cells slots A C P S L h1 h2)⟩
theorem RN_lrem {x y : Int64} (hd : decode (mC M) pc = .ok (.lrem, 1)) (hy : ¬ y = 0) (h : RN G M (pc + 1) ls (.long (x - x / y * y) :: st) σ r σ') : RN G M pc ls (.long y :: .long x :: st) σ r σ' :=
  ⟨h.1, fun p e R s m args below meth c H locs cells slots A C P S L h1 h2 => lv_lrem C.1 C.2.1 hd hy (h.2 p e R s m args below meth c H locs cells slots A C P S L h1 h2)⟩
theorem RN_lshl {x : Int64} {y : Int32} (hd : decode (mC M) pc = .ok (.lshl, 1)) (h : RN G M (pc + 1) ls (.long (x <<< (y.toInt64 &&& 63)) :: st) σ r σ') : RN G M pc ls (.int y :: .long x :: st) σ r σ' :=
  ⟨h.1, fun p e R s m args below meth c H locs cells slots A C P S L h1 h2 => lv_lshl C.1 C.2.1 hd rfl (h.2 p e R s m args below meth c H locs cells slots A C P S L h1 h2)⟩
theorem RN_lshr {x : Int64} {y : Int32} (hd : decode (mC M) pc = .ok (.lshr, 1)) (h : RN G M (pc + 1) ls (.long (x >>> (y.toInt64 &&& 63)) :: st) σ r σ') : RN G M pc ls (.int y :: .long x :: st) σ r σ' :=
  ⟨h.1, fun p e R s m args below meth c H locs cells slots A C P S L h1 h2 => lv_lshr C.1 C.2.1 hd rfl (h.2 p e R s m args below meth c H locs cells slots A C P S L h1 h2)⟩
theorem RN_lushr {x : Int64} {y : Int32} (hd : decode (mC M) pc = .ok (.lushr, 1)) (h : RN G M (pc + 1) ls (.long ((x.toUInt64 >>> (y.toInt64.toUInt64 &&& Int64.toUInt64 63)).toInt64) :: st) σ r σ') : RN G M pc ls (.int y :: .long x :: st) σ r σ' :=
  ⟨h.1, fun p e R s m args below meth c H locs cells slots A C P S L h1 h2 => lv_lushr C.1 C.2.1 hd rfl (h.2 p e R s m args below meth c H locs cells slots A C P S L h1 h2)⟩
theorem RN_ineg {x : Int32} (hd : decode (mC M) pc = .ok (.ineg, 1)) (h : RN G M (pc + 1) ls (.int (-x) :: st) σ r σ') : RN G M pc ls (.int x :: st) σ r σ' :=
  ⟨h.1, fun p e R s m args below meth c H locs cells slots A C P S L h1 h2 => lv_ineg C.1 C.2.1 hd (h.2 p e R s m args below meth c H locs cells slots A C P S L h1 h2)⟩
theorem RN_lneg {x : Int64} (hd : decode (mC M) pc = .ok (.lneg, 1)) (h : RN G M (pc + 1) ls (.long (-x) :: st) σ r σ') : RN G M pc ls (.long x :: st) σ r σ' :=
  ⟨h.1, fun p e R s m args below meth c H locs cells slots A C P S L h1 h2 => lv_lneg C.1 C.2.1 hd (h.2 p e R s m args below meth c H locs cells slots A C P S L h1 h2)⟩
theorem RN_dneg {x : UInt64} (hd : decode (mC M) pc = .ok (.dneg, 1)) (h : RN G M (pc + 1) ls (.double (FP.dneg x) :: st) σ r σ') : RN G M pc ls (.double x :: st) σ r σ' :=
  ⟨h.1, fun p e R s m args below meth c H locs cells slots A C P S L h1 h2 => lv_dneg C.1 C.2.1 hd (h.2 p e R s m args below meth c H locs cells slots A C P S L h1 h2)⟩
theorem RN_i2l {x : Int32} (hd : decode (mC M) pc = .ok (.i2l, 1)) (h : RN G M (pc + 1) ls (.long x.toInt64 :: st) σ r σ') : RN G M pc ls (.int x :: st) σ r σ' :=
  ⟨h.1, fun p e R s m args below meth c H locs cells slots A C P S L h1 h2 => lv_i2l C.1 C.2.1 hd rfl (h.2 p e R s m args below meth c H locs cells slots A C P S L h1 h2)⟩
theorem RN_l2i {x : Int64} (hd : decode (mC M) pc = .ok (.l2i, 1)) (h : RN G M (pc + 1) ls (.int x.toInt32 :: st) σ r σ') : RN G M pc ls (.long x :: st) σ r σ' :=
  ⟨h.1, fun p e R s m args below meth c H locs cells slots A C P S L h1 h2 => lv_l2i C.1 C.2.1 hd rfl (h.2 p e R s m args below meth c H locs cells slots A C P S L h1 h2)⟩
theorem RN_i2b {x : Int32} (hd : decode (mC M) pc = .ok (.i2b, 1)) (h : RN G M (pc + 1) ls (.int x.toInt8.toInt32 :: st) σ r σ') : RN G M pc ls (.int x :: st) σ r σ' :=
  ⟨h.1, fun p e R s m args below meth c H locs cells slots A C P S L h1 h2 => lv_i2b C.1 C.2.1 hd rfl (h.2 p e R s m args below meth c H locs cells slots A C P S L h1 h2)⟩
theorem RN_i2s {x : Int32} (hd : decode (mC M) pc = .ok (.i2s, 1)) (h : RN G M (pc + 1) ls (.int x.toInt16.toInt32 :: st) σ r σ') : RN G M pc ls (.int x :: st) σ r σ' :=
  ⟨h.1, fun p e R s m args below meth c H locs cells slots A C P S L h1 h2 => lv_i2s C.1 C.2.1 hd rfl (h.2 p e R s m args below meth c H locs cells slots A C P S L h1 h2)⟩
theorem RN_i2d {x : Int32} (hd : decode (mC M) pc = .ok (.i2d, 1)) (h : RN G M (pc + 1) ls (.double (FP.i2d x) :: st) σ r σ') : RN G M pc ls (.int x :: st) σ r σ' :=
  ⟨h.1, fun p e R s m args below meth c H locs cells slots A C P S L h1 h2 => lv_i2d C.1 C.2.1 hd (h.2 p e R s m args below meth c H locs cells slots A C P S L h1 h2)⟩
theorem RN_l2d {x : Int64} (hd : decode (mC M) pc = .ok (.l2d, 1)) (h : RN G M (pc + 1) ls (.double (FP.l2d x) :: st) σ r σ') : RN G M pc ls (.long x :: st) σ r σ' :=
  ⟨h.1, fun p e R s m args below meth c H locs cells slots A C P S L h1 h2 => lv_l2d C.1 C.2.1 hd (h.2 p e R s m args below meth c H locs cells slots A C P S L h1 h2)⟩
theorem RN_d2l {x : UInt64} (hd : decode (mC M) pc = .ok (.d2l, 1)) (h : RN G M (pc + 1) ls (.long (FP.d2l x) :: st) σ r σ') : RN G M pc ls (.double x :: st) σ r σ' :=
  ⟨h.1, fun p e R s m args below meth c H locs cells slots A C P S L h1 h2 => lv_d2l C.1 C.2.1 hd (h.2 p e R s m args below meth c H locs cells slots A C P S L h1 h2)⟩
theorem RN_dadd {x y : UInt64} (hd : decode (mC M) pc = .ok (.dadd, 1)) (hy : vf_n64 (FP.dadd x y)) (h : RN G M (pc + 1) ls (.double (FP.dadd x y) :: st) σ r σ') : RN G M pc ls (.double y :: .double x :: st) σ r σ' :=
  ⟨h.1, fun p e R s m args below meth c H locs cells slots A C P S L h1 h2 => lv_dadd C.1 C.2.1 hd hy (h.2 p e R s m args below meth c H locs cells slots A C P S L h1 h2)⟩
theorem RN_dsub {x y : UInt64} (hd : decode (mC M) pc = .ok (.dsub, 1)) (hy : vf_n64 (FP.dsub x y)) (h : RN G M (pc + 1) ls (.double (FP.dsub x y) :: st) σ r σ') : RN G M pc ls (.double y :: .double x :: st) σ r σ' :=
  ⟨h.1, fun p e R s m args below meth c H locs cells slots A C P S L h1 h2 => lv_dsub C.1 C.2.1 hd hy (h.2 p e R s m args below meth c H locs cells slots A C P S L h1 h2)⟩
theorem RN_dmul {x y : UInt64} (hd : decode (mC M) pc = .ok (.dmul, 1)) (hy : vf_n64 (FP.dmul x y)) (h : RN G M (pc + 1) ls (.double (FP.dmul x y) :: st) σ r σ') : RN G M pc ls (.double y :: .double x :: st) σ r σ' :=
  ⟨h.1, fun p e R s m args below meth c H locs cells slots A C P S L h1 h2 => lv_dmul C.1 C.2.1 hd hy (h.2 p e R s m args below meth c H locs cells slots A C P S L h1 h2)⟩
theorem RN_ddiv {x y : UInt64} (hd : decode (mC M) pc = .ok (.ddiv, 1)) (hy : vf_n64 (FP.ddiv x y)) (h : RN G M (pc + 1) ls (.double (FP.ddiv x y) :: st) σ r σ') : RN G M pc ls (.double y :: .double x :: st) σ r σ' :=
  ⟨h.1, fun p e R s m args below meth c H locs cells slots A C P S L h1 h2 => lv_ddiv C.1 C.2.1 hd hy (h.2 p e R s m args below meth c H locs cells slots A C P S L h1 h2)⟩
theorem RN_dcmp {x y : UInt64} {op : CmpOp} (hd : decode (mC M) pc = .ok (.dcmp op, 1)) (h : RN G M (pc + 1) ls (.int (Op.cmpValue (FP.dcmp x y) op) :: st) σ r σ') : RN G M pc ls (.double y :: .double x :: st) σ r σ' :=
  ⟨h.1, fun p e R s m args below meth c H locs cells slots A C P S L h1 h2 => lv_dcmp C.1 C.2.1 hd (h.2 p e R s m args below meth c H locs cells slots A C P S L h1 h2)⟩
theorem RN_iconst {n : Int} {v : Int32} (hd : decode (mC M) pc = .ok (.iconst n, 1)) (hv : Int32.ofInt n = v) (h : RN G M (pc + 1) ls (.int v :: st) σ r σ') : RN G M pc ls (st) σ r σ' :=
  ⟨h.1, fun p e R s m args below meth c H locs cells slots A C P S L h1 h2 => lv_iconst C.1 C.2.1 hd hv (h.2 p e R s m args below meth c H locs cells slots A C P S L h1 h2)⟩
theorem RN_bipush {n : Int} {v : Int32} (hd : decode (mC M) pc = .ok (.bipush n, 2)) (hv : (Int8.ofInt n).toInt32 = v) (h : RN G M (pc + 2) ls (.int v :: st) σ r σ') : RN G M pc ls (st) σ r σ' :=
  ⟨h.1, fun p e R s m args below meth c H locs cells slots A C P S L h1 h2 => lv_bipush C.1 C.2.1 hd hv (h.2 p e R s m args below meth c H locs cells slots A C P S L h1 h2)⟩
theorem RN_sipush {n : Int} {v : Int32} (hd : decode (mC M) pc = .ok (.sipush n, 3)) (hv : (Int16.ofInt n).toInt32 = v) (h : RN G M (pc + 3) ls (.int v :: st) σ r σ') : RN G M pc ls (st) σ r σ' :=
  ⟨h.1, fun p e R s m args below meth c H locs cells slots A C P S L h1 h2 => lv_sipush C.1 C.2.1 hd hv (h.2 p e R s m args below meth c H locs cells slots A C P S L h1 h2)⟩
theorem RN_lconst {n : Fin 2} {v : Int64} (hd : decode (mC M) pc = .ok (.lconst n, 1)) (hv : Int64.ofNat (n : Nat) = v) (h : RN G M (pc + 1) ls (.long v :: st) σ r σ') : RN G M pc ls (st) σ r σ' :=
  ⟨h.1, fun p e R s m args below meth c H locs cells slots A C P S L h1 h2 => lv_lconst C.1 C.2.1 hd hv (h.2 p e R s m args below meth c H locs cells slots A C P S L h1 h2)⟩
theorem RN_dconst0 (hd : decode (mC M) pc = .ok (.dconst 0, 1)) (h : RN G M (pc + 1) ls (.double FP.dconst0 :: st) σ r σ') : RN G M pc ls (st) σ r σ' :=
  ⟨h.1, fun p e R s m args below meth c H locs cells slots A C P S L h1 h2 => lv_dconst0 C.1 C.2.1 hd (h.2 p e R s m args below meth c H locs cells slots A C P S L h1 h2)⟩
theorem RN_dconst1 (hd : decode (mC M) pc = .ok (.dconst 1, 1)) (h : RN G M (pc + 1) ls (.double FP.dconst1 :: st) σ r σ') : RN G M pc ls (st) σ r σ' :=
  ⟨h.1, fun p e R s m args below meth c H locs cells slots A C P S L h1 h2 => lv_dconst1 C.1 C.2.1 hd (h.2 p e R s m args below meth c H locs cells slots A C P S L h1 h2)⟩
theorem RN_ldc {idx : Nat} {v : Int32} (hd : decode (mC M) pc = .ok (.ldc idx, 2)) (hw : Cond.constant (mOwn M) idx v ∈ TB) (h : RN G M (pc + 2) ls (.int v :: st) σ r σ') : RN G M pc ls st σ r σ' :=
  ⟨h.1, fun p e R s m args below meth c H locs cells slots A C P S L h1 h2 => lv_ldc C.1 C.2.1 C.2.2.2.2.2.1 (C.2.2.2.2.2.2.2.1 _ hw) hd (h.2 p e R s m args below meth c H locs cells slots A C P S L h1 h2)⟩
theorem RN_ldcw {idx : Nat} {v : Int32} (hd : decode (mC M) pc = .ok (.ldc_w idx, 3)) (hw : Cond.constant (mOwn M) idx v ∈ TB) (h : RN G M (pc + 3) ls (.int v :: st) σ r σ') : RN G M pc ls st σ r σ' :=
  ⟨h.1, fun p e R s m args below meth c H locs cells slots A C P S L h1 h2 => lv_ldcw C.1 C.2.1 C.2.2.2.2.2.1 (C.2.2.2.2.2.2.2.1 _ hw) hd (h.2 p e R s m args below meth c H locs cells slots A C P S L h1 h2)⟩
theorem RN_ldc2 {idx : Nat} {v : Int64} (hd : decode (mC M) pc = .ok (.ldc2_w idx, 3)) (hw : Cond.constantLong (mOwn M) idx v ∈ TB) (h : RN G M (pc + 3) ls (.long v :: st) σ r σ') : RN G M pc ls st σ r σ' :=
  ⟨h.1, fun p e R s m args below meth c H locs cells slots A C P S L h1 h2 => lv_ldc2 C.1 C.2.1 C.2.2.2.2.2.1 (C.2.2.2.2.2.2.2.1 _ hw) hd (h.2 p e R s m args below meth c H locs cells slots A C P S L h1 h2)⟩
theorem RN_ldc2d {idx : Nat} {v : UInt64} (hd : decode (mC M) pc = .ok (.ldc2_w idx, 3)) (hw : Cond.constantDouble (mOwn M) idx v ∈ TB) (h : RN G M (pc + 3) ls (.double v :: st) σ r σ') : RN G M pc ls st σ r σ' :=
  ⟨h.1, fun p e R s m args below meth c H locs cells slots A C P S L h1 h2 => lv_ldc2d C.1 C.2.1 C.2.2.2.2.2.1 (C.2.2.2.2.2.2.2.1 _ hw) hd (h.2 p e R s m args below meth c H locs cells slots A C P S L h1 h2)⟩
theorem RN_dup {va : Value} (hd : decode (mC M) pc = .ok (.dup, 1)) (ha : va.category = 1) (h : RN G M (pc + 1) ls (va :: va :: st) σ r σ') : RN G M pc ls (va :: st) σ r σ' :=
  ⟨h.1, fun p e R s m args below meth c H locs cells slots A C P S L h1 h2 => lv_dup C.1 C.2.1 hd (by rw [eV_cat]; exact ha) (h.2 p e R s m args below meth c H locs cells slots A C P S L h1 h2)⟩
theorem RN_pop {va : Value} (hd : decode (mC M) pc = .ok (.pop, 1)) (ha : va.category = 1) (h : RN G M (pc + 1) ls (st) σ r σ') : RN G M pc ls (va :: st) σ r σ' :=
  ⟨h.1, fun p e R s m args below meth c H locs cells slots A C P S L h1 h2 => lv_pop C.1 C.2.1 hd (by rw [eV_cat]; exact ha) (h.2 p e R s m args below meth c H locs cells slots A C P S L h1 h2)⟩
theorem RN_dup2_2 {va : Value} (hd : decode (mC M) pc = .ok (.dup2, 1)) (ha : va.category = 2) (h : RN G M (pc + 1) ls (va :: va :: st) σ r σ') : RN G M pc ls (va :: st) σ r σ' :=
  ⟨h.1, fun p e R s m args below meth c H locs cells slots A C P S L h1 h2 => lv_dup2_2 C.1 C.2.1 hd (by rw [eV_cat]; exact ha) (h.2 p e R s m args below meth c H locs cells slots A C P S L h1 h2)⟩
theorem RN_pop2_2 {va : Value} (hd : decode (mC M) pc = .ok (.pop2, 1)) (ha : va.category = 2) (h : RN G M (pc + 1) ls (st) σ r σ') : RN G M pc ls (va :: st) σ r σ' :=
  ⟨h.1, fun p e R s m args below meth c H locs cells slots A C P S L h1 h2 => lv_pop2_2 C.1 C.2.1 hd (by rw [eV_cat]; exact ha) (h.2 p e R s m args below meth c H locs cells slots A C P S L h1 h2)⟩
theorem RN_dup_x1 {va vb : Value} (hd : decode (mC M) pc = .ok (.dup_x1, 1)) (ha : va.category = 1) (hb : vb.category = 1) (h : RN G M (pc + 1) ls (va :: vb :: va :: st) σ r σ') : RN G M pc ls (va :: vb :: st) σ r σ' :=
  ⟨h.1, fun p e R s m args below meth c H locs cells slots A C P S L h1 h2 => lv_dup_x1 C.1 C.2.1 hd (by rw [eV_cat]; exact ha) (by rw [eV_cat]; exact hb) (h.2 p e R s m args below meth c H locs cells slots A C P S L h1 h2)⟩
theorem RN_dup2_11 {va vb : Value} (hd : decode (mC M) pc = .ok (.dup2, 1)) (ha : va.category = 1) (hb : vb.category = 1) (h : RN G M (pc + 1) ls (va :: vb :: va :: vb :: st) σ r σ') : RN G M pc ls (va :: vb :: st) σ r σ' :=
  ⟨h.1, fun p e R s m args below meth c H locs cells slots A C P S L h1 h2 => lv_dup2_11 C.1 C.2.1 hd (by rw [eV_cat]; exact ha) (by rw [eV_cat]; exact hb) (h.2 p e R s m args below meth c H locs cells slots A C P S L h1 h2)⟩
theorem RN_dup2_x1_2 {va vb : Value} (hd : decode (mC M) pc = .ok (.dup2_x1, 1)) (ha : va.category = 2) (hb : vb.category = 1) (h : RN G M (pc + 1) ls (va :: vb :: va :: st) σ r σ') : RN G M pc ls (va :: vb :: st) σ r σ' :=
  ⟨h.1, fun p e R s m args below meth c H locs cells slots A C P S L h1 h2 => lv_dup2_x1_2 C.1 C.2.1 hd (by rw [eV_cat]; exact ha) (by rw [eV_cat]; exact hb) (h.2 p e R s m args below meth c H locs cells slots A C P S L h1 h2)⟩
theorem RN_iload {i : Nat} {x : Int32} (hd : decode (mC M) pc = .ok (.iload i, 2)) (hl : ls[i]? = some (some (.int x))) (h : RN G M (pc + 2) ls (.int x :: st) σ r σ') : RN G M pc ls st σ r σ' :=
  ⟨h.1, fun p e R s m args below meth c H locs cells slots A C P S L h1 h2 => lv_iload C.1 C.2.1 hd (L.get hl) (h.2 p e R s m args below meth c H locs cells slots A C P S L h1 h2)⟩
theorem RN_iload_n {k : Fin 4} {i : Nat} {x : Int32} (hd : decode (mC M) pc = .ok (.iload_n k, 1)) (hi : (k : Nat) = i) (hl : ls[i]? = some (some (.int x))) (h : RN G M (pc + 1) ls (.int x :: st) σ r σ') : RN G M pc ls st σ r σ' :=
  ⟨h.1, fun p e R s m args below meth c H locs cells slots A C P S L h1 h2 => lv_iload_n C.1 C.2.1 hd hi (L.get hl) (h.2 p e R s m args below meth c H locs cells slots A C P S L h1 h2)⟩
theorem RN_lload {i : Nat} {x : Int64} (hd : decode (mC M) pc = .ok (.lload i, 2)) (hl : ls[i]? = some (some (.long x))) (h : RN G M (pc + 2) ls (.long x :: st) σ r σ') : RN G M pc ls st σ r σ' :=
  ⟨h.1, fun p e R s m args below meth c H locs cells slots A C P S L h1 h2 => lv_lload C.1 C.2.1 hd (L.get hl) (h.2 p e R s m args below meth c H locs cells slots A C P S L h1 h2)⟩
theorem RN_lload_n {k : Fin 4} {i : Nat} {x : Int64} (hd : decode (mC M) pc = .ok (.lload_n k, 1)) (hi : (k : Nat) = i) (hl : ls[i]? = some (some (.long x))) (h : RN G M (pc + 1) ls (.long x :: st) σ r σ') : RN G M pc ls st σ r σ' :=
  ⟨h.1, fun p e R s m args below meth c H locs cells slots A C P S L h1 h2 => lv_lload_n C.1 C.2.1 hd hi (L.get hl) (h.2 p e R s m args below meth c H locs cells slots A C P S L h1 h2)⟩
theorem RN_dload {i : Nat} {x : UInt64} (hd : decode (mC M) pc = .ok (.dload i, 2)) (hl : ls[i]? = some (some (.double x))) (h : RN G M (pc + 2) ls (.double x :: st) σ r σ') : RN G M pc ls st σ r σ' :=
  ⟨h.1, fun p e R s m args below meth c H locs cells slots A C P S L h1 h2 => lv_dload C.1 C.2.1 hd (L.get hl) (h.2 p e R s m args below meth c H locs cells slots A C P S L h1 h2)⟩
theorem RN_dload_n {k : Fin 4} {i : Nat} {x : UInt64} (hd : decode (mC M) pc = .ok (.dload_n k, 1)) (hi : (k : Nat) = i) (hl : ls[i]? = some (some (.double x))) (h : RN G M (pc + 1) ls (.double x :: st) σ r σ') : RN G M pc ls st σ r σ' :=
  ⟨h.1, fun p e R s m args below meth c H locs cells slots A C P S L h1 h2 => lv_dload_n C.1 C.2.1 hd hi (L.get hl) (h.2 p e R s m args below meth c H locs cells slots A C P S L h1 h2)⟩
theorem RN_aload {i : Nat} {x : Nat} (hd : decode (mC M) pc = .ok (.aload i, 2)) (hl : ls[i]? = some (some (.ref x))) (h : RN G M (pc + 2) ls (.ref x :: st) σ r σ') : RN G M pc ls st σ r σ' :=
  ⟨h.1, fun p e R s m args below meth c H locs cells slots A C P S L h1 h2 => lv_aload C.1 C.2.1 hd (L.get hl) (h.2 p e R s m args below meth c H locs cells slots A C P S L h1 h2)⟩
theorem RN_aload_n {k : Fin 4} {i : Nat} {x : Nat} (hd : decode (mC M) pc = .ok (.aload_n k, 1)) (hi : (k : Nat) = i) (hl : ls[i]? = some (some (.ref x))) (h : RN G M (pc + 1) ls (.ref x :: st) σ r σ') : RN G M pc ls st σ r σ' :=
  ⟨h.1, fun p e R s m args below meth c H locs cells slots A C P S L h1 h2 => lv_aload_n C.1 C.2.1 hd hi (L.get hl) (h.2 p e R s m args below meth c H locs cells slots A C P S L h1 h2)⟩
theorem RN_istore {i : Nat} {x : Int32} (hd : decode (mC M) pc = .ok (.istore i, 2)) (hi : i < mL M) (hl : lst1 ls i (.int x) = ls2) (h : RN G M (pc + 2) ls2 st σ r σ') : RN G M pc ls (.int x :: st) σ r σ' :=
  ⟨h.1, fun p e R s m args below meth c H locs cells slots A C P S L h1 h2 => lv_istore C.1 C.2.1 hd L hi rfl (fun A' L' => h.2 p e R s m args below meth c H locs cells slots A' C P S (hl ▸ LV.st1 (v := .int x) L') h1 h2)⟩
theorem RN_istore_n {k : Fin 4} {i : Nat} {x : Int32} (hd : decode (mC M) pc = .ok (.istore_n k, 1)) (hk : (k : Nat) = i) (hi : i < mL M) (hl : lst1 ls i (.int x) = ls2) (h : RN G M (pc + 1) ls2 st σ r σ') : RN G M pc ls (.int x :: st) σ r σ' :=
  ⟨h.1, fun p e R s m args below meth c H locs cells slots A C P S L h1 h2 => lv_istore_n C.1 C.2.1 hd hk L hi rfl (fun A' L' => h.2 p e R s m args below meth c H locs cells slots A' C P S (hl ▸ LV.st1 (v := .int x) L') h1 h2)⟩
theorem RN_lstore {i : Nat} {x : Int64} (hd : decode (mC M) pc = .ok (.lstore i, 2)) (hi : i + 1 < mL M) (hl : lst2 ls i (.long x) = ls2) (h : RN G M (pc + 2) ls2 st σ r σ') : RN G M pc ls (.long x :: st) σ r σ' :=
  ⟨h.1, fun p e R s m args below meth c H locs cells slots A C P S L h1 h2 => lv_lstore C.1 C.2.1 hd L hi rfl (fun A' L' => h.2 p e R s m args below meth c H locs cells slots A' C P S (hl ▸ LV.st2 (v := .long x) L') h1 h2)⟩
theorem RN_lstore_n {k : Fin 4} {i : Nat} {x : Int64} (hd : decode (mC M) pc = .ok (.lstore_n k, 1)) (hk : (k : Nat) = i) (hi : i + 1 < mL M) (hl : lst2 ls i (.long x) = ls2) (h : RN G M (pc + 1) ls2 st σ r σ') : RN G M pc ls (.long x :: st) σ r σ' :=
  ⟨h.1, fun p e R s m args below meth c H locs cells slots A C P S L h1 h2 => lv_lstore_n C.1 C.2.1 hd hk L hi rfl (fun A' L' => h.2 p e R s m args below meth c H locs cells slots A' C P S (hl ▸ LV.st2 (v := .long x) L') h1 h2)⟩
theorem RN_dstore {i : Nat} {x : UInt64} (hd : decode (mC M) pc = .ok (.dstore i, 2)) (hi : i + 1 < mL M) (hl : lst2 ls i (.double x) = ls2) (h : RN G M (pc + 2) ls2 st σ r σ') : RN G M pc ls (.double x :: st) σ r σ' :=
  ⟨h.1, fun p e R s m args below meth c H locs cells slots A C P S L h1 h2 => lv_dstore C.1 C.2.1 hd L hi rfl (fun A' L' => h.2 p e R s m args below meth c H locs cells slots A' C P S (hl ▸ LV.st2 (v := .double x) L') h1 h2)⟩
theorem RN_dstore_n {k : Fin 4} {i : Nat} {x : UInt64} (hd : decode (mC M) pc = .ok (.dstore_n k, 1)) (hk : (k : Nat) = i) (hi : i + 1 < mL M) (hl : lst2 ls i (.double x) = ls2) (h : RN G M (pc + 1) ls2 st σ r σ') : RN G M pc ls (.double x :: st) σ r σ' :=
  ⟨h.1, fun p e R s m args below meth c H locs cells slots A C P S L h1 h2 => lv_dstore_n C.1 C.2.1 hd hk L hi rfl (fun A' L' => h.2 p e R s m args below meth c H locs cells slots A' C P S (hl ▸ LV.st2 (v := .double x) L') h1 h2)⟩
theorem RN_astore {i : Nat} {x : Nat} (hd : decode (mC M) pc = .ok (.astore i, 2)) (hi : i < mL M) (hl : lst1 ls i (.ref x) = ls2) (h : RN G M (pc + 2) ls2 st σ r σ') : RN G M pc ls (.ref x :: st) σ r σ' :=
  ⟨h.1, fun p e R s m args below meth c H locs cells slots A C P S L h1 h2 => lv_astore C.1 C.2.1 hd L hi rfl (fun A' L' => h.2 p e R s m args below meth c H locs cells slots A' C P S (hl ▸ LV.st1 (v := .ref x) L') h1 h2)⟩
theorem RN_astore_n {k : Fin 4} {i : Nat} {x : Nat} (hd : decode (mC M) pc = .ok (.astore_n k, 1)) (hk : (k : Nat) = i) (hi : i < mL M) (hl : lst1 ls i (.ref x) = ls2) (h : RN G M (pc + 1) ls2 st σ r σ') : RN G M pc ls (.ref x :: st) σ r σ' :=
  ⟨h.1, fun p e R s m args below meth c H locs cells slots A C P S L h1 h2 => lv_astore_n C.1 C.2.1 hd hk L hi rfl (fun A' L' => h.2 p e R s m args below meth c H locs cells slots A' C P S (hl ▸ LV.st1 (v := .ref x) L') h1 h2)⟩
theorem RN_iinc {i : Nat} {n : Int} {x v : Int32} (hd : decode (mC M) pc = .ok (.iinc i n, 3)) (hx : ls[i]? = some (some (.int x))) (hv : x + Int32.ofInt n = v) (hi : i < mL M) (hl : lst1 ls i (.int v) = ls2) (h : RN G M (pc + 3) ls2 st σ r σ') : RN G M pc ls st σ r σ' :=
  ⟨h.1, fun p e R s m args below meth c H locs cells slots A C P S L h1 h2 => by
    obtain ⟨k, hk⟩ := List.getElem?_of_mem (mem_asc.mpr ⟨i, .int x, hx, rfl⟩ : (0 + i, eV G (.int x)) ∈ asc G 0 ls)
    rw [Nat.zero_add] at hk
    exact lv_iinc C.1 C.2.1 hd L hk hv hi rfl (fun A' L' => h.2 p e R s m args below meth c H locs cells slots A' C P S (hl ▸ LV.st1 (v := .int v) L') h1 h2)⟩
theorem RN_if_eq {x : Int32} {off : Int} {tgt : Nat} (hd : decode (mC M) pc = .ok (.ifCond .eq off, 3)) (ht : (pc : Int) + off = (tgt : Int)) (kt : x = 0 → RN G M tgt ls st σ r σ') (kf : ¬ x = 0 → RN G M (pc + 3) ls st σ r σ') : RN G M pc ls (.int x :: st) σ r σ' := by
  by_cases hc : x = 0
  · refine ⟨(kt hc).1, fun p e R s m args below meth c H locs cells slots A C P S L h1 h2 => lv_if_eq C.1 C.2.1 hd ht (fun _ => (kt hc).2 p e R s m args below meth c H locs cells slots A C P S L h1 h2) (fun q => ?_)⟩
    first | exact absurd hc q | exact absurd q hc
  · have hc' : ¬ x = 0 := hc
    refine ⟨(kf hc').1, fun p e R s m args below meth c H locs cells slots A C P S L h1 h2 => lv_if_eq C.1 C.2.1 hd ht (fun q => ?_) (fun _ => (kf hc').2 p e R s m args below meth c H locs cells slots A C P S L h1 h2)⟩
    first | exact absurd q hc | exact absurd hc q
theorem RN_icmp_eq {x y : Int32} {off : Int} {tgt : Nat} (hd : decode (mC M) pc = .ok (.if_icmp .eq off, 3)) (ht : (pc : Int) + off = (tgt : Int)) (kt : x = y → RN G M tgt ls st σ r σ') (kf : ¬ x = y → RN G M (pc + 3) ls st σ r σ') : RN G M pc ls (.int y :: .int x :: st) σ r σ' := by
  by_cases hc : x = y
  · refine ⟨(kt hc).1, fun p e R s m args below meth c H locs cells slots A C P S L h1 h2 => lv_icmp_eq C.1 C.2.1 hd ht (fun _ => (kt hc).2 p e R s m args below meth c H locs cells slots A C P S L h1 h2) (fun q => ?_)⟩
    first | exact absurd hc q | exact absurd q hc
  · have hc' : ¬ x = y := hc
    refine ⟨(kf hc').1, fun p e R s m args below meth c H locs cells slots A C P S L h1 h2 => lv_icmp_eq C.1 C.2.1 hd ht (fun q => ?_) (fun _ => (kf hc').2 p e R s m args below meth c H locs cells slots A C P S L h1 h2)⟩
    first | exact absurd q hc | exact absurd hc q
theorem RN_if_ne {x : Int32} {off : Int} {tgt : Nat} (hd : decode (mC M) pc = .ok (.ifCond .ne off, 3)) (ht : (pc : Int) + off = (tgt : Int)) (kt : ¬ x = 0 → RN G M tgt ls st σ r σ') (kf : x = 0 → RN G M (pc + 3) ls st σ r σ') : RN G M pc ls (.int x :: st) σ r σ' := by
  by_cases hc : ¬ x = 0
  · refine ⟨(kt hc).1, fun p e R s m args below meth c H locs cells slots A C P S L h1 h2 => lv_if_ne C.1 C.2.1 hd ht (fun _ => (kt hc).2 p e R s m args below meth c H locs cells slots A C P S L h1 h2) (fun q => ?_)⟩
    first | exact absurd hc q | exact absurd q hc
  · have hc' : x = 0 := Decidable.of_not_not hc
    refine ⟨(kf hc').1, fun p e R s m args below meth c H locs cells slots A C P S L h1 h2 => lv_if_ne C.1 C.2.1 hd ht (fun q => ?_) (fun _ => (kf hc').2 p e R s m args below meth c H locs cells slots A C P S L h1 h2)⟩
    first | exact absurd q hc | exact absurd hc q
theorem RN_icmp_ne {x y : Int32} {off : Int} {tgt : Nat} (hd : decode (mC M) pc = .ok (.if_icmp .ne off, 3)) (ht : (pc : Int) + off = (tgt : Int)) (kt : ¬ x = y → RN G M tgt ls st σ r σ') (kf : x = y → RN G M (pc + 3) ls st σ r σ') : RN G M pc ls (.int y :: .int x :: st) σ r σ' := by
  by_cases hc : ¬ x = y
  · refine ⟨(kt hc).1, fun p e R s m args below meth c H locs cells slots A C P S L h1 h2 => lv_icmp_ne C.1 C.2.1 hd ht (fun _ => (kt hc).2 p e R s m args below meth c H locs cells slots A C P S L h1 h2) (fun q => ?_)⟩
    first | exact absurd hc q | exact absurd q hc
  · have hc' : x = y := Decidable.of_not_not hc
    refine ⟨(kf hc').1, fun p e R s m args below meth c H locs cells slots A C P S L h1 h2 => lv_icmp_ne C.1 C.2.1 hd ht (fun q => ?_) (fun _ => (kf hc').2 p e R s m args below meth c H locs cells slots A C P S L h1 h2)⟩
    first | exact absurd q hc | exact absurd hc q
theorem RN_if_lt {x : Int32} {off : Int} {tgt : Nat} (hd : decode (mC M) pc = .ok (.ifCond .lt off, 3)) (ht : (pc : Int) + off = (tgt : Int)) (kt : x < 0 → RN G M tgt ls st σ r σ') (kf : ¬ x < 0 → RN G M (pc + 3) ls st σ r σ') : RN G M pc ls (.int x :: st) σ r σ' := by
  by_cases hc : x < 0
  · refine ⟨(kt hc).1, fun p e R s m args below meth c H locs cells slots A C P S L h1 h2 => lv_if_lt C.1 C.2.1 hd ht (fun _ => (kt hc).2 p e R s m args below meth c H locs cells slots A C P S L h1 h2) (fun q => ?_)⟩
    first | exact absurd hc q | exact absurd q hc
  · have hc' : ¬ x < 0 := hc
    refine ⟨(kf hc').1, fun p e R s m args below meth c H locs cells slots A C P S L h1 h2 => lv_if_lt C.1 C.2.1 hd ht (fun q => ?_) (fun _ => (kf hc').2 p e R s m args below meth c H locs cells slots A C P S L h1 h2)⟩
    first | exact absurd q hc | exact absurd hc q
theorem RN_icmp_lt {x y : Int32} {off : Int} {tgt : Nat} (hd : decode (mC M) pc = .ok (.if_icmp .lt off, 3)) (ht : (pc : Int) + off = (tgt : Int)) (kt : x < y → RN G M tgt ls st σ r σ') (kf : ¬ x < y → RN G M (pc + 3) ls st σ r σ') : RN G M pc ls (.int y :: .int x :: st) σ r σ' := by
  by_cases hc : x < y
  · refine ⟨(kt hc).1, fun p e R s m args below meth c H locs cells slots A C P S L h1 h2 => lv_icmp_lt C.1 C.2.1 hd ht (fun _ => (kt hc).2 p e R s m args below meth c H locs cells slots A C P S L h1 h2) (fun q => ?_)⟩
    first | exact absurd hc q | exact absurd q hc
  · have hc' : ¬ x < y := hc
    refine ⟨(kf hc').1, fun p e R s m args below meth c H locs cells slots A C P S L h1 h2 => lv_icmp_lt C.1 C.2.1 hd ht (fun q => ?_) (fun _ => (kf hc').2 p e R s m args below meth c H locs cells slots A C P S L h1 h2)⟩
    first | exact absurd q hc | exact absurd hc q
theorem RN_if_ge {x : Int32} {off : Int} {tgt : Nat} (hd : decode (mC M) pc = .ok (.ifCond .ge off, 3)) (ht : (pc : Int) + off = (tgt : Int)) (kt : 0 ≤ x → RN G M tgt ls st σ r σ') (kf : ¬ 0 ≤ x → RN G M (pc + 3) ls st σ r σ') : RN G M pc ls (.int x :: st) σ r σ' := by
  by_cases hc : 0 ≤ x
  · refine ⟨(kt hc).1, fun p e R s m args below meth c H locs cells slots A C P S L h1 h2 => lv_if_ge C.1 C.2.1 hd ht (fun _ => (kt hc).2 p e R s m args below meth c H locs cells slots A C P S L h1 h2) (fun q => ?_)⟩
    first | exact absurd hc q | exact absurd q hc
  · have hc' : ¬ 0 ≤ x := hc
    refine ⟨(kf hc').1, fun p e R s m args below meth c H locs cells slots A C P S L h1 h2 => lv_if_ge C.1 C.2.1 hd ht (fun q => ?_) (fun _ => (kf hc').2 p e R s m args below meth c H locs cells slots A C P S L h1 h2)⟩
    first | exact absurd q hc | exact absurd hc q
theorem RN_icmp_ge {x y : Int32} {off : Int} {tgt : Nat} (hd : decode (mC M) pc = .ok (.if_icmp .ge off, 3)) (ht : (pc : Int) + off = (tgt : Int)) (kt : y ≤ x → RN G M tgt ls st σ r σ') (kf : ¬ y ≤ x → RN G M (pc + 3) ls st σ r σ') : RN G M pc ls (.int y :: .int x :: st) σ r σ' := by
  by_cases hc : y ≤ x
  · refine ⟨(kt hc).1, fun p e R s m args below meth c H locs cells slots A C P S L h1 h2 => lv_icmp_ge C.1 C.2.1 hd ht (fun _ => (kt hc).2 p e R s m args below meth c H locs cells slots A C P S L h1 h2) (fun q => ?_)⟩
    first | exact absurd hc q | exact absurd q hc
  · have hc' : ¬ y ≤ x := hc
    refine ⟨(kf hc').1, fun p e R s m args below meth c H locs cells slots A C P S L h1 h2 => lv_icmp_ge C.1 C.2.1 hd ht (fun q => ?_) (fun _ => (kf hc').2 p e R s m args below meth c H locs cells slots A C P S L h1 h2)⟩
    first | exact absurd q hc | exact absurd hc q
theorem RN_if_gt {x : Int32} {off : Int} {tgt : Nat} (hd : decode (mC M) pc = .ok (.ifCond .gt off, 3)) (ht : (pc : Int) + off = (tgt : Int)) (kt : 0 < x → RN G M tgt ls st σ r σ') (kf : ¬ 0 < x → RN G M (pc + 3) ls st σ r σ') : RN G M pc ls (.int x :: st) σ r σ' := by
  by_cases hc : 0 < x
  · refine ⟨(kt hc).1, fun p e R s m args below meth c H locs cells slots A C P S L h1 h2 => lv_if_gt C.1 C.2.1 hd ht (fun _ => (kt hc).2 p e R s m args below meth c H locs cells slots A C P S L h1 h2) (fun q => ?_)⟩
    first | exact absurd hc q | exact absurd q hc
  · have hc' : ¬ 0 < x := hc
    refine ⟨(kf hc').1, fun p e R s m args below meth c H locs cells slots A C P S L h1 h2 => lv_if_gt C.1 C.2.1 hd ht (fun q => ?_) (fun _ => (kf hc').2 p e R s m args below meth c H locs cells slots A C P S L h1 h2)⟩
    first | exact absurd q hc | exact absurd hc q
theorem RN_icmp_gt {x y : Int32} {off : Int} {tgt : Nat} (hd : decode (mC M) pc = .ok (.if_icmp .gt off, 3)) (ht : (pc : Int) + off = (tgt : Int)) (kt : y < x → RN G M tgt ls st σ r σ') (kf : ¬ y < x → RN G M (pc + 3) ls st σ r σ') : RN G M pc ls (.int y :: .int x :: st) σ r σ' := by
  by_cases hc : y < x
  · refine ⟨(kt hc).1, fun p e R s m args below meth c H locs cells slots A C P S L h1 h2 => lv_icmp_gt C.1 C.2.1 hd ht (fun _ => (kt hc).2 p e R s m args below meth c H locs cells slots A C P S L h1 h2) (fun q => ?_)⟩
    first | exact absurd hc q | exact absurd q hc
  · have hc' : ¬ y < x := hc
    refine ⟨(kf hc').1, fun p e R s m args below meth c H locs cells slots A C P S L h1 h2 => lv_icmp_gt C.1 C.2.1 hd ht (fun q => ?_) (fun _ => (kf hc').2 p e R s m args below meth c H locs cells slots A C P S L h1 h2)⟩
    first | exact absurd q hc | exact absurd hc q
theorem RN_if_le {x : Int32} {off : Int} {tgt : Nat} (hd : decode (mC M) pc = .ok (.ifCond .le off, 3)) (ht : (pc : Int) + off = (tgt : Int)) (kt : x ≤ 0 → RN G M tgt ls st σ r σ') (kf : ¬ x ≤ 0 → RN G M (pc + 3) ls st σ r σ') : RN G M pc ls (.int x :: st) σ r σ' := by
  by_cases hc : x ≤ 0
  · refine ⟨(kt hc).1, fun p e R s m args below meth c H locs cells slots A C P S L h1 h2 => lv_if_le C.1 C.2.1 hd ht (fun _ => (kt hc).2 p e R s m args below meth c H locs cells slots A C P S L h1 h2) (fun q => ?_)⟩
    first | exact absurd hc q | exact absurd q hc
  · have hc' : ¬ x ≤ 0 := hc
    refine ⟨(kf hc').1, fun p e R s m args below meth c H locs cells slots A C P S L h1 h2 => lv_if_le C.1 C.2.1 hd ht (fun q => ?_) (fun _ => (kf hc').2 p e R s m args below meth c H locs cells slots A C P S L h1 h2)⟩
    first | exact absurd q hc | exact absurd hc q
theorem RN_icmp_le {x y : Int32} {off : Int} {tgt : Nat} (hd : decode (mC M) pc = .ok (.if_icmp .le off, 3)) (ht : (pc : Int) + off = (tgt : Int)) (kt : x ≤ y → RN G M tgt ls st σ r σ') (kf : ¬ x ≤ y → RN G M (pc + 3) ls st σ r σ') : RN G M pc ls (.int y :: .int x :: st) σ r σ' := by
  by_cases hc : x ≤ y
  · refine ⟨(kt hc).1, fun p e R s m args below meth c H locs cells slots A C P S L h1 h2 => lv_icmp_le C.1 C.2.1 hd ht (fun _ => (kt hc).2 p e R s m args below meth c H locs cells slots A C P S L h1 h2) (fun q => ?_)⟩
    first | exact absurd hc q | exact absurd q hc
  · have hc' : ¬ x ≤ y := hc
    refine ⟨(kf hc').1, fun p e R s m args below meth c H locs cells slots A C P S L h1 h2 => lv_icmp_le C.1 C.2.1 hd ht (fun q => ?_) (fun _ => (kf hc').2 p e R s m args below meth c H locs cells slots A C P S L h1 h2)⟩
    first | exact absurd q hc | exact absurd hc q
theorem RN_goto {off : Int} {tgt : Nat} (hd : decode (mC M) pc = .ok (.goto off, 3)) (ht : (pc : Int) + off = (tgt : Int)) (h : RN G M tgt ls st σ r σ') : RN G M pc ls st σ r σ' :=
  ⟨h.1, fun p e R s m args below meth c H locs cells slots A C P S L h1 h2 => lv_goto C.1 C.2.1 hd ht (h.2 p e R s m args below meth c H locs cells slots A C P S L h1 h2)⟩
theorem RN_tableIn {dflt lo hi : Int} {offs : Array Int} {len : Nat} {x : Int32} {off : Int} {tgt : Nat} (hd : decode (mC M) pc = .ok (.tableswitch dflt lo hi offs, len)) (i1 : ¬ x.toInt < lo) (i2 : ¬ hi < x.toInt) (ho : offs[(x.toInt - lo).toNat]? = some off) (ht : (pc : Int) + off = (tgt : Int)) (h : RN G M tgt ls st σ r σ') : RN G M pc ls (.int x :: st) σ r σ' :=
  ⟨h.1, fun p e R s m args below meth c H locs cells slots A C P S L h1 h2 => lv_tableIn C.1 C.2.1 hd i1 i2 ho ht (h.2 p e R s m args below meth c H locs cells slots A C P S L h1 h2)⟩
theorem RN_tableOut {dflt lo hi : Int} {offs : Array Int} {len : Nat} {x : Int32} {tgt : Nat} (hd : decode (mC M) pc = .ok (.tableswitch dflt lo hi offs, len)) (i1 : x.toInt < lo ∨ hi < x.toInt) (ht : (pc : Int) + dflt = (tgt : Int)) (h : RN G M tgt ls st σ r σ') : RN G M pc ls (.int x :: st) σ r σ' :=
  ⟨h.1, fun p e R s m args below meth c H locs cells slots A C P S L h1 h2 => lv_tableOut C.1 C.2.1 hd i1 ht (h.2 p e R s m args below meth c H locs cells slots A C P S L h1 h2)⟩
theorem RN_lcmp {x y : Int64} (hd : decode (mC M) pc = .ok (.lcmp, 1)) (h : RN G M (pc + 1) ls (.int (lg_cmp x y) :: st) σ r σ') : RN G M pc ls (.long y :: .long x :: st) σ r σ' :=
  ⟨h.1, fun p e R s m args below meth c H locs cells slots A C P S L h1 h2 => W.lcmp C.1 C.2.1 hd (h.2 p e R s m args below meth c H locs cells slots A C P S L h1 h2)⟩
end RULES
