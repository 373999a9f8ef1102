/-! ===== the judgement qS: a fragment F (a function into Option) is what the machine does from here on ===== -/
theorem qI_lit (n : Nat) : qI (OfNat.ofNat n) = (OfNat.ofNat n : Int32) := rfl
theorem qI_add (a b : Int) : qI a + qI b = qI (a + b) := (Int32.ofInt_add a b).symm
theorem qI_mul (a b : Int) : qI a * qI b = qI (a * b) := (Int32.ofInt_mul a b).symm
theorem qI_neg (a : Int) : -qI a = qI (-a) := (Int32.ofInt_neg a).symm
theorem qI_sub (a b : Int) : qI a - qI b = qI (a - b) := by rw [Int32.sub_eq_add_neg, qI_neg, qI_add, Int.sub_eq_add_neg]
theorem qJ_add (a b : Int) : qJ a + qJ b = qJ (a + b) := (Int64.ofInt_add a b).symm
theorem qJ_mul (a b : Int) : qJ a * qJ b = qJ (a * b) := (Int64.ofInt_mul a b).symm
theorem qJ_neg (a : Int) : -qJ a = qJ (-a) := (Int64.ofInt_neg a).symm
theorem qJ_sub (a b : Int) : qJ a - qJ b = qJ (a - b) := by rw [Int64.sub_eq_add_neg, qJ_neg, qJ_add, Int.sub_eq_add_neg]
theorem qI_toInt (x : Int32) : qI x.toInt = x := Int32.ofInt_toInt x
theorem qJ_toInt (x : Int64) : qJ x.toInt = x := Int64.ofInt_toInt x
theorem qI_of {z : Int} (h1 : -2147483648 ≤ z) (h2 : z < 2147483648) : (qI z).toInt = z := by
  show (Int32.ofInt z).toInt = z
  rw [Int32.toInt_ofInt]
  exact Int.bmod_eq_of_le (by show -((4294967296 : Nat) : Int) / 2 ≤ z; omega) (by show z < (((4294967296 : Nat) : Int) + 1) / 2; omega)
theorem qJ_of {z : Int} (h1 : -9223372036854775808 ≤ z) (h2 : z < 9223372036854775808) : (qJ z).toInt = z := by
  show (Int64.ofInt z).toInt = z
  rw [Int64.toInt_ofInt]
  exact Int.bmod_eq_of_le (by show -((18446744073709551616 : Nat) : Int) / 2 ≤ z; omega) (by show z < (((18446744073709551616 : Nat) : Int) + 1) / 2; omega)
/-- the operations that aren't the ring's, on Int by way of the machine's words -/
def qand (a b : Int) : Int := (qI a &&& qI b).toInt
def qor (a b : Int) : Int := (qI a ||| qI b).toInt
def qxor (a b : Int) : Int := (qI a ^^^ qI b).toInt
def qshl (a b : Int) : Int := (qI a <<< (qI b &&& 31)).toInt
def qshr (a b : Int) : Int := (qI a >>> (qI b &&& 31)).toInt
def qushr (a b : Int) : Int := ((qI a).toUInt32 >>> ((qI b).toUInt32 &&& Int32.toUInt32 31)).toInt32.toInt
def qdiv (a b : Int) : Int := (qI a / qI b).toInt
def qrem (a b : Int) : Int := (qI a - qI a / qI b * qI b).toInt
def qldiv (a b : Int) : Int := (qJ a / qJ b).toInt
def qlrem (a b : Int) : Int := (qJ a - qJ a / qJ b * qJ b).toInt
def qlxor (a b : Int) : Int := (qJ a ^^^ qJ b).toInt
def qi2l (a : Int) : Int := (qI a).toInt64.toInt
def qi2b (a : Int) : Int := (qI a).toInt8.toInt32.toInt
def qlcmp (a b : Int) : Int := (lg_cmp (qJ a) (qJ b)).toInt
/-- what a fragment's value names -/
def qb {A B : Type} (x : A) (f : A → B) : B := f x
section ROWS
variable {Y : Type} {p : Program} {l : Launch} {e : Env} {R : Room} {s : State} {m : MethodId} {args : Array Value} {below : List Frame} {meth : Method} {c : Code}
def qS (p : Program) (l : Launch) (e : Env) (R : Room) (s : State) (m : MethodId) (args : Array Value) (below : List Frame) (meth : Method) (c : Code) (nL : Nat) (g : qG) (z0 : Nat) (w : qWd) (k n : Nat) (Q : Y → State → Prop) (F : Option Y) (σ : qSt) (pc : Nat) (lo : qLo) (st : List Value) : Prop :=
  ∀ y, F = some y → ∀ (H : Heap) (locs : List Loc) (ls : Array Slot), qR g z0 w σ H → va_S (qA z0) s.heap H locs → qV ls nL lo → W p l e R s m args below meth c H locs k n (Q y) (F0 m pc ls st)
/-- what a walk knows of its method -/
def qCx (p : Program) (s : State) (m : MethodId) (meth : Method) (c : Code) (cc : ByteArray) (nL : Nat) (own : String) (ret : Option FieldType) (g : qG) (z0 : Nat) : Prop :=
  p.tables.exec = Jvm.exec ∧ c.code = cc ∧ c.maxLocals = nL ∧ s.vm.findClass own = some m.cls ∧ qK g z0 s ∧ meth.sig.returnType = ret ∧ meth.locks = false
variable {cc : ByteArray} {nL : Nat} {own : String} {ret : Option FieldType} {g : qG} {z0 : Nat} {w : qWd} {k n : Nat} {Q : Y → State → Prop} {F F1 F2 : Option Y} {σ : qSt} {pc : Nat} {lo : qLo} {st rest : List Value}
theorem qS.sub {lo' : qLo} (h : qsub lo lo') (kk : qS p l e R s m args below meth c nL g z0 w k n Q F σ pc lo' st) : qS p l e R s m args below meth c nL g z0 w k n Q F σ pc lo st :=
  fun y hy H locs ls hH hS hV => kk y hy H locs ls hH hS (hV.sub h)
theorem qS.fail : qS p l e R s m args below meth c nL g z0 w k n Q none σ pc lo st := fun y hy => by cases hy
theorem qS.ite {C : Prop} {hC : Decidable C} (h1 : C → qS p l e R s m args below meth c nL g z0 w k n Q F1 σ pc lo st) (h2 : ¬ C → qS p l e R s m args below meth c nL g z0 w k n Q F2 σ pc lo st) : qS p l e R s m args below meth c nL g z0 w k n Q (if C then F1 else F2) σ pc lo st := by
  by_cases h : C
  · rw [if_pos h]; exact h1 h
  · rw [if_neg h]; exact h2 h
theorem qS.nm {A : Type} {x : A} {f : A → Option Y} (h : ∀ z, z = x → qS p l e R s m args below meth c nL g z0 w k n Q (f z) σ pc lo st) : qS p l e R s m args below meth c nL g z0 w k n Q (qb x f) σ pc lo st := h x rfl
theorem qS.widen {k2 n2 : Nat} (h1 : k ≤ k2) (h2 : n ≤ n2) (kk : qS p l e R s m args below meth c nL g z0 w k2 n2 Q F σ pc lo st) : qS p l e R s m args below meth c nL g z0 w k n Q F σ pc lo st :=
  fun y hy H locs ls hH hS hV => W.widen h1 h2 (kk y hy H locs ls hH hS hV)
-- constants
theorem r_iconst (cx : qCx p s m meth c cc nL own ret g z0) {v : Int} (hd : decode cc pc = .ok (.iconst v, 1)) (kk : qS p l e R s m args below meth c nL g z0 w k n Q F σ (pc + 1) lo (.int (qI v) :: st)) : qS p l e R s m args below meth c nL g z0 w k n Q F σ pc lo st :=
  fun y hy H locs ls hH hS hV => lv_iconst cx.1 cx.2.1 hd rfl (kk y hy H locs ls hH hS hV)
theorem r_bipush (cx : qCx p s m meth c cc nL own ret g z0) {v : Int} (hd : decode cc pc = .ok (.bipush v, 2)) (hv : (Int8.ofInt v).toInt32 = qI v) (kk : qS p l e R s m args below meth c nL g z0 w k n Q F σ (pc + 2) lo (.int (qI v) :: st)) : qS p l e R s m args below meth c nL g z0 w k n Q F σ pc lo st :=
  fun y hy H locs ls hH hS hV => lv_bipush cx.1 cx.2.1 hd hv (kk y hy H locs ls hH hS hV)
theorem r_sipush (cx : qCx p s m meth c cc nL own ret g z0) {v : Int} (hd : decode cc pc = .ok (.sipush v, 3)) (hv : (Int16.ofInt v).toInt32 = qI v) (kk : qS p l e R s m args below meth c nL g z0 w k n Q F σ (pc + 3) lo (.int (qI v) :: st)) : qS p l e R s m args below meth c nL g z0 w k n Q F σ pc lo st :=
  fun y hy H locs ls hH hS hV => lv_sipush cx.1 cx.2.1 hd hv (kk y hy H locs ls hH hS hV)
theorem r_lconst (cx : qCx p s m meth c cc nL own ret g z0) {v : Fin 2} {z : Int} (hd : decode cc pc = .ok (.lconst v, 1)) (hv : Int64.ofNat v = qJ z) (kk : qS p l e R s m args below meth c nL g z0 w k n Q F σ (pc + 1) lo (.long (qJ z) :: st)) : qS p l e R s m args below meth c nL g z0 w k n Q F σ pc lo st :=
  fun y hy H locs ls hH hS hV => lv_lconst cx.1 cx.2.1 hd hv (kk y hy H locs ls hH hS hV)
theorem r_ldc (cx : qCx p s m meth c cc nL own ret g z0) {ix : Nat} {v : Int} (hd : decode cc pc = .ok (.ldc ix, 2)) (hm : Cond.constant own ix (qI v) ∈ lw_tbl) (kk : qS p l e R s m args below meth c nL g z0 w k n Q F σ (pc + 2) lo (.int (qI v) :: st)) : qS p l e R s m args below meth c nL g z0 w k n Q F σ pc lo st :=
  fun y hy H locs ls hH hS hV => lv_ldc cx.1 cx.2.1 cx.2.2.2.1 (cx.2.2.2.2.1.2.1.word hm rfl) hd (kk y hy H locs ls hH hS hV)
theorem r_ldcw (cx : qCx p s m meth c cc nL own ret g z0) {ix : Nat} {v : Int} (hd : decode cc pc = .ok (.ldc_w ix, 3)) (hm : Cond.constant own ix (qI v) ∈ lw_tbl) (kk : qS p l e R s m args below meth c nL g z0 w k n Q F σ (pc + 3) lo (.int (qI v) :: st)) : qS p l e R s m args below meth c nL g z0 w k n Q F σ pc lo st :=
  fun y hy H locs ls hH hS hV => lv_ldcw cx.1 cx.2.1 cx.2.2.2.1 (cx.2.2.2.2.1.2.1.word hm rfl) hd (kk y hy H locs ls hH hS hV)
theorem r_ldc2 (cx : qCx p s m meth c cc nL own ret g z0) {ix : Nat} {v : Int} (hd : decode cc pc = .ok (.ldc2_w ix, 3)) (hm : Cond.constantLong own ix (qJ v) ∈ lw_tbl) (kk : qS p l e R s m args below meth c nL g z0 w k n Q F σ (pc + 3) lo (.long (qJ v) :: st)) : qS p l e R s m args below meth c nL g z0 w k n Q F σ pc lo st :=
  fun y hy H locs ls hH hS hV => lv_ldc2 cx.1 cx.2.1 cx.2.2.2.1 (cx.2.2.2.2.1.2.1.word hm rfl) hd (kk y hy H locs ls hH hS hV)
-- locals
theorem r_iload_n (cx : qCx p s m meth c cc nL own ret g z0) {i : Fin 4} {x : Int32} (hd : decode cc pc = .ok (.iload_n i, 1)) (hl : qlook lo i = some (.int x)) (kk : qS p l e R s m args below meth c nL g z0 w k n Q F σ (pc + 1) lo (.int x :: st)) : qS p l e R s m args below meth c nL g z0 w k n Q F σ pc lo st :=
  fun y hy H locs ls hH hS hV => lv_iload_n cx.1 cx.2.1 hd rfl (hV.at hl) (kk y hy H locs ls hH hS hV)
theorem r_iload (cx : qCx p s m meth c cc nL own ret g z0) {i : Nat} {x : Int32} (hd : decode cc pc = .ok (.iload i, 2)) (hl : qlook lo i = some (.int x)) (kk : qS p l e R s m args below meth c nL g z0 w k n Q F σ (pc + 2) lo (.int x :: st)) : qS p l e R s m args below meth c nL g z0 w k n Q F σ pc lo st :=
  fun y hy H locs ls hH hS hV => lv_iload cx.1 cx.2.1 hd (hV.at hl) (kk y hy H locs ls hH hS hV)
theorem r_lload_n (cx : qCx p s m meth c cc nL own ret g z0) {i : Fin 4} {x : Int64} (hd : decode cc pc = .ok (.lload_n i, 1)) (hl : qlook lo i = some (.long x)) (kk : qS p l e R s m args below meth c nL g z0 w k n Q F σ (pc + 1) lo (.long x :: st)) : qS p l e R s m args below meth c nL g z0 w k n Q F σ pc lo st :=
  fun y hy H locs ls hH hS hV => lv_lload_n cx.1 cx.2.1 hd rfl (hV.at hl) (kk y hy H locs ls hH hS hV)
theorem r_lload (cx : qCx p s m meth c cc nL own ret g z0) {i : Nat} {x : Int64} (hd : decode cc pc = .ok (.lload i, 2)) (hl : qlook lo i = some (.long x)) (kk : qS p l e R s m args below meth c nL g z0 w k n Q F σ (pc + 2) lo (.long x :: st)) : qS p l e R s m args below meth c nL g z0 w k n Q F σ pc lo st :=
  fun y hy H locs ls hH hS hV => lv_lload cx.1 cx.2.1 hd (hV.at hl) (kk y hy H locs ls hH hS hV)
theorem r_fload_n (cx : qCx p s m meth c cc nL own ret g z0) {i : Fin 4} {x : UInt32} (hd : decode cc pc = .ok (.fload_n i, 1)) (hl : qlook lo i = some (.float x)) (kk : qS p l e R s m args below meth c nL g z0 w k n Q F σ (pc + 1) lo (.float x :: st)) : qS p l e R s m args below meth c nL g z0 w k n Q F σ pc lo st :=
  fun y hy H locs ls hH hS hV => lv_fload_n cx.1 cx.2.1 hd rfl (hV.at hl) (kk y hy H locs ls hH hS hV)
theorem r_fload (cx : qCx p s m meth c cc nL own ret g z0) {i : Nat} {x : UInt32} (hd : decode cc pc = .ok (.fload i, 2)) (hl : qlook lo i = some (.float x)) (kk : qS p l e R s m args below meth c nL g z0 w k n Q F σ (pc + 2) lo (.float x :: st)) : qS p l e R s m args below meth c nL g z0 w k n Q F σ pc lo st :=
  fun y hy H locs ls hH hS hV => lv_fload cx.1 cx.2.1 hd (hV.at hl) (kk y hy H locs ls hH hS hV)
theorem r_aload_n (cx : qCx p s m meth c cc nL own ret g z0) {i : Fin 4} {x : Nat} (hd : decode cc pc = .ok (.aload_n i, 1)) (hl : qlook lo i = some (.ref x)) (kk : qS p l e R s m args below meth c nL g z0 w k n Q F σ (pc + 1) lo (.ref x :: st)) : qS p l e R s m args below meth c nL g z0 w k n Q F σ pc lo st :=
  fun y hy H locs ls hH hS hV => lv_aload_n cx.1 cx.2.1 hd rfl (hV.at hl) (kk y hy H locs ls hH hS hV)
theorem r_aload (cx : qCx p s m meth c cc nL own ret g z0) {i : Nat} {x : Nat} (hd : decode cc pc = .ok (.aload i, 2)) (hl : qlook lo i = some (.ref x)) (kk : qS p l e R s m args below meth c nL g z0 w k n Q F σ (pc + 2) lo (.ref x :: st)) : qS p l e R s m args below meth c nL g z0 w k n Q F σ pc lo st :=
  fun y hy H locs ls hH hS hV => lv_aload cx.1 cx.2.1 hd (hV.at hl) (kk y hy H locs ls hH hS hV)
theorem r_istore_n (cx : qCx p s m meth c cc nL own ret g z0) {i : Fin 4} {x : Int32} (hd : decode cc pc = .ok (.istore_n i, 1)) (hn : (i : Nat) < nL) (hok : qok lo i = true) (kk : qS p l e R s m args below meth c nL g z0 w k n Q F σ (pc + 1) (((i : Nat), some (.int x)) :: lo) rest) : qS p l e R s m args below meth c nL g z0 w k n Q F σ pc lo (.int x :: rest) :=
  fun y hy H locs ls hH hS hV => by
  obtain ⟨ls', e', h'⟩ := hV.store1 (v := .int x) hn rfl hok
  intro T hT X
  obtain ⟨t, a, b⟩ := kk y hy H locs ls' hH hS h' T hT X
  refine ⟨t, ?_, b⟩
  have hx := cx.1
  have hb := cx.2.1
  jvm_step X.here [X.here.top, ↓top_set X.here.top, hx, hb, hd, e']
  exact a
theorem r_istore (cx : qCx p s m meth c cc nL own ret g z0) {i : Nat} {x : Int32} (hd : decode cc pc = .ok (.istore i, 2)) (hn : (i : Nat) < nL) (hok : qok lo i = true) (kk : qS p l e R s m args below meth c nL g z0 w k n Q F σ (pc + 2) (((i : Nat), some (.int x)) :: lo) rest) : qS p l e R s m args below meth c nL g z0 w k n Q F σ pc lo (.int x :: rest) :=
  fun y hy H locs ls hH hS hV => by
  obtain ⟨ls', e', h'⟩ := hV.store1 (v := .int x) hn rfl hok
  intro T hT X
  obtain ⟨t, a, b⟩ := kk y hy H locs ls' hH hS h' T hT X
  refine ⟨t, ?_, b⟩
  have hx := cx.1
  have hb := cx.2.1
  jvm_step X.here [X.here.top, ↓top_set X.here.top, hx, hb, hd, e']
  exact a
theorem r_lstore_n (cx : qCx p s m meth c cc nL own ret g z0) {i : Fin 4} {x : Int64} (hd : decode cc pc = .ok (.lstore_n i, 1)) (hn : (i : Nat) + 1 < nL) (hok : qok lo i = true) (kk : qS p l e R s m args below meth c nL g z0 w k n Q F σ (pc + 1) (((i : Nat), some (.long x)) :: ((i : Nat) + 1, none) :: lo) rest) : qS p l e R s m args below meth c nL g z0 w k n Q F σ pc lo (.long x :: rest) :=
  fun y hy H locs ls hH hS hV => by
  obtain ⟨ls', e', h'⟩ := hV.store2 (v := .long x) hn rfl hok
  intro T hT X
  obtain ⟨t, a, b⟩ := kk y hy H locs ls' hH hS h' T hT X
  refine ⟨t, ?_, b⟩
  have hx := cx.1
  have hb := cx.2.1
  jvm_step X.here [X.here.top, ↓top_set X.here.top, hx, hb, hd, e']
  exact a
theorem r_lstore (cx : qCx p s m meth c cc nL own ret g z0) {i : Nat} {x : Int64} (hd : decode cc pc = .ok (.lstore i, 2)) (hn : (i : Nat) + 1 < nL) (hok : qok lo i = true) (kk : qS p l e R s m args below meth c nL g z0 w k n Q F σ (pc + 2) (((i : Nat), some (.long x)) :: ((i : Nat) + 1, none) :: lo) rest) : qS p l e R s m args below meth c nL g z0 w k n Q F σ pc lo (.long x :: rest) :=
  fun y hy H locs ls hH hS hV => by
  obtain ⟨ls', e', h'⟩ := hV.store2 (v := .long x) hn rfl hok
  intro T hT X
  obtain ⟨t, a, b⟩ := kk y hy H locs ls' hH hS h' T hT X
  refine ⟨t, ?_, b⟩
  have hx := cx.1
  have hb := cx.2.1
  jvm_step X.here [X.here.top, ↓top_set X.here.top, hx, hb, hd, e']
  exact a
theorem r_fstore_n (cx : qCx p s m meth c cc nL own ret g z0) {i : Fin 4} {x : UInt32} (hd : decode cc pc = .ok (.fstore_n i, 1)) (hn : (i : Nat) < nL) (hok : qok lo i = true) (kk : qS p l e R s m args below meth c nL g z0 w k n Q F σ (pc + 1) (((i : Nat), some (.float x)) :: lo) rest) : qS p l e R s m args below meth c nL g z0 w k n Q F σ pc lo (.float x :: rest) :=
  fun y hy H locs ls hH hS hV => by
  obtain ⟨ls', e', h'⟩ := hV.store1 (v := .float x) hn rfl hok
  intro T hT X
  obtain ⟨t, a, b⟩ := kk y hy H locs ls' hH hS h' T hT X
  refine ⟨t, ?_, b⟩
  have hx := cx.1
  have hb := cx.2.1
  jvm_step X.here [X.here.top, ↓top_set X.here.top, hx, hb, hd, e']
  exact a
theorem r_fstore (cx : qCx p s m meth c cc nL own ret g z0) {i : Nat} {x : UInt32} (hd : decode cc pc = .ok (.fstore i, 2)) (hn : (i : Nat) < nL) (hok : qok lo i = true) (kk : qS p l e R s m args below meth c nL g z0 w k n Q F σ (pc + 2) (((i : Nat), some (.float x)) :: lo) rest) : qS p l e R s m args below meth c nL g z0 w k n Q F σ pc lo (.float x :: rest) :=
  fun y hy H locs ls hH hS hV => by
  obtain ⟨ls', e', h'⟩ := hV.store1 (v := .float x) hn rfl hok
  intro T hT X
  obtain ⟨t, a, b⟩ := kk y hy H locs ls' hH hS h' T hT X
  refine ⟨t, ?_, b⟩
  have hx := cx.1
  have hb := cx.2.1
  jvm_step X.here [X.here.top, ↓top_set X.here.top, hx, hb, hd, e']
  exact a
theorem r_astore_n (cx : qCx p s m meth c cc nL own ret g z0) {i : Fin 4} {x : Nat} (hd : decode cc pc = .ok (.astore_n i, 1)) (hn : (i : Nat) < nL) (hok : qok lo i = true) (kk : qS p l e R s m args below meth c nL g z0 w k n Q F σ (pc + 1) (((i : Nat), some (.ref x)) :: lo) rest) : qS p l e R s m args below meth c nL g z0 w k n Q F σ pc lo (.ref x :: rest) :=
  fun y hy H locs ls hH hS hV => by
  obtain ⟨ls', e', h'⟩ := hV.store1 (v := .ref x) hn rfl hok
  intro T hT X
  obtain ⟨t, a, b⟩ := kk y hy H locs ls' hH hS h' T hT X
  refine ⟨t, ?_, b⟩
  have hx := cx.1
  have hb := cx.2.1
  jvm_step X.here [X.here.top, ↓top_set X.here.top, hx, hb, hd, e']
  exact ⟨rfl, a⟩
theorem r_astore (cx : qCx p s m meth c cc nL own ret g z0) {i : Nat} {x : Nat} (hd : decode cc pc = .ok (.astore i, 2)) (hn : (i : Nat) < nL) (hok : qok lo i = true) (kk : qS p l e R s m args below meth c nL g z0 w k n Q F σ (pc + 2) (((i : Nat), some (.ref x)) :: lo) rest) : qS p l e R s m args below meth c nL g z0 w k n Q F σ pc lo (.ref x :: rest) :=
  fun y hy H locs ls hH hS hV => by
  obtain ⟨ls', e', h'⟩ := hV.store1 (v := .ref x) hn rfl hok
  intro T hT X
  obtain ⟨t, a, b⟩ := kk y hy H locs ls' hH hS h' T hT X
  refine ⟨t, ?_, b⟩
  have hx := cx.1
  have hb := cx.2.1
  jvm_step X.here [X.here.top, ↓top_set X.here.top, hx, hb, hd, e']
  exact ⟨rfl, a⟩
theorem r_iinc (cx : qCx p s m meth c cc nL own ret g z0) {i : Nat} {v x : Int} (hd : decode cc pc = .ok (.iinc i v, 3)) (hl : qlook lo i = some (.int (qI x))) (hn : i < nL) (hok : qok lo i = true) (kk : qS p l e R s m args below meth c nL g z0 w k n Q F σ (pc + 3) ((i, some (.int (qI (x + v)))) :: lo) st) : qS p l e R s m args below meth c nL g z0 w k n Q F σ pc lo st :=
  fun y hy H locs ls hH hS hV => by
  have hg := hV.at hl
  obtain ⟨ls', e', h'⟩ := hV.store1 (v := .int (qI (x + v))) hn rfl hok
  intro T hT X
  obtain ⟨t, a, b⟩ := kk y hy H locs ls' hH hS h' T hT X
  refine ⟨t, ?_, b⟩
  have hx := cx.1
  have hb := cx.2.1
  rw [← qI_add] at e'
  have e' : storeLocals ls i (.int (qI x + Int32.ofInt v)) = some ls' := e'
  jvm_step X.here [X.here.top, ↓top_set X.here.top, hx, hb, hd, hg, e']
  exact a
theorem r_iadd (cx : qCx p s m meth c cc nL own ret g z0) {a b : Int} (hd : decode cc pc = .ok (.iadd, 1)) (kk : qS p l e R s m args below meth c nL g z0 w k n Q F σ (pc + 1) lo (.int (qI (a + b)) :: rest)) : qS p l e R s m args below meth c nL g z0 w k n Q F σ pc lo (.int (qI b) :: .int (qI a) :: rest) :=
  fun y hy H locs ls hH hS hV => lv_iadd cx.1 cx.2.1 hd (by have h := kk y hy H locs ls hH hS hV; rw [qI_add]; exact h)
theorem r_isub (cx : qCx p s m meth c cc nL own ret g z0) {a b : Int} (hd : decode cc pc = .ok (.isub, 1)) (kk : qS p l e R s m args below meth c nL g z0 w k n Q F σ (pc + 1) lo (.int (qI (a - b)) :: rest)) : qS p l e R s m args below meth c nL g z0 w k n Q F σ pc lo (.int (qI b) :: .int (qI a) :: rest) :=
  fun y hy H locs ls hH hS hV => lv_isub cx.1 cx.2.1 hd (by have h := kk y hy H locs ls hH hS hV; rw [qI_sub]; exact h)
theorem r_imul (cx : qCx p s m meth c cc nL own ret g z0) {a b : Int} (hd : decode cc pc = .ok (.imul, 1)) (kk : qS p l e R s m args below meth c nL g z0 w k n Q F σ (pc + 1) lo (.int (qI (a * b)) :: rest)) : qS p l e R s m args below meth c nL g z0 w k n Q F σ pc lo (.int (qI b) :: .int (qI a) :: rest) :=
  fun y hy H locs ls hH hS hV => lv_imul cx.1 cx.2.1 hd (by have h := kk y hy H locs ls hH hS hV; rw [qI_mul]; exact h)
theorem r_iand (cx : qCx p s m meth c cc nL own ret g z0) {a b : Int} (hd : decode cc pc = .ok (.iand, 1)) (kk : qS p l e R s m args below meth c nL g z0 w k n Q F σ (pc + 1) lo (.int (qI (qand a b)) :: rest)) : qS p l e R s m args below meth c nL g z0 w k n Q F σ pc lo (.int (qI b) :: .int (qI a) :: rest) :=
  fun y hy H locs ls hH hS hV => lv_iand cx.1 cx.2.1 hd (by have h := kk y hy H locs ls hH hS hV; unfold qand at h; rw [qI_toInt] at h; exact h)
theorem r_ior (cx : qCx p s m meth c cc nL own ret g z0) {a b : Int} (hd : decode cc pc = .ok (.ior, 1)) (kk : qS p l e R s m args below meth c nL g z0 w k n Q F σ (pc + 1) lo (.int (qI (qor a b)) :: rest)) : qS p l e R s m args below meth c nL g z0 w k n Q F σ pc lo (.int (qI b) :: .int (qI a) :: rest) :=
  fun y hy H locs ls hH hS hV => lv_ior cx.1 cx.2.1 hd (by have h := kk y hy H locs ls hH hS hV; unfold qor at h; rw [qI_toInt] at h; exact h)
theorem r_ixor (cx : qCx p s m meth c cc nL own ret g z0) {a b : Int} (hd : decode cc pc = .ok (.ixor, 1)) (kk : qS p l e R s m args below meth c nL g z0 w k n Q F σ (pc + 1) lo (.int (qI (qxor a b)) :: rest)) : qS p l e R s m args below meth c nL g z0 w k n Q F σ pc lo (.int (qI b) :: .int (qI a) :: rest) :=
  fun y hy H locs ls hH hS hV => lv_ixor cx.1 cx.2.1 hd (by have h := kk y hy H locs ls hH hS hV; unfold qxor at h; rw [qI_toInt] at h; exact h)
theorem r_ishl (cx : qCx p s m meth c cc nL own ret g z0) {a b : Int} (hd : decode cc pc = .ok (.ishl, 1)) (kk : qS p l e R s m args below meth c nL g z0 w k n Q F σ (pc + 1) lo (.int (qI (qshl a b)) :: rest)) : qS p l e R s m args below meth c nL g z0 w k n Q F σ pc lo (.int (qI b) :: .int (qI a) :: rest) :=
  fun y hy H locs ls hH hS hV => lv_ishl cx.1 cx.2.1 hd (by have h := kk y hy H locs ls hH hS hV; unfold qshl at h; rw [qI_toInt] at h; exact h)
theorem r_ishr (cx : qCx p s m meth c cc nL own ret g z0) {a b : Int} (hd : decode cc pc = .ok (.ishr, 1)) (kk : qS p l e R s m args below meth c nL g z0 w k n Q F σ (pc + 1) lo (.int (qI (qshr a b)) :: rest)) : qS p l e R s m args below meth c nL g z0 w k n Q F σ pc lo (.int (qI b) :: .int (qI a) :: rest) :=
  fun y hy H locs ls hH hS hV => lv_ishr cx.1 cx.2.1 hd (by have h := kk y hy H locs ls hH hS hV; unfold qshr at h; rw [qI_toInt] at h; exact h)
theorem r_iushr (cx : qCx p s m meth c cc nL own ret g z0) {a b : Int} (hd : decode cc pc = .ok (.iushr, 1)) (kk : qS p l e R s m args below meth c nL g z0 w k n Q F σ (pc + 1) lo (.int (qI (qushr a b)) :: rest)) : qS p l e R s m args below meth c nL g z0 w k n Q F σ pc lo (.int (qI b) :: .int (qI a) :: rest) :=
  fun y hy H locs ls hH hS hV => lv_iushr cx.1 cx.2.1 hd rfl (by have h := kk y hy H locs ls hH hS hV; unfold qushr at h; rw [qI_toInt] at h; exact h)
theorem r_idiv (cx : qCx p s m meth c cc nL own ret g z0) {a b : Int} (hd : decode cc pc = .ok (.idiv, 1)) (hz : ¬ qI b = 0) (kk : qS p l e R s m args below meth c nL g z0 w k n Q F σ (pc + 1) lo (.int (qI (qdiv a b)) :: rest)) : qS p l e R s m args below meth c nL g z0 w k n Q F σ pc lo (.int (qI b) :: .int (qI a) :: rest) :=
  fun y hy H locs ls hH hS hV => lv_idiv cx.1 cx.2.1 hd hz (by have h := kk y hy H locs ls hH hS hV; unfold qdiv at h; rw [qI_toInt] at h; exact h)
theorem r_irem (cx : qCx p s m meth c cc nL own ret g z0) {a b : Int} (hd : decode cc pc = .ok (.irem, 1)) (hz : ¬ qI b = 0) (kk : qS p l e R s m args below meth c nL g z0 w k n Q F σ (pc + 1) lo (.int (qI (qrem a b)) :: rest)) : qS p l e R s m args below meth c nL g z0 w k n Q F σ pc lo (.int (qI b) :: .int (qI a) :: rest) :=
  fun y hy H locs ls hH hS hV => lv_irem cx.1 cx.2.1 hd hz (by have h := kk y hy H locs ls hH hS hV; unfold qrem at h; rw [qI_toInt] at h; exact h)
theorem r_ineg (cx : qCx p s m meth c cc nL own ret g z0) {a : Int} (hd : decode cc pc = .ok (.ineg, 1)) (kk : qS p l e R s m args below meth c nL g z0 w k n Q F σ (pc + 1) lo (.int (qI (-a)) :: rest)) : qS p l e R s m args below meth c nL g z0 w k n Q F σ pc lo (.int (qI a) :: rest) :=
  fun y hy H locs ls hH hS hV => lv_ineg cx.1 cx.2.1 hd (by have h := kk y hy H locs ls hH hS hV; rw [qI_neg]; exact h)
theorem r_ladd (cx : qCx p s m meth c cc nL own ret g z0) {a b : Int} (hd : decode cc pc = .ok (.ladd, 1)) (kk : qS p l e R s m args below meth c nL g z0 w k n Q F σ (pc + 1) lo (.long (qJ (a + b)) :: rest)) : qS p l e R s m args below meth c nL g z0 w k n Q F σ pc lo (.long (qJ b) :: .long (qJ a) :: rest) :=
  fun y hy H locs ls hH hS hV => lv_ladd cx.1 cx.2.1 hd (by have h := kk y hy H locs ls hH hS hV; rw [qJ_add]; exact h)
theorem r_lsub (cx : qCx p s m meth c cc nL own ret g z0) {a b : Int} (hd : decode cc pc = .ok (.lsub, 1)) (kk : qS p l e R s m args below meth c nL g z0 w k n Q F σ (pc + 1) lo (.long (qJ (a - b)) :: rest)) : qS p l e R s m args below meth c nL g z0 w k n Q F σ pc lo (.long (qJ b) :: .long (qJ a) :: rest) :=
  fun y hy H locs ls hH hS hV => lv_lsub cx.1 cx.2.1 hd (by have h := kk y hy H locs ls hH hS hV; rw [qJ_sub]; exact h)
theorem r_lmul (cx : qCx p s m meth c cc nL own ret g z0) {a b : Int} (hd : decode cc pc = .ok (.lmul, 1)) (kk : qS p l e R s m args below meth c nL g z0 w k n Q F σ (pc + 1) lo (.long (qJ (a * b)) :: rest)) : qS p l e R s m args below meth c nL g z0 w k n Q F σ pc lo (.long (qJ b) :: .long (qJ a) :: rest) :=
  fun y hy H locs ls hH hS hV => lv_lmul cx.1 cx.2.1 hd (by have h := kk y hy H locs ls hH hS hV; rw [qJ_mul]; exact h)
theorem r_lxor (cx : qCx p s m meth c cc nL own ret g z0) {a b : Int} (hd : decode cc pc = .ok (.lxor, 1)) (kk : qS p l e R s m args below meth c nL g z0 w k n Q F σ (pc + 1) lo (.long (qJ (qlxor a b)) :: rest)) : qS p l e R s m args below meth c nL g z0 w k n Q F σ pc lo (.long (qJ b) :: .long (qJ a) :: rest) :=
  fun y hy H locs ls hH hS hV => lv_lxor cx.1 cx.2.1 hd (by have h := kk y hy H locs ls hH hS hV; unfold qlxor at h; rw [qJ_toInt] at h; exact h)
theorem r_ldiv (cx : qCx p s m meth c cc nL own ret g z0) {a b : Int} (hd : decode cc pc = .ok (.ldiv, 1)) (hz : ¬ qJ b = 0) (kk : qS p l e R s m args below meth c nL g z0 w k n Q F σ (pc + 1) lo (.long (qJ (qldiv a b)) :: rest)) : qS p l e R s m args below meth c nL g z0 w k n Q F σ pc lo (.long (qJ b) :: .long (qJ a) :: rest) :=
  fun y hy H locs ls hH hS hV => lv_ldiv cx.1 cx.2.1 hd hz (by have h := kk y hy H locs ls hH hS hV; unfold qldiv at h; rw [qJ_toInt] at h; exact h)
theorem r_lrem (cx : qCx p s m meth c cc nL own ret g z0) {a b : Int} (hd : decode cc pc = .ok (.lrem, 1)) (hz : ¬ qJ b = 0) (kk : qS p l e R s m args below meth c nL g z0 w k n Q F σ (pc + 1) lo (.long (qJ (qlrem a b)) :: rest)) : qS p l e R s m args below meth c nL g z0 w k n Q F σ pc lo (.long (qJ b) :: .long (qJ a) :: rest) :=
  fun y hy H locs ls hH hS hV => lv_lrem cx.1 cx.2.1 hd hz (by have h := kk y hy H locs ls hH hS hV; unfold qlrem at h; rw [qJ_toInt] at h; exact h)
theorem r_lneg (cx : qCx p s m meth c cc nL own ret g z0) {a : Int} (hd : decode cc pc = .ok (.lneg, 1)) (kk : qS p l e R s m args below meth c nL g z0 w k n Q F σ (pc + 1) lo (.long (qJ (-a)) :: rest)) : qS p l e R s m args below meth c nL g z0 w k n Q F σ pc lo (.long (qJ a) :: rest) :=
  fun y hy H locs ls hH hS hV => lv_lneg cx.1 cx.2.1 hd (by have h := kk y hy H locs ls hH hS hV; rw [qJ_neg]; exact h)
theorem r_i2l (cx : qCx p s m meth c cc nL own ret g z0) {a : Int} (hd : decode cc pc = .ok (.i2l, 1)) (kk : qS p l e R s m args below meth c nL g z0 w k n Q F σ (pc + 1) lo (.long (qJ (qi2l a)) :: rest)) : qS p l e R s m args below meth c nL g z0 w k n Q F σ pc lo (.int (qI a) :: rest) :=
  fun y hy H locs ls hH hS hV => lv_i2l cx.1 cx.2.1 hd rfl (by have h := kk y hy H locs ls hH hS hV; unfold qi2l at h; rw [qJ_toInt] at h; exact h)
theorem r_i2b (cx : qCx p s m meth c cc nL own ret g z0) {a : Int} (hd : decode cc pc = .ok (.i2b, 1)) (kk : qS p l e R s m args below meth c nL g z0 w k n Q F σ (pc + 1) lo (.int (qI (qi2b a)) :: rest)) : qS p l e R s m args below meth c nL g z0 w k n Q F σ pc lo (.int (qI a) :: rest) :=
  fun y hy H locs ls hH hS hV => lv_i2b cx.1 cx.2.1 hd rfl (by have h := kk y hy H locs ls hH hS hV; unfold qi2b at h; rw [qI_toInt] at h; exact h)
theorem r_lcmp (cx : qCx p s m meth c cc nL own ret g z0) {a b : Int} (hd : decode cc pc = .ok (.lcmp, 1)) (kk : qS p l e R s m args below meth c nL g z0 w k n Q F σ (pc + 1) lo (.int (qI (qlcmp a b)) :: rest)) : qS p l e R s m args below meth c nL g z0 w k n Q F σ pc lo (.long (qJ b) :: .long (qJ a) :: rest) :=
  fun y hy H locs ls hH hS hV => W.lcmp cx.1 cx.2.1 hd (by have h := kk y hy H locs ls hH hS hV; unfold qlcmp at h; rw [qI_toInt] at h; exact h)
theorem r_dup (cx : qCx p s m meth c cc nL own ret g z0) {v : Value} (hd : decode cc pc = .ok (.dup, 1)) (hv : v.category = 1) (kk : qS p l e R s m args below meth c nL g z0 w k n Q F σ (pc + 1) lo (v :: v :: rest)) : qS p l e R s m args below meth c nL g z0 w k n Q F σ pc lo (v :: rest) :=
  fun y hy H locs ls hH hS hV => lv_dup cx.1 cx.2.1 hd hv (kk y hy H locs ls hH hS hV)
theorem r_dup_x1 (cx : qCx p s m meth c cc nL own ret g z0) {v u : Value} (hd : decode cc pc = .ok (.dup_x1, 1)) (hv : v.category = 1) (hu : u.category = 1) (kk : qS p l e R s m args below meth c nL g z0 w k n Q F σ (pc + 1) lo (v :: u :: v :: rest)) : qS p l e R s m args below meth c nL g z0 w k n Q F σ pc lo (v :: u :: rest) :=
  fun y hy H locs ls hH hS hV => lv_dup_x1 cx.1 cx.2.1 hd hv hu (kk y hy H locs ls hH hS hV)
theorem r_dup2 (cx : qCx p s m meth c cc nL own ret g z0) {v u : Value} (hd : decode cc pc = .ok (.dup2, 1)) (hv : v.category = 1) (hu : u.category = 1) (kk : qS p l e R s m args below meth c nL g z0 w k n Q F σ (pc + 1) lo (v :: u :: v :: u :: rest)) : qS p l e R s m args below meth c nL g z0 w k n Q F σ pc lo (v :: u :: rest) :=
  fun y hy H locs ls hH hS hV => lv_dup2_11 cx.1 cx.2.1 hd hv hu (kk y hy H locs ls hH hS hV)
theorem r_pop (cx : qCx p s m meth c cc nL own ret g z0) {v : Value} (hd : decode cc pc = .ok (.pop, 1)) (hv : v.category = 1) (kk : qS p l e R s m args below meth c nL g z0 w k n Q F σ (pc + 1) lo rest) : qS p l e R s m args below meth c nL g z0 w k n Q F σ pc lo (v :: rest) :=
  fun y hy H locs ls hH hS hV => lv_pop cx.1 cx.2.1 hd hv (kk y hy H locs ls hH hS hV)
theorem r_if_eq (cx : qCx p s m meth c cc nL own ret g z0) {a : Int} {off : Int} {tgt : Nat} (hd : decode cc pc = .ok (.ifCond .eq off, 3)) (ht : (pc : Int) + off = (tgt : Int)) (kt : qS p l e R s m args below meth c nL g z0 w k n Q F1 σ tgt lo rest) (kf : qS p l e R s m args below meth c nL g z0 w k n Q F2 σ (pc + 3) lo rest) : qS p l e R s m args below meth c nL g z0 w k n Q (if qI a = 0 then F1 else F2) σ pc lo (.int (qI a) :: rest) :=
  fun y hy H locs ls hH hS hV => lv_if_eq cx.1 cx.2.1 hd ht (fun h => kt y (by rw [if_pos h] at hy; exact hy) H locs ls hH hS hV) (fun h => kf y (by rw [if_neg h] at hy; exact hy) H locs ls hH hS hV)
theorem r_icmp_eq (cx : qCx p s m meth c cc nL own ret g z0) {a b : Int} {off : Int} {tgt : Nat} (hd : decode cc pc = .ok (.if_icmp .eq off, 3)) (ht : (pc : Int) + off = (tgt : Int)) (kt : qS p l e R s m args below meth c nL g z0 w k n Q F1 σ tgt lo rest) (kf : qS p l e R s m args below meth c nL g z0 w k n Q F2 σ (pc + 3) lo rest) : qS p l e R s m args below meth c nL g z0 w k n Q (if qI a = qI b then F1 else F2) σ pc lo (.int (qI b) :: .int (qI a) :: rest) :=
  fun y hy H locs ls hH hS hV => lv_icmp_eq cx.1 cx.2.1 hd ht (fun h => kt y (by rw [if_pos h] at hy; exact hy) H locs ls hH hS hV) (fun h => kf y (by rw [if_neg h] at hy; exact hy) H locs ls hH hS hV)
theorem r_if_ne (cx : qCx p s m meth c cc nL own ret g z0) {a : Int} {off : Int} {tgt : Nat} (hd : decode cc pc = .ok (.ifCond .ne off, 3)) (ht : (pc : Int) + off = (tgt : Int)) (kt : qS p l e R s m args below meth c nL g z0 w k n Q F1 σ tgt lo rest) (kf : qS p l e R s m args below meth c nL g z0 w k n Q F2 σ (pc + 3) lo rest) : qS p l e R s m args below meth c nL g z0 w k n Q (if qI a = 0 then F2 else F1) σ pc lo (.int (qI a) :: rest) :=
  fun y hy H locs ls hH hS hV => lv_if_ne cx.1 cx.2.1 hd ht (fun h => kt y (by rw [if_neg h] at hy; exact hy) H locs ls hH hS hV) (fun h => kf y (by rw [if_pos h] at hy; exact hy) H locs ls hH hS hV)
theorem r_icmp_ne (cx : qCx p s m meth c cc nL own ret g z0) {a b : Int} {off : Int} {tgt : Nat} (hd : decode cc pc = .ok (.if_icmp .ne off, 3)) (ht : (pc : Int) + off = (tgt : Int)) (kt : qS p l e R s m args below meth c nL g z0 w k n Q F1 σ tgt lo rest) (kf : qS p l e R s m args below meth c nL g z0 w k n Q F2 σ (pc + 3) lo rest) : qS p l e R s m args below meth c nL g z0 w k n Q (if qI a = qI b then F2 else F1) σ pc lo (.int (qI b) :: .int (qI a) :: rest) :=
  fun y hy H locs ls hH hS hV => lv_icmp_ne cx.1 cx.2.1 hd ht (fun h => kt y (by rw [if_neg h] at hy; exact hy) H locs ls hH hS hV) (fun h => kf y (by rw [if_pos h] at hy; exact hy) H locs ls hH hS hV)
theorem r_if_lt (cx : qCx p s m meth c cc nL own ret g z0) {a : Int} {off : Int} {tgt : Nat} (hd : decode cc pc = .ok (.ifCond .lt off, 3)) (ht : (pc : Int) + off = (tgt : Int)) (kt : qS p l e R s m args below meth c nL g z0 w k n Q F1 σ tgt lo rest) (kf : qS p l e R s m args below meth c nL g z0 w k n Q F2 σ (pc + 3) lo rest) : qS p l e R s m args below meth c nL g z0 w k n Q (if qI a < 0 then F1 else F2) σ pc lo (.int (qI a) :: rest) :=
  fun y hy H locs ls hH hS hV => lv_if_lt cx.1 cx.2.1 hd ht (fun h => kt y (by rw [if_pos h] at hy; exact hy) H locs ls hH hS hV) (fun h => kf y (by rw [if_neg h] at hy; exact hy) H locs ls hH hS hV)
theorem r_icmp_lt (cx : qCx p s m meth c cc nL own ret g z0) {a b : Int} {off : Int} {tgt : Nat} (hd : decode cc pc = .ok (.if_icmp .lt off, 3)) (ht : (pc : Int) + off = (tgt : Int)) (kt : qS p l e R s m args below meth c nL g z0 w k n Q F1 σ tgt lo rest) (kf : qS p l e R s m args below meth c nL g z0 w k n Q F2 σ (pc + 3) lo rest) : qS p l e R s m args below meth c nL g z0 w k n Q (if qI a < qI b then F1 else F2) σ pc lo (.int (qI b) :: .int (qI a) :: rest) :=
  fun y hy H locs ls hH hS hV => lv_icmp_lt cx.1 cx.2.1 hd ht (fun h => kt y (by rw [if_pos h] at hy; exact hy) H locs ls hH hS hV) (fun h => kf y (by rw [if_neg h] at hy; exact hy) H locs ls hH hS hV)
theorem r_if_ge (cx : qCx p s m meth c cc nL own ret g z0) {a : Int} {off : Int} {tgt : Nat} (hd : decode cc pc = .ok (.ifCond .ge off, 3)) (ht : (pc : Int) + off = (tgt : Int)) (kt : qS p l e R s m args below meth c nL g z0 w k n Q F1 σ tgt lo rest) (kf : qS p l e R s m args below meth c nL g z0 w k n Q F2 σ (pc + 3) lo rest) : qS p l e R s m args below meth c nL g z0 w k n Q (if 0 ≤ qI a then F1 else F2) σ pc lo (.int (qI a) :: rest) :=
  fun y hy H locs ls hH hS hV => lv_if_ge cx.1 cx.2.1 hd ht (fun h => kt y (by rw [if_pos h] at hy; exact hy) H locs ls hH hS hV) (fun h => kf y (by rw [if_neg h] at hy; exact hy) H locs ls hH hS hV)
theorem r_icmp_ge (cx : qCx p s m meth c cc nL own ret g z0) {a b : Int} {off : Int} {tgt : Nat} (hd : decode cc pc = .ok (.if_icmp .ge off, 3)) (ht : (pc : Int) + off = (tgt : Int)) (kt : qS p l e R s m args below meth c nL g z0 w k n Q F1 σ tgt lo rest) (kf : qS p l e R s m args below meth c nL g z0 w k n Q F2 σ (pc + 3) lo rest) : qS p l e R s m args below meth c nL g z0 w k n Q (if qI b ≤ qI a then F1 else F2) σ pc lo (.int (qI b) :: .int (qI a) :: rest) :=
  fun y hy H locs ls hH hS hV => lv_icmp_ge cx.1 cx.2.1 hd ht (fun h => kt y (by rw [if_pos h] at hy; exact hy) H locs ls hH hS hV) (fun h => kf y (by rw [if_neg h] at hy; exact hy) H locs ls hH hS hV)
theorem r_if_gt (cx : qCx p s m meth c cc nL own ret g z0) {a : Int} {off : Int} {tgt : Nat} (hd : decode cc pc = .ok (.ifCond .gt off, 3)) (ht : (pc : Int) + off = (tgt : Int)) (kt : qS p l e R s m args below meth c nL g z0 w k n Q F1 σ tgt lo rest) (kf : qS p l e R s m args below meth c nL g z0 w k n Q F2 σ (pc + 3) lo rest) : qS p l e R s m args below meth c nL g z0 w k n Q (if 0 < qI a then F1 else F2) σ pc lo (.int (qI a) :: rest) :=
  fun y hy H locs ls hH hS hV => lv_if_gt cx.1 cx.2.1 hd ht (fun h => kt y (by rw [if_pos h] at hy; exact hy) H locs ls hH hS hV) (fun h => kf y (by rw [if_neg h] at hy; exact hy) H locs ls hH hS hV)
theorem r_icmp_gt (cx : qCx p s m meth c cc nL own ret g z0) {a b : Int} {off : Int} {tgt : Nat} (hd : decode cc pc = .ok (.if_icmp .gt off, 3)) (ht : (pc : Int) + off = (tgt : Int)) (kt : qS p l e R s m args below meth c nL g z0 w k n Q F1 σ tgt lo rest) (kf : qS p l e R s m args below meth c nL g z0 w k n Q F2 σ (pc + 3) lo rest) : qS p l e R s m args below meth c nL g z0 w k n Q (if qI b < qI a then F1 else F2) σ pc lo (.int (qI b) :: .int (qI a) :: rest) :=
  fun y hy H locs ls hH hS hV => lv_icmp_gt cx.1 cx.2.1 hd ht (fun h => kt y (by rw [if_pos h] at hy; exact hy) H locs ls hH hS hV) (fun h => kf y (by rw [if_neg h] at hy; exact hy) H locs ls hH hS hV)
theorem r_if_le (cx : qCx p s m meth c cc nL own ret g z0) {a : Int} {off : Int} {tgt : Nat} (hd : decode cc pc = .ok (.ifCond .le off, 3)) (ht : (pc : Int) + off = (tgt : Int)) (kt : qS p l e R s m args below meth c nL g z0 w k n Q F1 σ tgt lo rest) (kf : qS p l e R s m args below meth c nL g z0 w k n Q F2 σ (pc + 3) lo rest) : qS p l e R s m args below meth c nL g z0 w k n Q (if qI a ≤ 0 then F1 else F2) σ pc lo (.int (qI a) :: rest) :=
  fun y hy H locs ls hH hS hV => lv_if_le cx.1 cx.2.1 hd ht (fun h => kt y (by rw [if_pos h] at hy; exact hy) H locs ls hH hS hV) (fun h => kf y (by rw [if_neg h] at hy; exact hy) H locs ls hH hS hV)
theorem r_icmp_le (cx : qCx p s m meth c cc nL own ret g z0) {a b : Int} {off : Int} {tgt : Nat} (hd : decode cc pc = .ok (.if_icmp .le off, 3)) (ht : (pc : Int) + off = (tgt : Int)) (kt : qS p l e R s m args below meth c nL g z0 w k n Q F1 σ tgt lo rest) (kf : qS p l e R s m args below meth c nL g z0 w k n Q F2 σ (pc + 3) lo rest) : qS p l e R s m args below meth c nL g z0 w k n Q (if qI a ≤ qI b then F1 else F2) σ pc lo (.int (qI b) :: .int (qI a) :: rest) :=
  fun y hy H locs ls hH hS hV => lv_icmp_le cx.1 cx.2.1 hd ht (fun h => kt y (by rw [if_pos h] at hy; exact hy) H locs ls hH hS hV) (fun h => kf y (by rw [if_neg h] at hy; exact hy) H locs ls hH hS hV)
theorem r_goto (cx : qCx p s m meth c cc nL own ret g z0) {off : Int} {tgt : Nat} (hd : decode cc pc = .ok (.goto off, 3)) (ht : (pc : Int) + off = (tgt : Int)) (kk : qS p l e R s m args below meth c nL g z0 w k n Q F σ tgt lo st) : qS p l e R s m args below meth c nL g z0 w k n Q F σ pc lo st :=
  fun y hy H locs ls hH hS hV => lv_goto cx.1 cx.2.1 hd ht (kk y hy H locs ls hH hS hV)
theorem r_tsw (cx : qCx p s m meth c cc nL own ret g z0) {a : Int} {dflt lo0 hi0 : Int} {offs : Array Int} {len : Nat} {off : Int} {tgt : Nat} {j : Nat} (h : qI a = qI (lo0 + j)) (hd : decode cc pc = .ok (.tableswitch dflt lo0 hi0 offs, len)) (h1 : (qI (lo0 + j)).toInt = lo0 + j) (h2 : ¬ hi0 < lo0 + j) (ho : offs[j]? = some off) (ht : (pc : Int) + off = (tgt : Int)) (kk : qS p l e R s m args below meth c nL g z0 w k n Q F σ tgt lo rest) : qS p l e R s m args below meth c nL g z0 w k n Q F σ pc lo (.int (qI a) :: rest) :=
  fun y hy H locs ls hH hS hV => by
  rw [h]
  refine lv_tableIn cx.1 cx.2.1 hd (by rw [h1]; omega) (by rw [h1]; exact h2) ?_ ht (kk y hy H locs ls hH hS hV)
  rw [h1, show (lo0 + (j : Int) - lo0).toNat = j by omega]
  exact ho
theorem r_tswd (cx : qCx p s m meth c cc nL own ret g z0) {a : Int} {dflt lo0 hi0 : Int} {offs : Array Int} {len : Nat} {tgt : Nat} (hd : decode cc pc = .ok (.tableswitch dflt lo0 hi0 offs, len)) (h : (qI a).toInt < lo0 ∨ hi0 < (qI a).toInt) (ht : (pc : Int) + dflt = (tgt : Int)) (kk : qS p l e R s m args below meth c nL g z0 w k n Q F σ tgt lo rest) : qS p l e R s m args below meth c nL g z0 w k n Q F σ pc lo (.int (qI a) :: rest) :=
  fun y hy H locs ls hH hS hV => lv_tableOut cx.1 cx.2.1 hd h ht (kk y hy H locs ls hH hS hV)
theorem r_lsw (cx : qCx p s m meth c cc nL own ret g z0) {a : Int} {dflt off : Int} {ps : Array (Int × Int)} {len tgt : Nat} (hd : decode cc pc = .ok (.lookupswitch dflt ps, len)) (hp : (ps.toList.zip (ps.toList.drop 1)).all (fun (a, next) => a.1 < next.1) = true) (ho : Op.lookupswitch.offset ps.toList dflt (qI a).toInt = off) (ht : (pc : Int) + off = (tgt : Int)) (kk : qS p l e R s m args below meth c nL g z0 w k n Q F σ tgt lo rest) : qS p l e R s m args below meth c nL g z0 w k n Q F σ pc lo (.int (qI a) :: rest) :=
  fun y hy H locs ls hH hS hV => lv_lookup cx.1 cx.2.1 hd hp ho ht (kk y hy H locs ls hH hS hV)
end ROWS
