section FROWS
variable {Y : Type} {p : Program} {l : Launch} {e : Env} {R : Room} {s : State} {m : MethodId} {args : Array Value} {below : List Frame} {meth : Method} {c : Code}
variable {cc : ByteArray} {nL : Nat} {own : String} {ret : Option FieldType} {g : qG} {z0 : Nat} {w : qWd} {k n : Nat} {Q : Y → State → Prop} {F : Option Y} {σ : qSt} {pc : Nat} {lo : qLo} {st rest : List Value} {mc ms : Nat}
theorem r_fconst0 (cx : qCx p s m meth c cc nL own ret g z0) (hd : decode cc pc = .ok (.fconst 0, 1)) (kk : qS p l e R s m args below meth c nL g z0 w k n Q F σ (pc + 1) lo (.float FP.fconst0 :: rest)) : qS p l e R s m args below meth c nL g z0 w k n Q F σ pc lo rest :=
  fun y hy H locs ls hH hS hV => lv_fconst0 cx.1 cx.2.1 hd (kk y hy H locs ls hH hS hV)
theorem r_i2f (cx : qCx p s m meth c cc nL own ret g z0) {a : Int} (hd : decode cc pc = .ok (.i2f, 1)) (kk : qS p l e R s m args below meth c nL g z0 w k n Q F σ (pc + 1) lo (.float (FP.i2f (qI a)) :: rest)) : qS p l e R s m args below meth c nL g z0 w k n Q F σ pc lo (.int (qI a) :: rest) :=
  fun y hy H locs ls hH hS hV => lv_i2f cx.1 cx.2.1 hd (kk y hy H locs ls hH hS hV)
theorem r_l2f (cx : qCx p s m meth c cc nL own ret g z0) {a : Int} (hd : decode cc pc = .ok (.l2f, 1)) (kk : qS p l e R s m args below meth c nL g z0 w k n Q F σ (pc + 1) lo (.float (FP.l2f (qJ a)) :: rest)) : qS p l e R s m args below meth c nL g z0 w k n Q F σ pc lo (.long (qJ a) :: rest) :=
  fun y hy H locs ls hH hS hV => lv_l2f cx.1 cx.2.1 hd (kk y hy H locs ls hH hS hV)
theorem r_fdiv (cx : qCx p s m meth c cc nL own ret g z0) {a b : UInt32} (hd : decode cc pc = .ok (.fdiv, 1)) (kk : qS p l e R s m args below meth c nL g z0 w k n Q F σ (pc + 1) lo (.float (FP.fdiv a b) :: rest)) : qS p l e R s m args below meth c nL g z0 w k n Q (if FP.fdiv a b &&& 0x7fffffff ≤ 0x7f800000 then F else none) σ pc lo (.float b :: .float a :: rest) := by
  intro y hy H locs ls hH hS hV
  obtain ⟨h, hy⟩ := if_get hy
  exact lv_fdiv cx.1 cx.2.1 hd h (kk y hy H locs ls hH hS hV)
theorem r_fmul (cx : qCx p s m meth c cc nL own ret g z0) {a b : UInt32} (hd : decode cc pc = .ok (.fmul, 1)) (kk : qS p l e R s m args below meth c nL g z0 w k n Q F σ (pc + 1) lo (.float (FP.fmul a b) :: rest)) : qS p l e R s m args below meth c nL g z0 w k n Q (if FP.fmul a b &&& 0x7fffffff ≤ 0x7f800000 then F else none) σ pc lo (.float b :: .float a :: rest) := by
  intro y hy H locs ls hH hS hV
  obtain ⟨h, hy⟩ := if_get hy
  exact lv_fmul cx.1 cx.2.1 hd h (kk y hy H locs ls hH hS hV)
theorem r_freturn {x : UInt32} {w0 : qWd} {y : Y} (hw : ∀ j x, w0 j = some x → w j = some x) (hk : k ≤ mc) (hn : n ≤ ms) (cx : qCx p s m meth c cc nL own (some .float) g z0) (hd : decode cc pc = .ok (.freturn, 1)) (hQ : Q y = qQ below g z0 w0 qrf args s mc ms ((x.toNat : Int), σ)) : qS p l e R s m args below meth c nL g z0 w k n Q (some y) σ pc lo [.float x] := by
  intro u hu H locs ls hH hS hV
  cases hu
  rw [hQ]
  refine W.widen hk hn ?_
  exact W.fret cx.1 cx.2.1 cx.2.2.2.2.2.1 (fun t ht hW => ⟨⟨by unfold qrf; rw [Int.toNat_natCast, UInt32.ofNat_toNat], by rw [ht]; exact hH.sub hw⟩, hS.F ht⟩) hS.2.2 hd cx.2.2.2.2.2.2
theorem r_fcmp (cx : qCx p s m meth c cc nL own ret g z0) {a b : UInt32} {op : CmpOp} (hd : decode cc pc = .ok (.fcmp op, 1)) (kk : qS p l e R s m args below meth c nL g z0 w k n Q F σ (pc + 1) lo (.int (qI (Op.cmpValue (FP.fcmp a b) op).toInt) :: rest)) : qS p l e R s m args below meth c nL g z0 w k n Q F σ pc lo (.float b :: .float a :: rest) :=
  fun y hy H locs ls hH hS hV => lv_fcmp cx.1 cx.2.1 hd (by have h := kk y hy H locs ls hH hS hV; rw [qI_toInt] at h; exact h)
theorem r_dcmp (cx : qCx p s m meth c cc nL own ret g z0) {a b : UInt64} {op : CmpOp} (hd : decode cc pc = .ok (.dcmp op, 1)) (kk : qS p l e R s m args below meth c nL g z0 w k n Q F σ (pc + 1) lo (.int (qI (Op.cmpValue (FP.dcmp a b) op).toInt) :: rest)) : qS p l e R s m args below meth c nL g z0 w k n Q F σ pc lo (.double b :: .double a :: rest) :=
  fun y hy H locs ls hH hS hV => lv_dcmp cx.1 cx.2.1 hd (by have h := kk y hy H locs ls hH hS hV; rw [qI_toInt] at h; exact h)
theorem r_f2d (cx : qCx p s m meth c cc nL own ret g z0) {a : UInt32} (hd : decode cc pc = .ok (.f2d, 1)) (kk : qS p l e R s m args below meth c nL g z0 w k n Q F σ (pc + 1) lo (.double (FP.f2d a) :: rest)) : qS p l e R s m args below meth c nL g z0 w k n Q (if FP.f2d a &&& 0x7fffffffffffffff ≤ 0x7ff0000000000000 then F else none) σ pc lo (.float a :: rest) := by
  intro y hy H locs ls hH hS hV
  obtain ⟨h, hy⟩ := if_get hy
  exact lv_f2d cx.1 cx.2.1 hd h (kk y hy H locs ls hH hS hV)
end FROWS
