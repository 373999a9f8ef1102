/-! ===== methods with handlers; calls of methods that throw ===== -/
def qCTH (l : Launch) (y : MethodName) (cc : ByteArray) (nL : Nat) (ret : Option FieldType) (hh : List (Nat × Nat × Nat × Nat)) (rm : Room) (g : qG) (z0 : Nat) (w : qWd) (av : List Value) (σ : qSt) (F : Option (Int × qSt)) (rk : Int → Option Value) : Prop :=
  ∀ u, F = some u → Met l y [.codeWith y cc nL ret hh] rm (va_Pc av (qPc g z0 w σ)) (qQc g z0 w rk u) rm.cells rm.slots (qA z0)
theorem qCTH.of {l : Launch} {y : MethodName} {cc : ByteArray} {nL : Nat} {ret : Option FieldType} {hh : List (Nat × Nat × Nat × Nat)} {rm : Room} {g : qG} {z0 : Nat} {w : qWd} {av : List Value} {σ : qSt} {F : Option (Int × qSt)} {rk : Int → Option Value} (lo : qLo) (hy : plainName y.cls = true) (hn : (lg_sl av).length ≤ nL) (hlo : qlist (lv_args 0 av) = lo)
    (body : ∀ p e s m args below meth c, qCx p s m meth c cc nL y.cls ret g z0 → c.exceptionTable.toList = tableOf hh → qS p l e rm s m args below meth c nL g z0 w 0 0 (qQ below g z0 w rk args s rm.cells rm.slots) F σ 0 lo []) : qCTH l y cc nL ret hh rm g z0 w av σ F rk := by
  intro u hu
  refine MetFree.of_bodyS (code := cc) (maxLocals := nL) (ret := ret) hy ?_ ?_
  · intro args s m h hn
    obtain ⟨m9, meth, c, hn9, h1, h2, h3, h4, -, h5, h6, -⟩ := Cond.codeWith_spec (atoms_spec (ws := [Cond.codeWith y cc nL ret hh]) h _ List.mem_cons_self)
    cases hn.symm.trans hn9
    exact ⟨meth, c, h1, h2, h3, h4, h5, h6⟩
  · intro p e s m args below meth c s₁ B hml0 hP _
    obtain ⟨rfl, hR, hK⟩ := hP
    have hcw : (Cond.codeWith y cc nL ret hh).before av.toArray s = true := atoms_spec (ws := [Cond.codeWith y cc nL ret hh]) B.pre _ List.mem_cons_self
    have htab : c.exceptionTable.toList = tableOf hh := vx_table (x := y) B hcw
    have hml : c.maxLocals = nL := hml0
    have hh0 : s₁.heap = s.heap := by rw [B.state]; rfl
    subst hlo
    have h1 := body p e s m av.toArray below meth c ⟨B.exec, B.bytes, hml, findClass_of_methodNamed B.named, hK, B.returns, B.notSynchronized⟩ htab u hu s.heap [] _ hR va_S.rf (qV.entry av hn)
    rw [← lg_entry_eq m av nL] at h1
    obtain ⟨t, a1, o, b1, b2, b3⟩ := h1 s₁ hh0 (Stand.of_body B)
    exact ⟨t, o, a1, b1, b2, ⟨b3.1, b3.2⟩⟩
def qbx {Y : Type} (X : Option (Int × Int × qSt)) (f : Int → Int → qSt → Option Y) : Option Y := X.bind (fun u => f u.1 u.2.1 u.2.2)
def qMH (y : MethodName) (cc : ByteArray) (nL : Nat) (ret : Option FieldType) (hh : List (Nat × Nat × Nat × Nat)) (np : Nat) : Prop := Cond.codeWith y cc nL ret hh ∈ lw_tbl ∧ Cond.initialized y.cls ∈ lw_tbl ∧ (y.cls ≠ "java/lang/invoke/MethodHandle" ∧ y.cls ≠ "java/lang/invoke/VarHandle") ∧ (parseMethodDescriptor y.desc).map (fun d => d.parameters.length) = some np ∧ Cond.static y ∈ lw_tbl
def qCatch (own : String) (tbl : List ExceptionTableEntry) (s : State) (E : String) (pc hpc : Nat) : Prop :=
  ∃ (pre : List ExceptionTableEntry) (x : ExceptionTableEntry) (suf : List ExceptionTableEntry) (name : String), tbl = pre ++ x :: suf ∧ (∀ z, z ∈ pre → covers z pc = false ∨ (z.catchType ≠ 0 ∧ ∃ nm : String, Cond.classLink own z.catchType nm ∈ lw_tbl ∧ va_Nc E nm s)) ∧ covers x pc = true ∧ x.catchType ≠ 0 ∧ Cond.classLink own x.catchType name ∈ lw_tbl ∧ Cond.castable E name ∈ lw_tbl ∧ x.handlerPc = hpc
section KROWS
variable {Y : Type} {p : Program} {l : Launch} {e : Env} {R : Room} {s : State} {m : MethodId} {args : Array Value} {below : List Frame} {meth : Method} {c : Code}
variable {cc : ByteArray} {nL : Nat} {own : String} {ret : Option FieldType} {g : qG} {z0 : Nat} {w : qWd} {k n : Nat} {Q : Y → State → Prop} {F : Option Y} {σ : qSt} {pc : Nat} {lo : qLo} {st rest : List Value} {mc ms : Nat}
theorem r_callSW {ix np nL' : Nat} {y : MethodName} {cc' : ByteArray} {ret' : Option FieldType} {hh : List (Nat × Nat × Nat × Nat)} {rm : Room} {F' : Option (Int × qSt)} {As : List Value} {f : Int → qSt → Option Y} (cx : qCx p s m meth c cc nL own ret g z0) (hM : qCTH l y cc' nL' ret' hh rm g z0 w As σ F' qri) (hy : qMH y cc' nL' ret' hh np) (hlink : Cond.methodLink own ix y ∈ lw_tbl) (hd : decode cc pc = .ok (.invokestatic ix, 3)) (hst : st = As.reverse ++ rest) (hn : As.length = np) (hrest : (rest.map fun v => v.category).sum ≤ 8) (hR : rm.frames + 1 ≤ R.frames ∧ 8 + (nL' + 11) + rm.locals ≤ R.locals) (hf : k + rm.cells ≤ R.cells ∧ n + rm.slots ≤ R.slots) (kk : ∀ r σ1, F' = some (r, σ1) → qS p l e R s m args below meth c nL g z0 w (k + rm.cells) (n + rm.slots) Q (f r σ1) σ1 (pc + 3) lo (.int (qI r) :: rest)) : qS p l e R s m args below meth c nL g z0 w k n Q (qbd F' f) σ pc lo st := by
  intro u hu H locs ls hH hS hV
  cases hF : F' with
  | none => rw [hF] at hu; cases hu
  | some x =>
    obtain ⟨r, σ1⟩ := x
    rw [hF] at hu
    subst hst
    have htw := cx.2.2.2.2.1.2.1
    obtain ⟨h1, h2, h3, h4, h5⟩ := hy
    refine qRunS (vx_runSW (Ts := []) (As := As) (rest := rest) ⟨cx.1, cx.2.1, cx.2.2.1, cx.2.2.2.1, fun x hx => by cases hx⟩ (hM _ hF)
      ⟨⟨rfl, rfl, hR.1, hR.2, fun x hx a' U hW => by rw [List.mem_singleton.mp hx]; exact (htw.warm hW).word h1 rfl, List.mem_cons_self⟩, htw.word h1 rfl, htw.word h2 rfl, h3, fun sig h => by rw [h] at h4; exact (Option.some.inj h4).symm, htw.word hlink rfl, htw.word h5 rfl⟩
      (qPreS cx hH hS) rfl hn hV.1 rfl (lv_room hrest) hd hf) hS (fun H1 locs1 a1 a2 => kk r σ1 hF u hu H1 locs1 ls a1 a2 hV)
theorem r_xcall {ix np nL' : Nat} {y : MethodName} {cc' : ByteArray} {ret' : Option FieldType} {rm : Room} {F' : Option (Int × Int × qSt)} {rk : Int → Option Value} {As : List Value} {C : String} {T : u_T} {N ci k0 b : Nat} {fl : (Int → Int) → List Value} {f : Int × Int × qSt → Option Y} (cx : qCx p s m meth c cc nL own ret g z0) (hM : qXT l y cc' nL' ret' rm g z0 w (.ref b :: As) σ F' rk) (hy : qM y cc' nL' ret' np) (hv : qMv C y) (hcl : qCl[ci]? = some (C, T, N)) (hw : w k0 = some (b, qOb ci fl)) (hlink : Cond.methodLink own ix y ∈ lw_tbl) (hd : decode cc pc = .ok (.invokevirtual ix, 3)) (hst : st = As.reverse ++ .ref b :: rest) (hn : As.length = np) (hrest : (rest.map fun v => v.category).sum ≤ 8) (hR : rm.frames + 1 ≤ R.frames ∧ 8 + (nL' + 11) + rm.locals ≤ R.locals) (hf : k + rm.cells ≤ R.cells ∧ n + rm.slots ≤ R.slots) (kk : ∀ r σ1, F' = some (0, r, σ1) → qS p l e R s m args below meth c nL g z0 w (k + rm.cells) (n + rm.slots) Q (f (0, r, σ1)) σ1 (pc + 3) lo ((rk r).toList ++ rest)) (kx : ∀ v r σ1 E, qEn v = some E → f (v, r, σ1) = none ∨ ∃ hpc, qCatch own c.exceptionTable.toList s E pc hpc ∧ ∀ q : Nat, qS p l e R s m args below meth c nL g z0 w (k + rm.cells) (n + rm.slots) Q (f (v, r, σ1)) σ1 hpc lo [.ref q]) : qS p l e R s m args below meth c nL g z0 w k n Q (F'.bind f) σ pc lo st := by
  intro u hu H locs ls hH hS hV
  cases hF : F' with
  | none => rw [hF] at hu; cases hu
  | some x =>
    obtain ⟨v, r, σ1⟩ := x
    rw [hF] at hu
    subst hst
    have htw := cx.2.2.2.2.1.2.1
    intro T0 hT X
    have hr := vx_runV (e := e) (below := below) (meth := meth) (locs := locs) (args := args) (cells := k) (slots := n) (Ts := []) (As := As) (rest := rest) (g := F0 m pc ls (As.reverse ++ .ref b :: rest)) ⟨cx.1, cx.2.1, cx.2.2.1, cx.2.2.2.1, fun x hx => by cases hx⟩ (hM _ hF) ⟨qCallB cx hy hlink hR, htw.word hv.1 rfl, htw.word hv.2 rfl⟩ (qPreV cx hcl hw hH hS) rfl hn hV.1 rfl (lv_room hrest) hd hf
    rcases hr T0 hT X with ⟨v1, st₀, t, T', L, h0, X', hL, e1, e2, ⟨hz0, ⟨⟨hv1, hR1⟩, hF1⟩⟩, stp⟩ | ⟨q, st₀, t, T', L, E, ce, h0, X', hL, e1, e2, ⟨hE, hR1, hF1⟩, hce, hcv, hcl9, stp⟩
    · have hz0 : v = 0 := hz0
      subst hz0
      cases hv1
      obtain ⟨k1, k2, k3⟩ := vx_keep (A1 := qA z0) h0 e1 hS (fun _ _ h => h) (fun _ h => h) hL hF1
      obtain ⟨t2, a1, b1⟩ := kk r σ1 hF u hu T'.heap (locs ++ L) ls (by rw [e1]; exact hR1) k3 hV T' rfl X'
      exact ⟨t2, stp t2 a1, b1⟩
    · obtain ⟨k1, k2, k3⟩ := vx_keep (A1 := qA z0) h0 e1 hS (fun _ _ h => h) (fun _ h => h) hL hF1
      rcases kx v r σ1 E hE with hno | ⟨hpc, ⟨pre, x, suf, name, c1, c2, c3, c4, c5, c6, c7⟩, kq⟩
      · have hu : f (v, r, σ1) = some u := hu
        rw [hno] at hu
        cases hu
      · subst c7
        have hW := vx_catch (s := s) (args := args) (l := l) (e := e) (R := R) (below := below) (meth := meth) (pc := pc) (ls := ls) (rest := rest) cx.2.2.2.1 pre x suf c1 (fun z hz => by
          rcases c2 z hz with d1 | ⟨d1, nm, d2, d3⟩
          · exact Or.inl d1
          · exact Or.inr ⟨d1, nm, htw.word d2 rfl, d3⟩) c3 c4 (htw.word c5 rfl) (htw.cast c6) (H := T'.heap) (by rw [e1]; exact hce) hcv hcl9 (kq q u hu T'.heap (locs ++ L) ls (by rw [e1]; exact hR1) k3 hV)
        obtain ⟨t2, a1, b1⟩ := hW T' rfl X'
        exact ⟨t2, stp.trans a1, b1⟩
theorem r_xi {ix np nL' : Nat} {y : MethodName} {cc' : ByteArray} {ret' : Option FieldType} {rm : Room} {F' : Option (Int × Int × qSt)} {As : List Value} {C : String} {T : u_T} {N ci k0 b : Nat} {fl : (Int → Int) → List Value} {f : Int → Int → qSt → Option Y} (cx : qCx p s m meth c cc nL own ret g z0) (hM : qXT l y cc' nL' ret' rm g z0 w (.ref b :: As) σ F' qri) (hy : qM y cc' nL' ret' np) (hv : qMv C y) (hcl : qCl[ci]? = some (C, T, N)) (hw : w k0 = some (b, qOb ci fl)) (hlink : Cond.methodLink own ix y ∈ lw_tbl) (hd : decode cc pc = .ok (.invokevirtual ix, 3)) (hst : st = As.reverse ++ .ref b :: rest) (hn : As.length = np) (hrest : (rest.map fun v => v.category).sum ≤ 8) (hR : rm.frames + 1 ≤ R.frames ∧ 8 + (nL' + 11) + rm.locals ≤ R.locals) (hf : k + rm.cells ≤ R.cells ∧ n + rm.slots ≤ R.slots) (kk : ∀ r σ1, qS p l e R s m args below meth c nL g z0 w (k + rm.cells) (n + rm.slots) Q (f 0 r σ1) σ1 (pc + 3) lo (.int (qI r) :: rest)) (kx : ∀ v r σ1 E, qEn v = some E → f v r σ1 = none ∨ ∃ hpc, qCatch own c.exceptionTable.toList s E pc hpc ∧ ∀ q : Nat, qS p l e R s m args below meth c nL g z0 w (k + rm.cells) (n + rm.slots) Q (f v r σ1) σ1 hpc lo [.ref q]) : qS p l e R s m args below meth c nL g z0 w k n Q (qbx F' f) σ pc lo st :=
  r_xcall (f := fun u => f u.1 u.2.1 u.2.2) cx hM hy hv hcl hw hlink hd hst hn hrest hR hf (fun r σ1 _ => kk r σ1) kx
theorem r_xj {ix np nL' : Nat} {y : MethodName} {cc' : ByteArray} {ret' : Option FieldType} {rm : Room} {F' : Option (Int × Int × qSt)} {As : List Value} {C : String} {T : u_T} {N ci k0 b : Nat} {fl : (Int → Int) → List Value} {f : Int → Int → qSt → Option Y} (cx : qCx p s m meth c cc nL own ret g z0) (hM : qXT l y cc' nL' ret' rm g z0 w (.ref b :: As) σ F' qrj) (hy : qM y cc' nL' ret' np) (hv : qMv C y) (hcl : qCl[ci]? = some (C, T, N)) (hw : w k0 = some (b, qOb ci fl)) (hlink : Cond.methodLink own ix y ∈ lw_tbl) (hd : decode cc pc = .ok (.invokevirtual ix, 3)) (hst : st = As.reverse ++ .ref b :: rest) (hn : As.length = np) (hrest : (rest.map fun v => v.category).sum ≤ 8) (hR : rm.frames + 1 ≤ R.frames ∧ 8 + (nL' + 11) + rm.locals ≤ R.locals) (hf : k + rm.cells ≤ R.cells ∧ n + rm.slots ≤ R.slots) (kk : ∀ r σ1, qS p l e R s m args below meth c nL g z0 w (k + rm.cells) (n + rm.slots) Q (f 0 r σ1) σ1 (pc + 3) lo (.long (qJ r) :: rest)) (kx : ∀ v r σ1 E, qEn v = some E → f v r σ1 = none ∨ ∃ hpc, qCatch own c.exceptionTable.toList s E pc hpc ∧ ∀ q : Nat, qS p l e R s m args below meth c nL g z0 w (k + rm.cells) (n + rm.slots) Q (f v r σ1) σ1 hpc lo [.ref q]) : qS p l e R s m args below meth c nL g z0 w k n Q (qbx F' f) σ pc lo st :=
  r_xcall (f := fun u => f u.1 u.2.1 u.2.2) cx hM hy hv hcl hw hlink hd hst hn hrest hR hf (fun r σ1 _ => kk r σ1) kx
theorem r_xv {ix np nL' : Nat} {y : MethodName} {cc' : ByteArray} {ret' : Option FieldType} {rm : Room} {F' : Option (Int × Int × qSt)} {As : List Value} {C : String} {T : u_T} {N ci k0 b : Nat} {fl : (Int → Int) → List Value} {f : Int → Int → qSt → Option Y} (cx : qCx p s m meth c cc nL own ret g z0) (hM : qXT l y cc' nL' ret' rm g z0 w (.ref b :: As) σ F' qrv) (hy : qM y cc' nL' ret' np) (hv : qMv C y) (hcl : qCl[ci]? = some (C, T, N)) (hw : w k0 = some (b, qOb ci fl)) (hlink : Cond.methodLink own ix y ∈ lw_tbl) (hd : decode cc pc = .ok (.invokevirtual ix, 3)) (hst : st = As.reverse ++ .ref b :: rest) (hn : As.length = np) (hrest : (rest.map fun v => v.category).sum ≤ 8) (hR : rm.frames + 1 ≤ R.frames ∧ 8 + (nL' + 11) + rm.locals ≤ R.locals) (hf : k + rm.cells ≤ R.cells ∧ n + rm.slots ≤ R.slots) (kk : ∀ r σ1, qS p l e R s m args below meth c nL g z0 w (k + rm.cells) (n + rm.slots) Q (f 0 r σ1) σ1 (pc + 3) lo rest) (kx : ∀ v r σ1 E, qEn v = some E → f v r σ1 = none ∨ ∃ hpc, qCatch own c.exceptionTable.toList s E pc hpc ∧ ∀ q : Nat, qS p l e R s m args below meth c nL g z0 w (k + rm.cells) (n + rm.slots) Q (f v r σ1) σ1 hpc lo [.ref q]) : qS p l e R s m args below meth c nL g z0 w k n Q (qbx F' f) σ pc lo st :=
  r_xcall (f := fun u => f u.1 u.2.1 u.2.2) cx hM hy hv hcl hw hlink hd hst hn hrest hR hf (fun r σ1 _ => kk r σ1) kx
theorem r_xf {ix np nL' : Nat} {y : MethodName} {cc' : ByteArray} {ret' : Option FieldType} {rm : Room} {F' : Option (Int × Int × qSt)} {As : List Value} {C : String} {T : u_T} {N ci k0 b : Nat} {fl : (Int → Int) → List Value} {f : Int → Int → qSt → Option Y} (cx : qCx p s m meth c cc nL own ret g z0) (hM : qXT l y cc' nL' ret' rm g z0 w (.ref b :: As) σ F' qrf) (hy : qM y cc' nL' ret' np) (hv : qMv C y) (hcl : qCl[ci]? = some (C, T, N)) (hw : w k0 = some (b, qOb ci fl)) (hlink : Cond.methodLink own ix y ∈ lw_tbl) (hd : decode cc pc = .ok (.invokevirtual ix, 3)) (hst : st = As.reverse ++ .ref b :: rest) (hn : As.length = np) (hrest : (rest.map fun v => v.category).sum ≤ 8) (hR : rm.frames + 1 ≤ R.frames ∧ 8 + (nL' + 11) + rm.locals ≤ R.locals) (hf : k + rm.cells ≤ R.cells ∧ n + rm.slots ≤ R.slots) (kk : ∀ r σ1, qS p l e R s m args below meth c nL g z0 w (k + rm.cells) (n + rm.slots) Q (f 0 r σ1) σ1 (pc + 3) lo (.float (UInt32.ofNat r.toNat) :: rest)) (kx : ∀ v r σ1 E, qEn v = some E → f v r σ1 = none ∨ ∃ hpc, qCatch own c.exceptionTable.toList s E pc hpc ∧ ∀ q : Nat, qS p l e R s m args below meth c nL g z0 w (k + rm.cells) (n + rm.slots) Q (f v r σ1) σ1 hpc lo [.ref q]) : qS p l e R s m args below meth c nL g z0 w k n Q (qbx F' f) σ pc lo st :=
  r_xcall (f := fun u => f u.1 u.2.1 u.2.2) cx hM hy hv hcl hw hlink hd hst hn hrest hR hf (fun r σ1 _ => kk r σ1) kx
end KROWS
