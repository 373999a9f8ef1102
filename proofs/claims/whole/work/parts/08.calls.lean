/-! ===== contracts, entry, returns, calls ===== -/
def qri : Int → Option Value := fun r => some (.int (qI r))
def qrj : Int → Option Value := fun r => some (.long (qJ r))
def qrf : Int → Option Value := fun r => some (.float (UInt32.ofNat r.toNat))
def qrv : Int → Option Value := fun _ => none
def qPc (g : qG) (z0 : Nat) (w : qWd) (σ : qSt) : State → Prop := fun U => qR g z0 w σ U.heap ∧ qK g z0 U
def qQc (g : qG) (z0 : Nat) (w : qWd) (rk : Int → Option Value) (y : Int × qSt) : Array Value → State → Outcome → State → Prop := fun _ st o t => (o = .returned (rk y.1) ∧ qR g z0 w y.2 t.heap) ∧ va_F (qA z0) st t
/-- a method's contract: where its fragment says y, it returns that -/
def qCT (l : Launch) (y : MethodName) (cc : ByteArray) (nL : Nat) (ret : Option FieldType) (rm : Room) (g : qG) (z0 : Nat) (w : qWd) (av : List Value) (σ : qSt) (F : Option (Int × qSt)) (rk : Int → Option Value) : Prop :=
  ∀ u, F = some u → Met l y [.code y cc nL ret] rm (va_Pc av (qPc g z0 w σ)) (qQc g z0 w rk u) rm.cells rm.slots (qA z0)
theorem qPc.blind {g : qG} {z0 : Nat} {w : qWd} {σ : qSt} {av : List Value} : FrameBlind (va_Pc av (qPc g z0 w σ)) := fun _ _ _ _ h => ⟨h.1, h.2.1, h.2.2.calling⟩
def qQ (below : List Frame) (g : qG) (z0 : Nat) (w : qWd) (rk : Int → Option Value) (args : Array Value) (s : State) (mc ms : Nat) (u : Int × qSt) : State → Prop := MQ below (qQc g z0 w rk u) args s mc ms (qA z0)
def qlist (l : List (Nat × Value)) : qLo := l.map (fun q => (q.1, some q.2))
theorem qlook_mem {l : List (Nat × Value)} {n : Nat} {v : Value} (h : qlook (qlist l) n = some v) : (n, v) ∈ l := by
  induction l with
  | nil => cases h
  | cons a t ih =>
    have h : qlook ((a.1, some a.2) :: qlist t) n = some v := h
    rw [qlook_cons] at h
    by_cases e : a.1 = n
    · rw [if_pos e] at h
      cases h
      subst e
      exact List.mem_cons_self
    · rw [if_neg e] at h
      exact List.mem_cons_of_mem _ (ih h)
theorem qV.entry (av : List Value) {nL : Nat} (h : (lg_sl av).length ≤ nL) : qV ((lg_sl av ++ List.replicate (nL - (lg_sl av).length) Slot.unset).toArray) nL (qlist (lv_args 0 av)) := by
  have h1 := lv_entry av h
  exact ⟨h1.1, h1.2.1, fun n v hn => h1.2.2 (n, v) (qlook_mem hn)⟩
theorem qCT.of {l : Launch} {y : MethodName} {cc : ByteArray} {nL : Nat} {ret : Option FieldType} {rm : Room} {g : qG} {z0 : Nat} {w : qWd} {av : List Value} {σ : qSt} {F : Option (Int × qSt)} {rk : Int → Option Value} (lo : qLo) (hy : plainName y.cls = true) (hn : (lg_sl av).length ≤ nL) (hlo : qlist (lv_args 0 av) = lo)
    (body : ∀ p e s m args below meth c, qCx p s m meth c cc nL y.cls ret g z0 → qS p l e rm s m args below meth c nL g z0 w 0 0 (qQ below g z0 w rk args s rm.cells rm.slots) F σ 0 lo []) : qCT l y cc nL ret rm g z0 w av σ F rk := by
  intro u hu
  refine Met.ofW (cc := cc) (maxL := nL) (ret := ret) hy rfl ?_
  intro p e s m args below meth c s₁ B hml hv
  obtain ⟨rfl, hR, hK⟩ := hv
  subst hlo
  rw [lg_entry_eq]
  exact body p e s m _ below meth c ⟨B.exec, B.bytes, hml, findClass_of_methodNamed B.named, hK, B.returns, B.notSynchronized⟩ u hu s.heap [] _ hR va_S.rf (qV.entry av hn)
/-- facts of a method that a call needs -/
def qM (y : MethodName) (cc : ByteArray) (nL : Nat) (ret : Option FieldType) (np : Nat) : Prop := Cond.code y cc nL ret ∈ lw_tbl ∧ Cond.initialized y.cls ∈ lw_tbl ∧ (y.cls ≠ "java/lang/invoke/MethodHandle" ∧ y.cls ≠ "java/lang/invoke/VarHandle") ∧ (parseMethodDescriptor y.desc).map (fun d => d.parameters.length) = some np
def qMv (C : String) (y : MethodName) : Prop := Cond.instanceMethod y ∈ lw_tbl ∧ Cond.selects C y y ∈ lw_tbl
def qMs (y : MethodName) : Prop := Cond.static y ∈ lw_tbl
section CROWS
variable {Y : Type} {p : Program} {l : Launch} {e : Env} {R : Room} {s : State} {m : MethodId} {args : Array Value} {below : List Frame} {meth : Method} {c : Code}
variable {cc : ByteArray} {nL : Nat} {own : String} {ret : Option FieldType} {g : qG} {z0 : Nat} {w : qWd} {k n : Nat} {Q : Y → State → Prop} {F : Option Y} {σ : qSt} {pc : Nat} {lo : qLo} {st rest : List Value} {mc ms : Nat}
theorem qCallB (cx : qCx p s m meth c cc nL own ret g z0) {ix np nL' : Nat} {y : MethodName} {cc' : ByteArray} {ret' : Option FieldType} {rm : Room} (hy : qM y cc' nL' ret' np) (hlink : Cond.methodLink own ix y ∈ lw_tbl) (hR : rm.frames + 1 ≤ R.frames ∧ 8 + (nL' + 11) + rm.locals ≤ R.locals) : CallB R s args own ix y cc' nL' ret' [.code y cc' nL' ret'] rm rm.cells rm.slots np := by
  have htw := cx.2.2.2.2.1.2.1
  obtain ⟨h1, h2, h3, h4⟩ := hy
  refine ⟨rfl, rfl, hR.1, hR.2, fun x hx a' U hW => ?_, List.mem_cons_self, htw.word h1 rfl, htw.word h2 rfl, h3, fun sig h => ?_, htw.word hlink rfl⟩
  · rw [List.mem_singleton.mp hx]
    exact (htw.warm hW).word h1 rfl
  · rw [h] at h4
    exact (Option.some.inj h4).symm
theorem qCallN (cx : qCx p s m meth c cc nL own ret g z0) {ix np nL' : Nat} {host : String} {y : MethodName} {cc' : ByteArray} {ret' : Option FieldType} {rm : Room} (hy : qM y cc' nL' ret' np) (hlink : Cond.methodLinkNest own ix y host ∈ lw_tbl) (hR : rm.frames + 1 ≤ R.frames ∧ 8 + (nL' + 11) + rm.locals ≤ R.locals) : va_CN R s args own ix y host cc' nL' ret' [.code y cc' nL' ret'] rm rm.cells rm.slots np := by
  have htw := cx.2.2.2.2.1.2.1
  obtain ⟨h1, h2, h3, h4⟩ := hy
  refine ⟨⟨rfl, rfl, hR.1, hR.2, fun x hx a' U hW => ?_, List.mem_cons_self⟩, htw.word h1 rfl, htw.word h2 rfl, h3, fun sig h => ?_, va_Nw.use rfl (htw.nestM hlink)⟩
  · rw [List.mem_singleton.mp hx]
    exact (htw.warm hW).word h1 rfl
  · rw [h] at h4
    exact (Option.some.inj h4).symm
theorem qPreS (cx : qCx p s m meth c cc nL own ret g z0) {H : Heap} {locs : List Loc} {As : List Value} (hH : qR g z0 w σ H) (hS : va_S (qA z0) s.heap H locs) : PreS s H (va_Pc As (qPc g z0 w σ)) As :=
  ⟨qPc.blind, fun U hU hW => ⟨rfl, by rw [hU]; exact hH, cx.2.2.2.2.1.step hW hU hS⟩⟩
theorem qPreV (cx : qCx p s m meth c cc nL own ret g z0) {H : Heap} {locs : List Loc} {As : List Value} {C : String} {T : u_T} {N ci k0 b : Nat} {fl : (Int → Int) → List Value} (hcl : qCl[ci]? = some (C, T, N)) (hw : w k0 = some (b, qOb ci fl)) (hH : qR g z0 w σ H) (hS : va_S (qA z0) s.heap H locs) : PreV s H C b (va_Pc (.ref b :: As) (qPc g z0 w σ)) As :=
  ⟨qPc.blind, va_recv cx.2.2.2.2.1.1 (qP1 (hH.1 _ _ _ hw).1) hcl (q0 := 0) rfl, fun U hU hW => ⟨rfl, by rw [hU]; exact hH, cx.2.2.2.2.1.step hW hU hS⟩⟩
theorem qRunS {H : Heap} {locs : List Loc} {ls : Array Slot} {Qy : State → Prop} {rk : Int → Option Value} {u : Int × qSt} {av : Array Value} (hr : va_Run p l e R s m args below meth c H locs k n mc ms (F0 m pc ls st) rest (qQc g z0 w rk u av) (qA z0)) (hS : va_S (qA z0) s.heap H locs)
    (kk : ∀ (H1 : Heap) (locs1 : List Loc), qR g z0 w u.2 H1 → va_S (qA z0) s.heap H1 locs1 → W p l e R s m args below meth c H1 locs1 (k + mc) (n + ms) Qy (F0 m (pc + 3) ls ((rk u.1).toList ++ rest))) : W p l e R s m args below meth c H locs k n Qy (F0 m pc ls st) := by
  intro T hT X
  obtain ⟨v, st₀, t, T', L, h0, X', hL, e1, e2, ⟨⟨hv, hR1⟩, hz, hk⟩, stp⟩ := hr T hT X
  cases hv
  rw [h0] at hz hk
  obtain ⟨t2, a1, b1⟩ := kk T'.heap (locs ++ L) (by rw [e1]; exact hR1)
    ⟨Nat.le_trans hS.1 (by rw [e1]; exact hz), fun q h1 h2 => by rw [e1, hk q (Nat.lt_of_lt_of_le h1 hS.1) h2]; exact hS.2.1 q h1 h2, fun q hq => by
      rcases List.mem_append.mp hq with h | h
      · exact hS.2.2 q h
      · exact hL q h⟩ T' rfl X'
  exact ⟨t2, stp t2 a1, b1⟩
theorem r_callV {ix np nL' : Nat} {y : MethodName} {cc' : ByteArray} {ret' : Option FieldType} {rm : Room} {F' : Option (Int × qSt)} {rk : Int → Option Value} {As : List Value} {C : String} {T : u_T} {N ci k0 b : Nat} {fl : (Int → Int) → List Value} {f : Int × qSt → Option Y} (cx : qCx p s m meth c cc nL own ret g z0) (hM : qCT l y cc' nL' ret' rm g z0 w (.ref b :: As) σ F' rk) (hy : qM y cc' nL' ret' np) (hv : qMv C y) (hcl : qCl[ci]? = some (C, T, N)) (hw : w k0 = some (b, qOb ci fl)) (hlink : Cond.methodLink own ix y ∈ lw_tbl) (hd : decode cc pc = .ok (.invokevirtual ix, 3)) (hst : st = As.reverse ++ .ref b :: rest) (hn : As.length = np) (hrest : (rest.map fun v => v.category).sum ≤ 8) (hR : rm.frames + 1 ≤ R.frames ∧ 8 + (nL' + 11) + rm.locals ≤ R.locals) (hf : k + rm.cells ≤ R.cells ∧ n + rm.slots ≤ R.slots) (kk : ∀ r σ1, F' = some (r, σ1) → qS p l e R s m args below meth c nL g z0 w (k + rm.cells) (n + rm.slots) Q (f (r, σ1)) σ1 (pc + 3) lo ((rk r).toList ++ rest)) : qS p l e R s m args below meth c nL g z0 w k n Q (F'.bind f) σ pc lo st := by
  intro u hu H locs ls hH hS hV
  cases hF : F' with
  | none => rw [hF] at hu; cases hu
  | some x =>
    obtain ⟨r, σ1⟩ := x
    rw [hF] at hu
    subst hst
    refine qRunS (va_runV (Ts := []) (As := As) (rest := rest) ⟨cx.1, cx.2.1, cx.2.2.1, cx.2.2.2.1, fun x hx => by cases hx⟩ (hM _ hF) ⟨qCallB cx hy hlink hR, cx.2.2.2.2.1.2.1.word hv.1 rfl, cx.2.2.2.2.1.2.1.word hv.2 rfl⟩ (qPreV cx hcl hw hH hS) rfl hn hV.1 rfl (lv_room hrest) hd hf) hS (fun H1 locs1 h1 h2 => kk r σ1 hF u hu H1 locs1 ls h1 h2 hV)
theorem r_callS {ix np nL' : Nat} {y : MethodName} {cc' : ByteArray} {ret' : Option FieldType} {rm : Room} {F' : Option (Int × qSt)} {rk : Int → Option Value} {As : List Value}  {f : Int × qSt → Option Y} (cx : qCx p s m meth c cc nL own ret g z0) (hM : qCT l y cc' nL' ret' rm g z0 w As σ F' rk) (hy : qM y cc' nL' ret' np) (hs : qMs y) (hlink : Cond.methodLink own ix y ∈ lw_tbl) (hd : decode cc pc = .ok (.invokestatic ix, 3)) (hst : st = As.reverse ++ rest) (hn : As.length = np) (hrest : (rest.map fun v => v.category).sum ≤ 8) (hR : rm.frames + 1 ≤ R.frames ∧ 8 + (nL' + 11) + rm.locals ≤ R.locals) (hf : k + rm.cells ≤ R.cells ∧ n + rm.slots ≤ R.slots) (kk : ∀ r σ1, F' = some (r, σ1) → qS p l e R s m args below meth c nL g z0 w (k + rm.cells) (n + rm.slots) Q (f (r, σ1)) σ1 (pc + 3) lo ((rk r).toList ++ rest)) : qS p l e R s m args below meth c nL g z0 w k n Q (F'.bind f) σ pc lo st := by
  intro u hu H locs ls hH hS hV
  cases hF : F' with
  | none => rw [hF] at hu; cases hu
  | some x =>
    obtain ⟨r, σ1⟩ := x
    rw [hF] at hu
    subst hst
    refine qRunS (va_runS (Ts := []) (As := As) (rest := rest) ⟨cx.1, cx.2.1, cx.2.2.1, cx.2.2.2.1, fun x hx => by cases hx⟩ (hM _ hF) ⟨qCallB cx hy hlink hR, cx.2.2.2.2.1.2.1.word hs rfl⟩ (qPreS cx hH hS) rfl hn hV.1 rfl (lv_room hrest) hd hf) hS (fun H1 locs1 h1 h2 => kk r σ1 hF u hu H1 locs1 ls h1 h2 hV)
theorem r_callVN {ix np nL' : Nat} {y : MethodName} {cc' : ByteArray} {ret' : Option FieldType} {rm : Room} {F' : Option (Int × qSt)} {rk : Int → Option Value} {As : List Value} {C : String} {T : u_T} {N ci k0 b : Nat} {fl : (Int → Int) → List Value} {host : String} {f : Int × qSt → Option Y} (cx : qCx p s m meth c cc nL own ret g z0) (hM : qCT l y cc' nL' ret' rm g z0 w (.ref b :: As) σ F' rk) (hy : qM y cc' nL' ret' np) (hv : qMv C y) (hcl : qCl[ci]? = some (C, T, N)) (hw : w k0 = some (b, qOb ci fl)) (hlink : Cond.methodLinkNest own ix y host ∈ lw_tbl) (hd : decode cc pc = .ok (.invokevirtual ix, 3)) (hst : st = As.reverse ++ .ref b :: rest) (hn : As.length = np) (hrest : (rest.map fun v => v.category).sum ≤ 8) (hR : rm.frames + 1 ≤ R.frames ∧ 8 + (nL' + 11) + rm.locals ≤ R.locals) (hf : k + rm.cells ≤ R.cells ∧ n + rm.slots ≤ R.slots) (kk : ∀ r σ1, F' = some (r, σ1) → qS p l e R s m args below meth c nL g z0 w (k + rm.cells) (n + rm.slots) Q (f (r, σ1)) σ1 (pc + 3) lo ((rk r).toList ++ rest)) : qS p l e R s m args below meth c nL g z0 w k n Q (F'.bind f) σ pc lo st := by
  intro u hu H locs ls hH hS hV
  cases hF : F' with
  | none => rw [hF] at hu; cases hu
  | some x =>
    obtain ⟨r, σ1⟩ := x
    rw [hF] at hu
    subst hst
    refine qRunS (va_runVN (Ts := []) (As := As) (rest := rest) ⟨cx.1, cx.2.1, cx.2.2.1, cx.2.2.2.1, fun x hx => by cases hx⟩ (hM _ hF) ⟨qCallN cx hy hlink hR, cx.2.2.2.2.1.2.1.word hv.1 rfl, cx.2.2.2.2.1.2.1.word hv.2 rfl⟩ (qPreV cx hcl hw hH hS) rfl hn hV.1 rfl (lv_room hrest) hd hf) hS (fun H1 locs1 h1 h2 => kk r σ1 hF u hu H1 locs1 ls h1 h2 hV)
theorem r_callSN {ix np nL' : Nat} {y : MethodName} {cc' : ByteArray} {ret' : Option FieldType} {rm : Room} {F' : Option (Int × qSt)} {rk : Int → Option Value} {As : List Value} {host : String} {f : Int × qSt → Option Y} (cx : qCx p s m meth c cc nL own ret g z0) (hM : qCT l y cc' nL' ret' rm g z0 w As σ F' rk) (hy : qM y cc' nL' ret' np) (hs : qMs y) (hlink : Cond.methodLinkNest own ix y host ∈ lw_tbl) (hd : decode cc pc = .ok (.invokestatic ix, 3)) (hst : st = As.reverse ++ rest) (hn : As.length = np) (hrest : (rest.map fun v => v.category).sum ≤ 8) (hR : rm.frames + 1 ≤ R.frames ∧ 8 + (nL' + 11) + rm.locals ≤ R.locals) (hf : k + rm.cells ≤ R.cells ∧ n + rm.slots ≤ R.slots) (kk : ∀ r σ1, F' = some (r, σ1) → qS p l e R s m args below meth c nL g z0 w (k + rm.cells) (n + rm.slots) Q (f (r, σ1)) σ1 (pc + 3) lo ((rk r).toList ++ rest)) : qS p l e R s m args below meth c nL g z0 w k n Q (F'.bind f) σ pc lo st := by
  intro u hu H locs ls hH hS hV
  cases hF : F' with
  | none => rw [hF] at hu; cases hu
  | some x =>
    obtain ⟨r, σ1⟩ := x
    rw [hF] at hu
    subst hst
    refine qRunS (va_runSN (Ts := []) (As := As) (rest := rest) ⟨cx.1, cx.2.1, cx.2.2.1, cx.2.2.2.1, fun x hx => by cases hx⟩ (hM _ hF) ⟨qCallN cx hy hlink hR, cx.2.2.2.2.1.2.1.word hs rfl, trivial⟩ (qPreS cx hH hS) rfl hn hV.1 rfl (lv_room hrest) hd hf) hS (fun H1 locs1 h1 h2 => kk r σ1 hF u hu H1 locs1 ls h1 h2 hV)
def qlift (F : Option Int) (σ : qSt) : Option (Int × qSt) := F.map (fun r => (r, σ))
theorem qlift_some {F : Option Int} {σ σ1 : qSt} {r : Int} (h : qlift F σ = some (r, σ1)) : F = some r ∧ σ1 = σ := by
  cases F with
  | none => cases h
  | some x =>
    have h : some (x, σ) = some (r, σ1) := h
    cases h
    exact ⟨rfl, rfl⟩
theorem qlift_bind {F : Option Int} {σ : qSt} {f : Int → Option Y} : F.bind f = (qlift F σ).bind (fun x => f x.1) := by
  cases F <;> rfl
theorem r_cVi {ix np nL' : Nat} {y : MethodName} {cc' : ByteArray} {ret' : Option FieldType} {rm : Room} {F' : Option (Int × qSt)} {As : List Value} {C : String} {T : u_T} {N ci k0 b : Nat} {fl : (Int → Int) → List Value} {f : Int × qSt → Option Y} (cx : qCx p s m meth c cc nL own ret g z0) (hM : qCT l y cc' nL' ret' rm g z0 w (.ref b :: As) σ F' qri) (hy : qM y cc' nL' ret' np) (hv : qMv C y) (hcl : qCl[ci]? = some (C, T, N)) (hw : w k0 = some (b, qOb ci fl)) (hlink : Cond.methodLink own ix y ∈ lw_tbl) (hd : decode cc pc = .ok (.invokevirtual ix, 3)) (hst : st = As.reverse ++ .ref b :: rest) (hn : As.length = np) (hrest : (rest.map fun v => v.category).sum ≤ 8) (hR : rm.frames + 1 ≤ R.frames ∧ 8 + (nL' + 11) + rm.locals ≤ R.locals) (hf : k + rm.cells ≤ R.cells ∧ n + rm.slots ≤ R.slots) (kk : ∀ r σ1, qS p l e R s m args below meth c nL g z0 w (k + rm.cells) (n + rm.slots) Q (f (r, σ1)) σ1 (pc + 3) lo (.int (qI r) :: rest)) : qS p l e R s m args below meth c nL g z0 w k n Q (F'.bind f) σ pc lo st :=
  r_callV cx hM hy hv hcl hw hlink hd hst hn hrest hR hf (fun r σ1 _ => kk r σ1)
theorem r_pVi {ix np nL' : Nat} {y : MethodName} {cc' : ByteArray} {ret' : Option FieldType} {rm : Room} {F' : Option Int} {As : List Value} {C : String} {T : u_T} {N ci k0 b : Nat} {fl : (Int → Int) → List Value} {f : Int → Option Y} (cx : qCx p s m meth c cc nL own ret g z0) (hM : qCT l y cc' nL' ret' rm g z0 w (.ref b :: As) σ (qlift F' σ) qri) (hy : qM y cc' nL' ret' np) (hv : qMv C y) (hcl : qCl[ci]? = some (C, T, N)) (hw : w k0 = some (b, qOb ci fl)) (hlink : Cond.methodLink own ix y ∈ lw_tbl) (hd : decode cc pc = .ok (.invokevirtual ix, 3)) (hst : st = As.reverse ++ .ref b :: rest) (hn : As.length = np) (hrest : (rest.map fun v => v.category).sum ≤ 8) (hR : rm.frames + 1 ≤ R.frames ∧ 8 + (nL' + 11) + rm.locals ≤ R.locals) (hf : k + rm.cells ≤ R.cells ∧ n + rm.slots ≤ R.slots) (kk : ∀ r, qS p l e R s m args below meth c nL g z0 w (k + rm.cells) (n + rm.slots) Q (f r) σ (pc + 3) lo (.int (qI r) :: rest)) : qS p l e R s m args below meth c nL g z0 w k n Q (F'.bind f) σ pc lo st := by
  rw [qlift_bind (σ := σ)]
  exact r_callV cx hM hy hv hcl hw hlink hd hst hn hrest hR hf (fun r σ1 h => by rw [(qlift_some h).2]; exact kk r)
theorem r_cVj {ix np nL' : Nat} {y : MethodName} {cc' : ByteArray} {ret' : Option FieldType} {rm : Room} {F' : Option (Int × qSt)} {As : List Value} {C : String} {T : u_T} {N ci k0 b : Nat} {fl : (Int → Int) → List Value} {f : Int × qSt → Option Y} (cx : qCx p s m meth c cc nL own ret g z0) (hM : qCT l y cc' nL' ret' rm g z0 w (.ref b :: As) σ F' qrj) (hy : qM y cc' nL' ret' np) (hv : qMv C y) (hcl : qCl[ci]? = some (C, T, N)) (hw : w k0 = some (b, qOb ci fl)) (hlink : Cond.methodLink own ix y ∈ lw_tbl) (hd : decode cc pc = .ok (.invokevirtual ix, 3)) (hst : st = As.reverse ++ .ref b :: rest) (hn : As.length = np) (hrest : (rest.map fun v => v.category).sum ≤ 8) (hR : rm.frames + 1 ≤ R.frames ∧ 8 + (nL' + 11) + rm.locals ≤ R.locals) (hf : k + rm.cells ≤ R.cells ∧ n + rm.slots ≤ R.slots) (kk : ∀ r σ1, qS p l e R s m args below meth c nL g z0 w (k + rm.cells) (n + rm.slots) Q (f (r, σ1)) σ1 (pc + 3) lo (.long (qJ r) :: rest)) : qS p l e R s m args below meth c nL g z0 w k n Q (F'.bind f) σ pc lo st :=
  r_callV cx hM hy hv hcl hw hlink hd hst hn hrest hR hf (fun r σ1 _ => kk r σ1)
theorem r_pVj {ix np nL' : Nat} {y : MethodName} {cc' : ByteArray} {ret' : Option FieldType} {rm : Room} {F' : Option Int} {As : List Value} {C : String} {T : u_T} {N ci k0 b : Nat} {fl : (Int → Int) → List Value} {f : Int → Option Y} (cx : qCx p s m meth c cc nL own ret g z0) (hM : qCT l y cc' nL' ret' rm g z0 w (.ref b :: As) σ (qlift F' σ) qrj) (hy : qM y cc' nL' ret' np) (hv : qMv C y) (hcl : qCl[ci]? = some (C, T, N)) (hw : w k0 = some (b, qOb ci fl)) (hlink : Cond.methodLink own ix y ∈ lw_tbl) (hd : decode cc pc = .ok (.invokevirtual ix, 3)) (hst : st = As.reverse ++ .ref b :: rest) (hn : As.length = np) (hrest : (rest.map fun v => v.category).sum ≤ 8) (hR : rm.frames + 1 ≤ R.frames ∧ 8 + (nL' + 11) + rm.locals ≤ R.locals) (hf : k + rm.cells ≤ R.cells ∧ n + rm.slots ≤ R.slots) (kk : ∀ r, qS p l e R s m args below meth c nL g z0 w (k + rm.cells) (n + rm.slots) Q (f r) σ (pc + 3) lo (.long (qJ r) :: rest)) : qS p l e R s m args below meth c nL g z0 w k n Q (F'.bind f) σ pc lo st := by
  rw [qlift_bind (σ := σ)]
  exact r_callV cx hM hy hv hcl hw hlink hd hst hn hrest hR hf (fun r σ1 h => by rw [(qlift_some h).2]; exact kk r)
theorem r_cVv {ix np nL' : Nat} {y : MethodName} {cc' : ByteArray} {ret' : Option FieldType} {rm : Room} {F' : Option (Int × qSt)} {As : List Value} {C : String} {T : u_T} {N ci k0 b : Nat} {fl : (Int → Int) → List Value} {f : Int × qSt → Option Y} (cx : qCx p s m meth c cc nL own ret g z0) (hM : qCT l y cc' nL' ret' rm g z0 w (.ref b :: As) σ F' qrv) (hy : qM y cc' nL' ret' np) (hv : qMv C y) (hcl : qCl[ci]? = some (C, T, N)) (hw : w k0 = some (b, qOb ci fl)) (hlink : Cond.methodLink own ix y ∈ lw_tbl) (hd : decode cc pc = .ok (.invokevirtual ix, 3)) (hst : st = As.reverse ++ .ref b :: rest) (hn : As.length = np) (hrest : (rest.map fun v => v.category).sum ≤ 8) (hR : rm.frames + 1 ≤ R.frames ∧ 8 + (nL' + 11) + rm.locals ≤ R.locals) (hf : k + rm.cells ≤ R.cells ∧ n + rm.slots ≤ R.slots) (kk : ∀ r σ1, qS p l e R s m args below meth c nL g z0 w (k + rm.cells) (n + rm.slots) Q (f (r, σ1)) σ1 (pc + 3) lo rest) : qS p l e R s m args below meth c nL g z0 w k n Q (F'.bind f) σ pc lo st :=
  r_callV cx hM hy hv hcl hw hlink hd hst hn hrest hR hf (fun r σ1 _ => kk r σ1)
theorem r_pVv {ix np nL' : Nat} {y : MethodName} {cc' : ByteArray} {ret' : Option FieldType} {rm : Room} {F' : Option Int} {As : List Value} {C : String} {T : u_T} {N ci k0 b : Nat} {fl : (Int → Int) → List Value} {f : Int → Option Y} (cx : qCx p s m meth c cc nL own ret g z0) (hM : qCT l y cc' nL' ret' rm g z0 w (.ref b :: As) σ (qlift F' σ) qrv) (hy : qM y cc' nL' ret' np) (hv : qMv C y) (hcl : qCl[ci]? = some (C, T, N)) (hw : w k0 = some (b, qOb ci fl)) (hlink : Cond.methodLink own ix y ∈ lw_tbl) (hd : decode cc pc = .ok (.invokevirtual ix, 3)) (hst : st = As.reverse ++ .ref b :: rest) (hn : As.length = np) (hrest : (rest.map fun v => v.category).sum ≤ 8) (hR : rm.frames + 1 ≤ R.frames ∧ 8 + (nL' + 11) + rm.locals ≤ R.locals) (hf : k + rm.cells ≤ R.cells ∧ n + rm.slots ≤ R.slots) (kk : ∀ r, qS p l e R s m args below meth c nL g z0 w (k + rm.cells) (n + rm.slots) Q (f r) σ (pc + 3) lo rest) : qS p l e R s m args below meth c nL g z0 w k n Q (F'.bind f) σ pc lo st := by
  rw [qlift_bind (σ := σ)]
  exact r_callV cx hM hy hv hcl hw hlink hd hst hn hrest hR hf (fun r σ1 h => by rw [(qlift_some h).2]; exact kk r)
theorem r_cSi {ix np nL' : Nat} {y : MethodName} {cc' : ByteArray} {ret' : Option FieldType} {rm : Room} {F' : Option (Int × qSt)} {As : List Value}  {f : Int × qSt → Option Y} (cx : qCx p s m meth c cc nL own ret g z0) (hM : qCT l y cc' nL' ret' rm g z0 w As σ F' qri) (hy : qM y cc' nL' ret' np) (hs : qMs y) (hlink : Cond.methodLink own ix y ∈ lw_tbl) (hd : decode cc pc = .ok (.invokestatic ix, 3)) (hst : st = As.reverse ++ rest) (hn : As.length = np) (hrest : (rest.map fun v => v.category).sum ≤ 8) (hR : rm.frames + 1 ≤ R.frames ∧ 8 + (nL' + 11) + rm.locals ≤ R.locals) (hf : k + rm.cells ≤ R.cells ∧ n + rm.slots ≤ R.slots) (kk : ∀ r σ1, qS p l e R s m args below meth c nL g z0 w (k + rm.cells) (n + rm.slots) Q (f (r, σ1)) σ1 (pc + 3) lo (.int (qI r) :: rest)) : qS p l e R s m args below meth c nL g z0 w k n Q (F'.bind f) σ pc lo st :=
  r_callS cx hM hy hs hlink hd hst hn hrest hR hf (fun r σ1 _ => kk r σ1)
theorem r_pSi {ix np nL' : Nat} {y : MethodName} {cc' : ByteArray} {ret' : Option FieldType} {rm : Room} {F' : Option Int} {As : List Value}  {f : Int → Option Y} (cx : qCx p s m meth c cc nL own ret g z0) (hM : qCT l y cc' nL' ret' rm g z0 w As σ (qlift F' σ) qri) (hy : qM y cc' nL' ret' np) (hs : qMs y) (hlink : Cond.methodLink own ix y ∈ lw_tbl) (hd : decode cc pc = .ok (.invokestatic ix, 3)) (hst : st = As.reverse ++ rest) (hn : As.length = np) (hrest : (rest.map fun v => v.category).sum ≤ 8) (hR : rm.frames + 1 ≤ R.frames ∧ 8 + (nL' + 11) + rm.locals ≤ R.locals) (hf : k + rm.cells ≤ R.cells ∧ n + rm.slots ≤ R.slots) (kk : ∀ r, qS p l e R s m args below meth c nL g z0 w (k + rm.cells) (n + rm.slots) Q (f r) σ (pc + 3) lo (.int (qI r) :: rest)) : qS p l e R s m args below meth c nL g z0 w k n Q (F'.bind f) σ pc lo st := by
  rw [qlift_bind (σ := σ)]
  exact r_callS cx hM hy hs hlink hd hst hn hrest hR hf (fun r σ1 h => by rw [(qlift_some h).2]; exact kk r)
theorem r_cSj {ix np nL' : Nat} {y : MethodName} {cc' : ByteArray} {ret' : Option FieldType} {rm : Room} {F' : Option (Int × qSt)} {As : List Value}  {f : Int × qSt → Option Y} (cx : qCx p s m meth c cc nL own ret g z0) (hM : qCT l y cc' nL' ret' rm g z0 w As σ F' qrj) (hy : qM y cc' nL' ret' np) (hs : qMs y) (hlink : Cond.methodLink own ix y ∈ lw_tbl) (hd : decode cc pc = .ok (.invokestatic ix, 3)) (hst : st = As.reverse ++ rest) (hn : As.length = np) (hrest : (rest.map fun v => v.category).sum ≤ 8) (hR : rm.frames + 1 ≤ R.frames ∧ 8 + (nL' + 11) + rm.locals ≤ R.locals) (hf : k + rm.cells ≤ R.cells ∧ n + rm.slots ≤ R.slots) (kk : ∀ r σ1, qS p l e R s m args below meth c nL g z0 w (k + rm.cells) (n + rm.slots) Q (f (r, σ1)) σ1 (pc + 3) lo (.long (qJ r) :: rest)) : qS p l e R s m args below meth c nL g z0 w k n Q (F'.bind f) σ pc lo st :=
  r_callS cx hM hy hs hlink hd hst hn hrest hR hf (fun r σ1 _ => kk r σ1)
theorem r_pSj {ix np nL' : Nat} {y : MethodName} {cc' : ByteArray} {ret' : Option FieldType} {rm : Room} {F' : Option Int} {As : List Value}  {f : Int → Option Y} (cx : qCx p s m meth c cc nL own ret g z0) (hM : qCT l y cc' nL' ret' rm g z0 w As σ (qlift F' σ) qrj) (hy : qM y cc' nL' ret' np) (hs : qMs y) (hlink : Cond.methodLink own ix y ∈ lw_tbl) (hd : decode cc pc = .ok (.invokestatic ix, 3)) (hst : st = As.reverse ++ rest) (hn : As.length = np) (hrest : (rest.map fun v => v.category).sum ≤ 8) (hR : rm.frames + 1 ≤ R.frames ∧ 8 + (nL' + 11) + rm.locals ≤ R.locals) (hf : k + rm.cells ≤ R.cells ∧ n + rm.slots ≤ R.slots) (kk : ∀ r, qS p l e R s m args below meth c nL g z0 w (k + rm.cells) (n + rm.slots) Q (f r) σ (pc + 3) lo (.long (qJ r) :: rest)) : qS p l e R s m args below meth c nL g z0 w k n Q (F'.bind f) σ pc lo st := by
  rw [qlift_bind (σ := σ)]
  exact r_callS cx hM hy hs hlink hd hst hn hrest hR hf (fun r σ1 h => by rw [(qlift_some h).2]; exact kk r)
theorem r_cSv {ix np nL' : Nat} {y : MethodName} {cc' : ByteArray} {ret' : Option FieldType} {rm : Room} {F' : Option (Int × qSt)} {As : List Value}  {f : Int × qSt → Option Y} (cx : qCx p s m meth c cc nL own ret g z0) (hM : qCT l y cc' nL' ret' rm g z0 w As σ F' qrv) (hy : qM y cc' nL' ret' np) (hs : qMs y) (hlink : Cond.methodLink own ix y ∈ lw_tbl) (hd : decode cc pc = .ok (.invokestatic ix, 3)) (hst : st = As.reverse ++ rest) (hn : As.length = np) (hrest : (rest.map fun v => v.category).sum ≤ 8) (hR : rm.frames + 1 ≤ R.frames ∧ 8 + (nL' + 11) + rm.locals ≤ R.locals) (hf : k + rm.cells ≤ R.cells ∧ n + rm.slots ≤ R.slots) (kk : ∀ r σ1, qS p l e R s m args below meth c nL g z0 w (k + rm.cells) (n + rm.slots) Q (f (r, σ1)) σ1 (pc + 3) lo rest) : qS p l e R s m args below meth c nL g z0 w k n Q (F'.bind f) σ pc lo st :=
  r_callS cx hM hy hs hlink hd hst hn hrest hR hf (fun r σ1 _ => kk r σ1)
theorem r_pSv {ix np nL' : Nat} {y : MethodName} {cc' : ByteArray} {ret' : Option FieldType} {rm : Room} {F' : Option Int} {As : List Value}  {f : Int → Option Y} (cx : qCx p s m meth c cc nL own ret g z0) (hM : qCT l y cc' nL' ret' rm g z0 w As σ (qlift F' σ) qrv) (hy : qM y cc' nL' ret' np) (hs : qMs y) (hlink : Cond.methodLink own ix y ∈ lw_tbl) (hd : decode cc pc = .ok (.invokestatic ix, 3)) (hst : st = As.reverse ++ rest) (hn : As.length = np) (hrest : (rest.map fun v => v.category).sum ≤ 8) (hR : rm.frames + 1 ≤ R.frames ∧ 8 + (nL' + 11) + rm.locals ≤ R.locals) (hf : k + rm.cells ≤ R.cells ∧ n + rm.slots ≤ R.slots) (kk : ∀ r, qS p l e R s m args below meth c nL g z0 w (k + rm.cells) (n + rm.slots) Q (f r) σ (pc + 3) lo rest) : qS p l e R s m args below meth c nL g z0 w k n Q (F'.bind f) σ pc lo st := by
  rw [qlift_bind (σ := σ)]
  exact r_callS cx hM hy hs hlink hd hst hn hrest hR hf (fun r σ1 h => by rw [(qlift_some h).2]; exact kk r)
theorem r_cVNi {ix np nL' : Nat} {y : MethodName} {cc' : ByteArray} {ret' : Option FieldType} {rm : Room} {F' : Option (Int × qSt)} {As : List Value} {C : String} {T : u_T} {N ci k0 b : Nat} {fl : (Int → Int) → List Value} {host : String} {f : Int × qSt → Option Y} (cx : qCx p s m meth c cc nL own ret g z0) (hM : qCT l y cc' nL' ret' rm g z0 w (.ref b :: As) σ F' qri) (hy : qM y cc' nL' ret' np) (hv : qMv C y) (hcl : qCl[ci]? = some (C, T, N)) (hw : w k0 = some (b, qOb ci fl)) (hlink : Cond.methodLinkNest own ix y host ∈ lw_tbl) (hd : decode cc pc = .ok (.invokevirtual ix, 3)) (hst : st = As.reverse ++ .ref b :: rest) (hn : As.length = np) (hrest : (rest.map fun v => v.category).sum ≤ 8) (hR : rm.frames + 1 ≤ R.frames ∧ 8 + (nL' + 11) + rm.locals ≤ R.locals) (hf : k + rm.cells ≤ R.cells ∧ n + rm.slots ≤ R.slots) (kk : ∀ r σ1, qS p l e R s m args below meth c nL g z0 w (k + rm.cells) (n + rm.slots) Q (f (r, σ1)) σ1 (pc + 3) lo (.int (qI r) :: rest)) : qS p l e R s m args below meth c nL g z0 w k n Q (F'.bind f) σ pc lo st :=
  r_callVN cx hM hy hv hcl hw hlink hd hst hn hrest hR hf (fun r σ1 _ => kk r σ1)
theorem r_pVNi {ix np nL' : Nat} {y : MethodName} {cc' : ByteArray} {ret' : Option FieldType} {rm : Room} {F' : Option Int} {As : List Value} {C : String} {T : u_T} {N ci k0 b : Nat} {fl : (Int → Int) → List Value} {host : String} {f : Int → Option Y} (cx : qCx p s m meth c cc nL own ret g z0) (hM : qCT l y cc' nL' ret' rm g z0 w (.ref b :: As) σ (qlift F' σ) qri) (hy : qM y cc' nL' ret' np) (hv : qMv C y) (hcl : qCl[ci]? = some (C, T, N)) (hw : w k0 = some (b, qOb ci fl)) (hlink : Cond.methodLinkNest own ix y host ∈ lw_tbl) (hd : decode cc pc = .ok (.invokevirtual ix, 3)) (hst : st = As.reverse ++ .ref b :: rest) (hn : As.length = np) (hrest : (rest.map fun v => v.category).sum ≤ 8) (hR : rm.frames + 1 ≤ R.frames ∧ 8 + (nL' + 11) + rm.locals ≤ R.locals) (hf : k + rm.cells ≤ R.cells ∧ n + rm.slots ≤ R.slots) (kk : ∀ r, qS p l e R s m args below meth c nL g z0 w (k + rm.cells) (n + rm.slots) Q (f r) σ (pc + 3) lo (.int (qI r) :: rest)) : qS p l e R s m args below meth c nL g z0 w k n Q (F'.bind f) σ pc lo st := by
  rw [qlift_bind (σ := σ)]
  exact r_callVN cx hM hy hv hcl hw hlink hd hst hn hrest hR hf (fun r σ1 h => by rw [(qlift_some h).2]; exact kk r)
theorem r_cVNj {ix np nL' : Nat} {y : MethodName} {cc' : ByteArray} {ret' : Option FieldType} {rm : Room} {F' : Option (Int × qSt)} {As : List Value} {C : String} {T : u_T} {N ci k0 b : Nat} {fl : (Int → Int) → List Value} {host : String} {f : Int × qSt → Option Y} (cx : qCx p s m meth c cc nL own ret g z0) (hM : qCT l y cc' nL' ret' rm g z0 w (.ref b :: As) σ F' qrj) (hy : qM y cc' nL' ret' np) (hv : qMv C y) (hcl : qCl[ci]? = some (C, T, N)) (hw : w k0 = some (b, qOb ci fl)) (hlink : Cond.methodLinkNest own ix y host ∈ lw_tbl) (hd : decode cc pc = .ok (.invokevirtual ix, 3)) (hst : st = As.reverse ++ .ref b :: rest) (hn : As.length = np) (hrest : (rest.map fun v => v.category).sum ≤ 8) (hR : rm.frames + 1 ≤ R.frames ∧ 8 + (nL' + 11) + rm.locals ≤ R.locals) (hf : k + rm.cells ≤ R.cells ∧ n + rm.slots ≤ R.slots) (kk : ∀ r σ1, qS p l e R s m args below meth c nL g z0 w (k + rm.cells) (n + rm.slots) Q (f (r, σ1)) σ1 (pc + 3) lo (.long (qJ r) :: rest)) : qS p l e R s m args below meth c nL g z0 w k n Q (F'.bind f) σ pc lo st :=
  r_callVN cx hM hy hv hcl hw hlink hd hst hn hrest hR hf (fun r σ1 _ => kk r σ1)
theorem r_pVNj {ix np nL' : Nat} {y : MethodName} {cc' : ByteArray} {ret' : Option FieldType} {rm : Room} {F' : Option Int} {As : List Value} {C : String} {T : u_T} {N ci k0 b : Nat} {fl : (Int → Int) → List Value} {host : String} {f : Int → Option Y} (cx : qCx p s m meth c cc nL own ret g z0) (hM : qCT l y cc' nL' ret' rm g z0 w (.ref b :: As) σ (qlift F' σ) qrj) (hy : qM y cc' nL' ret' np) (hv : qMv C y) (hcl : qCl[ci]? = some (C, T, N)) (hw : w k0 = some (b, qOb ci fl)) (hlink : Cond.methodLinkNest own ix y host ∈ lw_tbl) (hd : decode cc pc = .ok (.invokevirtual ix, 3)) (hst : st = As.reverse ++ .ref b :: rest) (hn : As.length = np) (hrest : (rest.map fun v => v.category).sum ≤ 8) (hR : rm.frames + 1 ≤ R.frames ∧ 8 + (nL' + 11) + rm.locals ≤ R.locals) (hf : k + rm.cells ≤ R.cells ∧ n + rm.slots ≤ R.slots) (kk : ∀ r, qS p l e R s m args below meth c nL g z0 w (k + rm.cells) (n + rm.slots) Q (f r) σ (pc + 3) lo (.long (qJ r) :: rest)) : qS p l e R s m args below meth c nL g z0 w k n Q (F'.bind f) σ pc lo st := by
  rw [qlift_bind (σ := σ)]
  exact r_callVN cx hM hy hv hcl hw hlink hd hst hn hrest hR hf (fun r σ1 h => by rw [(qlift_some h).2]; exact kk r)
theorem r_cVNv {ix np nL' : Nat} {y : MethodName} {cc' : ByteArray} {ret' : Option FieldType} {rm : Room} {F' : Option (Int × qSt)} {As : List Value} {C : String} {T : u_T} {N ci k0 b : Nat} {fl : (Int → Int) → List Value} {host : String} {f : Int × qSt → Option Y} (cx : qCx p s m meth c cc nL own ret g z0) (hM : qCT l y cc' nL' ret' rm g z0 w (.ref b :: As) σ F' qrv) (hy : qM y cc' nL' ret' np) (hv : qMv C y) (hcl : qCl[ci]? = some (C, T, N)) (hw : w k0 = some (b, qOb ci fl)) (hlink : Cond.methodLinkNest own ix y host ∈ lw_tbl) (hd : decode cc pc = .ok (.invokevirtual ix, 3)) (hst : st = As.reverse ++ .ref b :: rest) (hn : As.length = np) (hrest : (rest.map fun v => v.category).sum ≤ 8) (hR : rm.frames + 1 ≤ R.frames ∧ 8 + (nL' + 11) + rm.locals ≤ R.locals) (hf : k + rm.cells ≤ R.cells ∧ n + rm.slots ≤ R.slots) (kk : ∀ r σ1, qS p l e R s m args below meth c nL g z0 w (k + rm.cells) (n + rm.slots) Q (f (r, σ1)) σ1 (pc + 3) lo rest) : qS p l e R s m args below meth c nL g z0 w k n Q (F'.bind f) σ pc lo st :=
  r_callVN cx hM hy hv hcl hw hlink hd hst hn hrest hR hf (fun r σ1 _ => kk r σ1)
theorem r_pVNv {ix np nL' : Nat} {y : MethodName} {cc' : ByteArray} {ret' : Option FieldType} {rm : Room} {F' : Option Int} {As : List Value} {C : String} {T : u_T} {N ci k0 b : Nat} {fl : (Int → Int) → List Value} {host : String} {f : Int → Option Y} (cx : qCx p s m meth c cc nL own ret g z0) (hM : qCT l y cc' nL' ret' rm g z0 w (.ref b :: As) σ (qlift F' σ) qrv) (hy : qM y cc' nL' ret' np) (hv : qMv C y) (hcl : qCl[ci]? = some (C, T, N)) (hw : w k0 = some (b, qOb ci fl)) (hlink : Cond.methodLinkNest own ix y host ∈ lw_tbl) (hd : decode cc pc = .ok (.invokevirtual ix, 3)) (hst : st = As.reverse ++ .ref b :: rest) (hn : As.length = np) (hrest : (rest.map fun v => v.category).sum ≤ 8) (hR : rm.frames + 1 ≤ R.frames ∧ 8 + (nL' + 11) + rm.locals ≤ R.locals) (hf : k + rm.cells ≤ R.cells ∧ n + rm.slots ≤ R.slots) (kk : ∀ r, qS p l e R s m args below meth c nL g z0 w (k + rm.cells) (n + rm.slots) Q (f r) σ (pc + 3) lo rest) : qS p l e R s m args below meth c nL g z0 w k n Q (F'.bind f) σ pc lo st := by
  rw [qlift_bind (σ := σ)]
  exact r_callVN cx hM hy hv hcl hw hlink hd hst hn hrest hR hf (fun r σ1 h => by rw [(qlift_some h).2]; exact kk r)
theorem r_cSNi {ix np nL' : Nat} {y : MethodName} {cc' : ByteArray} {ret' : Option FieldType} {rm : Room} {F' : Option (Int × qSt)} {As : List Value} {host : String} {f : Int × qSt → Option Y} (cx : qCx p s m meth c cc nL own ret g z0) (hM : qCT l y cc' nL' ret' rm g z0 w As σ F' qri) (hy : qM y cc' nL' ret' np) (hs : qMs y) (hlink : Cond.methodLinkNest own ix y host ∈ lw_tbl) (hd : decode cc pc = .ok (.invokestatic ix, 3)) (hst : st = As.reverse ++ rest) (hn : As.length = np) (hrest : (rest.map fun v => v.category).sum ≤ 8) (hR : rm.frames + 1 ≤ R.frames ∧ 8 + (nL' + 11) + rm.locals ≤ R.locals) (hf : k + rm.cells ≤ R.cells ∧ n + rm.slots ≤ R.slots) (kk : ∀ r σ1, qS p l e R s m args below meth c nL g z0 w (k + rm.cells) (n + rm.slots) Q (f (r, σ1)) σ1 (pc + 3) lo (.int (qI r) :: rest)) : qS p l e R s m args below meth c nL g z0 w k n Q (F'.bind f) σ pc lo st :=
  r_callSN cx hM hy hs hlink hd hst hn hrest hR hf (fun r σ1 _ => kk r σ1)
theorem r_pSNi {ix np nL' : Nat} {y : MethodName} {cc' : ByteArray} {ret' : Option FieldType} {rm : Room} {F' : Option Int} {As : List Value} {host : String} {f : Int → Option Y} (cx : qCx p s m meth c cc nL own ret g z0) (hM : qCT l y cc' nL' ret' rm g z0 w As σ (qlift F' σ) qri) (hy : qM y cc' nL' ret' np) (hs : qMs y) (hlink : Cond.methodLinkNest own ix y host ∈ lw_tbl) (hd : decode cc pc = .ok (.invokestatic ix, 3)) (hst : st = As.reverse ++ rest) (hn : As.length = np) (hrest : (rest.map fun v => v.category).sum ≤ 8) (hR : rm.frames + 1 ≤ R.frames ∧ 8 + (nL' + 11) + rm.locals ≤ R.locals) (hf : k + rm.cells ≤ R.cells ∧ n + rm.slots ≤ R.slots) (kk : ∀ r, qS p l e R s m args below meth c nL g z0 w (k + rm.cells) (n + rm.slots) Q (f r) σ (pc + 3) lo (.int (qI r) :: rest)) : qS p l e R s m args below meth c nL g z0 w k n Q (F'.bind f) σ pc lo st := by
  rw [qlift_bind (σ := σ)]
  exact r_callSN cx hM hy hs hlink hd hst hn hrest hR hf (fun r σ1 h => by rw [(qlift_some h).2]; exact kk r)
theorem r_cSNj {ix np nL' : Nat} {y : MethodName} {cc' : ByteArray} {ret' : Option FieldType} {rm : Room} {F' : Option (Int × qSt)} {As : List Value} {host : String} {f : Int × qSt → Option Y} (cx : qCx p s m meth c cc nL own ret g z0) (hM : qCT l y cc' nL' ret' rm g z0 w As σ F' qrj) (hy : qM y cc' nL' ret' np) (hs : qMs y) (hlink : Cond.methodLinkNest own ix y host ∈ lw_tbl) (hd : decode cc pc = .ok (.invokestatic ix, 3)) (hst : st = As.reverse ++ rest) (hn : As.length = np) (hrest : (rest.map fun v => v.category).sum ≤ 8) (hR : rm.frames + 1 ≤ R.frames ∧ 8 + (nL' + 11) + rm.locals ≤ R.locals) (hf : k + rm.cells ≤ R.cells ∧ n + rm.slots ≤ R.slots) (kk : ∀ r σ1, qS p l e R s m args below meth c nL g z0 w (k + rm.cells) (n + rm.slots) Q (f (r, σ1)) σ1 (pc + 3) lo (.long (qJ r) :: rest)) : qS p l e R s m args below meth c nL g z0 w k n Q (F'.bind f) σ pc lo st :=
  r_callSN cx hM hy hs hlink hd hst hn hrest hR hf (fun r σ1 _ => kk r σ1)
theorem r_pSNj {ix np nL' : Nat} {y : MethodName} {cc' : ByteArray} {ret' : Option FieldType} {rm : Room} {F' : Option Int} {As : List Value} {host : String} {f : Int → Option Y} (cx : qCx p s m meth c cc nL own ret g z0) (hM : qCT l y cc' nL' ret' rm g z0 w As σ (qlift F' σ) qrj) (hy : qM y cc' nL' ret' np) (hs : qMs y) (hlink : Cond.methodLinkNest own ix y host ∈ lw_tbl) (hd : decode cc pc = .ok (.invokestatic ix, 3)) (hst : st = As.reverse ++ rest) (hn : As.length = np) (hrest : (rest.map fun v => v.category).sum ≤ 8) (hR : rm.frames + 1 ≤ R.frames ∧ 8 + (nL' + 11) + rm.locals ≤ R.locals) (hf : k + rm.cells ≤ R.cells ∧ n + rm.slots ≤ R.slots) (kk : ∀ r, qS p l e R s m args below meth c nL g z0 w (k + rm.cells) (n + rm.slots) Q (f r) σ (pc + 3) lo (.long (qJ r) :: rest)) : qS p l e R s m args below meth c nL g z0 w k n Q (F'.bind f) σ pc lo st := by
  rw [qlift_bind (σ := σ)]
  exact r_callSN cx hM hy hs hlink hd hst hn hrest hR hf (fun r σ1 h => by rw [(qlift_some h).2]; exact kk r)
theorem r_cSNv {ix np nL' : Nat} {y : MethodName} {cc' : ByteArray} {ret' : Option FieldType} {rm : Room} {F' : Option (Int × qSt)} {As : List Value} {host : String} {f : Int × qSt → Option Y} (cx : qCx p s m meth c cc nL own ret g z0) (hM : qCT l y cc' nL' ret' rm g z0 w As σ F' qrv) (hy : qM y cc' nL' ret' np) (hs : qMs y) (hlink : Cond.methodLinkNest own ix y host ∈ lw_tbl) (hd : decode cc pc = .ok (.invokestatic ix, 3)) (hst : st = As.reverse ++ rest) (hn : As.length = np) (hrest : (rest.map fun v => v.category).sum ≤ 8) (hR : rm.frames + 1 ≤ R.frames ∧ 8 + (nL' + 11) + rm.locals ≤ R.locals) (hf : k + rm.cells ≤ R.cells ∧ n + rm.slots ≤ R.slots) (kk : ∀ r σ1, qS p l e R s m args below meth c nL g z0 w (k + rm.cells) (n + rm.slots) Q (f (r, σ1)) σ1 (pc + 3) lo rest) : qS p l e R s m args below meth c nL g z0 w k n Q (F'.bind f) σ pc lo st :=
  r_callSN cx hM hy hs hlink hd hst hn hrest hR hf (fun r σ1 _ => kk r σ1)
theorem r_pSNv {ix np nL' : Nat} {y : MethodName} {cc' : ByteArray} {ret' : Option FieldType} {rm : Room} {F' : Option Int} {As : List Value} {host : String} {f : Int → Option Y} (cx : qCx p s m meth c cc nL own ret g z0) (hM : qCT l y cc' nL' ret' rm g z0 w As σ (qlift F' σ) qrv) (hy : qM y cc' nL' ret' np) (hs : qMs y) (hlink : Cond.methodLinkNest own ix y host ∈ lw_tbl) (hd : decode cc pc = .ok (.invokestatic ix, 3)) (hst : st = As.reverse ++ rest) (hn : As.length = np) (hrest : (rest.map fun v => v.category).sum ≤ 8) (hR : rm.frames + 1 ≤ R.frames ∧ 8 + (nL' + 11) + rm.locals ≤ R.locals) (hf : k + rm.cells ≤ R.cells ∧ n + rm.slots ≤ R.slots) (kk : ∀ r, qS p l e R s m args below meth c nL g z0 w (k + rm.cells) (n + rm.slots) Q (f r) σ (pc + 3) lo rest) : qS p l e R s m args below meth c nL g z0 w k n Q (F'.bind f) σ pc lo st := by
  rw [qlift_bind (σ := σ)]
  exact r_callSN cx hM hy hs hlink hd hst hn hrest hR hf (fun r σ1 h => by rw [(qlift_some h).2]; exact kk r)
theorem r_ireturn {r : Int} {w0 : qWd} {y : Y} (hw : ∀ j x, w0 j = some x → w j = some x) (hk : k ≤ mc) (hn : n ≤ ms) {rt : FieldType} (cx : qCx p s m meth c cc nL own (some .int) g z0) (hd : decode cc pc = .ok (.ireturn, 1)) (hQ : Q y = qQ below g z0 w0 qri args s mc ms (r, σ)) : qS p l e R s m args below meth c nL g z0 w k n Q (some y) σ pc lo [.int (qI r)] := by
  intro u hu H locs ls hH hS hV
  cases hu
  rw [hQ]
  refine W.widen hk hn ?_
  exact W.iret cx.1 cx.2.1 cx.2.2.2.2.2.1 (fun t ht hW => ⟨⟨rfl, by rw [ht]; exact hH.sub hw⟩, hS.F ht⟩) hS.2.2 hd cx.2.2.2.2.2.2
theorem r_zreturn {r : Int} {w0 : qWd} {y : Y} (hw : ∀ j x, w0 j = some x → w j = some x) (hk : k ≤ mc) (hn : n ≤ ms) {rt : FieldType} (cx : qCx p s m meth c cc nL own (some rt) g z0) (hnar : narrow rt (.int (qI r)) = .int (qI r)) (hd : decode cc pc = .ok (.ireturn, 1)) (hQ : Q y = qQ below g z0 w0 qri args s mc ms (r, σ)) : qS p l e R s m args below meth c nL g z0 w k n Q (some y) σ pc lo [.int (qI r)] := by
  intro u hu H locs ls hH hS hV
  cases hu
  rw [hQ]
  refine W.widen hk hn ?_
  exact W.zret (v := qI r) cx.1 cx.2.1 cx.2.2.2.2.2.1 hnar (fun t ht hW => ⟨⟨rfl, by rw [ht]; exact hH.sub hw⟩, hS.F ht⟩) hS.2.2 hd cx.2.2.2.2.2.2
theorem r_lreturn {r : Int} {w0 : qWd} {y : Y} (hw : ∀ j x, w0 j = some x → w j = some x) (hk : k ≤ mc) (hn : n ≤ ms) {rt : FieldType} (cx : qCx p s m meth c cc nL own (some .long) g z0) (hd : decode cc pc = .ok (.lreturn, 1)) (hQ : Q y = qQ below g z0 w0 qrj args s mc ms (r, σ)) : qS p l e R s m args below meth c nL g z0 w k n Q (some y) σ pc lo [.long (qJ r)] := by
  intro u hu H locs ls hH hS hV
  cases hu
  rw [hQ]
  refine W.widen hk hn ?_
  exact W.lret cx.1 cx.2.1 cx.2.2.2.2.2.1 (fun t ht hW => ⟨⟨rfl, by rw [ht]; exact hH.sub hw⟩, hS.F ht⟩) hS.2.2 hd cx.2.2.2.2.2.2
theorem r_return {r : Int} {w0 : qWd} {y : Y} (hw : ∀ j x, w0 j = some x → w j = some x) (hk : k ≤ mc) (hn : n ≤ ms) {rt : FieldType} (cx : qCx p s m meth c cc nL own none g z0) (hd : decode cc pc = .ok (.return_, 1)) (hQ : Q y = qQ below g z0 w0 qrv args s mc ms (r, σ)) : qS p l e R s m args below meth c nL g z0 w k n Q (some y) σ pc lo [] := by
  intro u hu H locs ls hH hS hV
  cases hu
  rw [hQ]
  refine W.widen hk hn ?_
  exact W.vret cx.1 cx.2.1 cx.2.2.2.2.2.1 (fun t ht hW => ⟨⟨rfl, by rw [ht]; exact hH.sub hw⟩, hS.F ht⟩) hS.2.2 hd cx.2.2.2.2.2.2
end CROWS
