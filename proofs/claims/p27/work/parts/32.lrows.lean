/-! ===== the law's own rows ===== -/
def qif {Y : Type} (c : Prop) [Decidable c] (F : Option Y) : Option Y := if c then F else none
theorem r_qif {Y : Type} {p : Program} {l : Launch} {e : Env} {R : Room} {s : State} {m : MethodId} {args : Array Value} {below : List Frame} {meth : Method} {c : Code} {nL : Nat} {g : qG} {z0 : Nat} {w : qWd} {k n : Nat} {Q : Y → State → Prop} {F : Option Y} {σ : qSt} {pc : Nat} {lo : qLo} {st : List Value} {C : Prop} {hC : Decidable C} (h : C → qS p l e R s m args below meth c nL g z0 w k n Q F σ pc lo st) : qS p l e R s m args below meth c nL g z0 w k n Q (qif C F) σ pc lo st := by
  unfold qif
  exact qS.ite h (fun _ => qS.fail)
def ql2i (a : Int) : Int := (qJ a).toInt32.toInt
theorem r_l2i {Y : Type} {p : Program} {l : Launch} {e : Env} {R : Room} {s : State} {m : MethodId} {args : Array Value} {below : List Frame} {meth : Method} {c : Code} {cc : ByteArray} {nL : Nat} {own : String} {ret : Option FieldType} {g : qG} {z0 : Nat} {w : qWd} {k n : Nat} {Q : Y → State → Prop} {F : Option Y} {σ : qSt} {pc : Nat} {lo : qLo} {rest : List Value} {a : Int} (cx : qCx p s m meth c cc nL own ret g z0) (hd : decode cc pc = .ok (.l2i, 1)) (kk : qS p l e R s m args below meth c nL g z0 w k n Q F σ (pc + 1) lo (.int (qI (ql2i a)) :: rest)) : qS p l e R s m args below meth c nL g z0 w k n Q F σ pc lo (.long (qJ a) :: rest) :=
  fun y hy H locs ls hH hS hV => lv_l2i cx.1 cx.2.1 hd rfl (by have h := kk y hy H locs ls hH hS hV; unfold ql2i at h; rw [qI_toInt] at h; exact h)
/-- the script, at the law's start -/
def qScr (b L : Nat) (xs : Nat → Int32) (z0 : Nat) (s : State) : Prop := va_X b L xs s s.heap ∧ b < s.heap.size ∧ b < z0 ∧ L ≤ 3584
def qXs (xs : Nat → Int32) (i : Int) : Int := (xs i.toNat).toInt
theorem r_sld {Y : Type} {p : Program} {l : Launch} {e : Env} {R : Room} {s : State} {m : MethodId} {args : Array Value} {below : List Frame} {meth : Method} {c : Code} {cc : ByteArray} {nL : Nat} {own : String} {ret : Option FieldType} {g : qG} {z0 : Nat} {w : qWd} {k n : Nat} {Q : Y → State → Prop} {F : Option Y} {σ : qSt} {pc : Nat} {lo : qLo} {rest : List Value} {b L : Nat} {xs : Nat → Int32} {i : Int} (cx : qCx p s m meth c cc nL own ret g z0) (hX : qScr b L xs z0 s) (hd : decode cc pc = .ok (.iaload, 1)) (kk : qS p l e R s m args below meth c nL g z0 w k n Q F σ (pc + 1) lo (.int (qI (qXs xs i)) :: rest)) : qS p l e R s m args below meth c nL g z0 w k n Q (if 0 ≤ i ∧ i < (L : Int) then F else none) σ pc lo (.int (qI i) :: .ref b :: rest) := by
  intro y hy H locs ls hH hS hV
  obtain ⟨h, hy⟩ := if_get hy
  obtain ⟨h1, h2, h3, h4⟩ := hX
  obtain ⟨e1, e2, e3, e4⟩ := qix h rfl (by omega)
  have hk := kk y hy H locs ls hH hS hV
  have e5 : qI (qXs xs i) = xs i.toNat := by
    unfold qXs
    exact qI_toInt _
  rw [e5, ← e1] at hk
  exact va_sld cx.1 cx.2.1 h1 h2 (Nat.not_le.mpr h3) hS e2 hd hk
theorem r_slen {Y : Type} {p : Program} {l : Launch} {e : Env} {R : Room} {s : State} {m : MethodId} {args : Array Value} {below : List Frame} {meth : Method} {c : Code} {cc : ByteArray} {nL : Nat} {own : String} {ret : Option FieldType} {g : qG} {z0 : Nat} {w : qWd} {k n : Nat} {Q : Y → State → Prop} {F : Option Y} {σ : qSt} {pc : Nat} {lo : qLo} {rest : List Value} {b L : Nat} {xs : Nat → Int32} (cx : qCx p s m meth c cc nL own ret g z0) (hX : qScr b L xs z0 s) (hd : decode cc pc = .ok (.arraylength, 1)) (kk : qS p l e R s m args below meth c nL g z0 w k n Q F σ (pc + 1) lo (.int (qI (L : Int)) :: rest)) : qS p l e R s m args below meth c nL g z0 w k n Q F σ pc lo (.ref b :: rest) := by
  intro y hy H locs ls hH hS hV
  obtain ⟨h1, h2, h3, h4⟩ := hX
  refine va_slen cx.1 cx.2.1 h1 h2 (Nat.not_le.mpr h3) hS hd ?_
  have hk := kk y hy H locs ls hH hS hV
  rw [show Int32.ofNat L = qI (L : Int) from (Int32.ofInt_eq_ofNat (n := L)).symm]
  exact hk
theorem r_wj {Y : Type} {p : Program} {l : Launch} {e : Env} {R : Room} {s : State} {m : MethodId} {args : Array Value} {below : List Frame} {meth : Method} {c : Code} {cc : ByteArray} {nL : Nat} {own : String} {ret : Option FieldType} {g : qG} {z0 : Nat} {w : qWd} {k : Nat} {Q : Y → State → Prop} {σ : qSt} {pc : Nat} {lo : qLo} {st rest : List Value} {ix np nL' nb mc Mx : Nat} {y : MethodName} {cc' : ByteArray} {ret' : Option FieldType} {hh : List (Nat × Nat × Nat × Nat)} {rm : Room} {F' : Option (Int × qSt)} {As : List Value} {f : Int → qSt → Option Y} (cx : qCx p s m meth c cc nL own ret g z0) (hM : qCTH l y cc' nL' ret' hh rm g z0 w As σ F' qrj) (hy : qMH y cc' nL' ret' hh np) (hlink : Cond.methodLink own ix y ∈ lw_tbl) (hd : decode cc pc = .ok (.invokestatic ix, 3)) (hst : st = As.reverse ++ rest) (hn : As.length = np) (hrest : (rest.map fun v => v.category).sum ≤ 8) (hR : rm.frames + 1 ≤ R.frames ∧ 8 + (nL' + 11) + rm.locals ≤ R.locals) (hmc : rm.cells ≤ mc ∧ rm.slots ≤ 6 * mc) (hX : Mx ≤ R.cells ∧ nb + 6 * Mx ≤ R.slots) (hk : k + mc ≤ Mx) (kk : ∀ r σ1, qS p l e R s m args below meth c nL g z0 w (k + mc) (nb + 6 * (k + mc)) Q (f r σ1) σ1 (pc + 3) lo (.long (qJ r) :: rest)) : qS p l e R s m args below meth c nL g z0 w k (nb + 6 * k) Q (qbd F' f) σ pc lo st := by
  intro u hu H locs ls hH hS hV
  cases hF : F' with
  | none => rw [hF] at hu; cases hu
  | some x =>
    obtain ⟨r, σ1⟩ := x
    rw [hF] at hu
    subst hst
    have htw := cx.2.2.2.2.1.2.1
    obtain ⟨h1, h2, h3, h4, h5⟩ := hy
    refine qRunS (vx_runSW (Ts := []) (As := As) (rest := rest) ⟨cx.1, cx.2.1, cx.2.2.1, cx.2.2.2.1, fun x hx => by cases hx⟩ (hM _ hF)
      ⟨⟨rfl, rfl, hR.1, hR.2, fun x hx a' U hW => by rw [List.mem_singleton.mp hx]; exact (htw.warm hW).word h1 rfl, List.mem_cons_self⟩, htw.word h1 rfl, htw.word h2 rfl, h3, fun sig h => by rw [h] at h4; exact (Option.some.inj h4).symm, htw.word hlink rfl, htw.word h5 rfl⟩
      (qPreS cx hH hS) rfl hn hV.1 rfl (lv_room hrest) hd ⟨by omega, by omega⟩) hS (fun H1 locs1 a1 a2 => W.widen (by omega) (by omega) (kk r σ1 u hu H1 locs1 ls a1 a2 hV))
theorem r_si {Y : Type} {p : Program} {l : Launch} {e : Env} {R : Room} {s : State} {m : MethodId} {args : Array Value} {below : List Frame} {meth : Method} {c : Code} {cc : ByteArray} {nL : Nat} {own : String} {ret : Option FieldType} {g : qG} {z0 : Nat} {w : qWd} {k : Nat} {Q : Y → State → Prop} {σ : qSt} {pc : Nat} {lo : qLo} {st rest : List Value} {ix np nL' nb mc Mx : Nat} {y : MethodName} {cc' : ByteArray} {ret' : Option FieldType} {rm : Room} {F' : Option (Int × qSt)} {As : List Value} {f : Int → qSt → Option Y} (cx : qCx p s m meth c cc nL own ret g z0) (hM : qCT l y cc' nL' ret' rm g z0 w As σ F' qri) (hy : qM y cc' nL' ret' np) (hs : qMs y) (hlink : Cond.methodLink own ix y ∈ lw_tbl) (hd : decode cc pc = .ok (.invokestatic ix, 3)) (hst : st = As.reverse ++ rest) (hn : As.length = np) (hrest : (rest.map fun v => v.category).sum ≤ 8) (hR : rm.frames + 1 ≤ R.frames ∧ 8 + (nL' + 11) + rm.locals ≤ R.locals) (hmc : rm.cells ≤ mc ∧ rm.slots ≤ 6 * mc) (hX : Mx ≤ R.cells ∧ nb + 6 * Mx ≤ R.slots) (hk : k + mc ≤ Mx) (kk : ∀ r σ1, qS p l e R s m args below meth c nL g z0 w (k + mc) (nb + 6 * (k + mc)) Q (f r σ1) σ1 (pc + 3) lo (.int (qI r) :: rest)) : qS p l e R s m args below meth c nL g z0 w k (nb + 6 * k) Q (qbd F' f) σ pc lo st :=
  r_callS (f := fun u => f u.1 u.2) cx hM hy hs hlink hd hst hn hrest hR ⟨by omega, by omega⟩ (fun r σ1 _ => qS.widen (by omega) (by omega) (kk r σ1))
theorem r_sj {Y : Type} {p : Program} {l : Launch} {e : Env} {R : Room} {s : State} {m : MethodId} {args : Array Value} {below : List Frame} {meth : Method} {c : Code} {cc : ByteArray} {nL : Nat} {own : String} {ret : Option FieldType} {g : qG} {z0 : Nat} {w : qWd} {k : Nat} {Q : Y → State → Prop} {σ : qSt} {pc : Nat} {lo : qLo} {st rest : List Value} {ix np nL' nb mc Mx : Nat} {y : MethodName} {cc' : ByteArray} {ret' : Option FieldType} {rm : Room} {F' : Option (Int × qSt)} {As : List Value} {f : Int → qSt → Option Y} (cx : qCx p s m meth c cc nL own ret g z0) (hM : qCT l y cc' nL' ret' rm g z0 w As σ F' qrj) (hy : qM y cc' nL' ret' np) (hs : qMs y) (hlink : Cond.methodLink own ix y ∈ lw_tbl) (hd : decode cc pc = .ok (.invokestatic ix, 3)) (hst : st = As.reverse ++ rest) (hn : As.length = np) (hrest : (rest.map fun v => v.category).sum ≤ 8) (hR : rm.frames + 1 ≤ R.frames ∧ 8 + (nL' + 11) + rm.locals ≤ R.locals) (hmc : rm.cells ≤ mc ∧ rm.slots ≤ 6 * mc) (hX : Mx ≤ R.cells ∧ nb + 6 * Mx ≤ R.slots) (hk : k + mc ≤ Mx) (kk : ∀ r σ1, qS p l e R s m args below meth c nL g z0 w (k + mc) (nb + 6 * (k + mc)) Q (f r σ1) σ1 (pc + 3) lo (.long (qJ r) :: rest)) : qS p l e R s m args below meth c nL g z0 w k (nb + 6 * k) Q (qbd F' f) σ pc lo st :=
  r_callS (f := fun u => f u.1 u.2) cx hM hy hs hlink hd hst hn hrest hR ⟨by omega, by omega⟩ (fun r σ1 _ => qS.widen (by omega) (by omega) (kk r σ1))
/-- a contract with a premise of its own -/
theorem qCTX.of {P : State → Prop} {l : Launch} {y : MethodName} {cc : ByteArray} {nL : Nat} {ret : Option FieldType} {rm : Room} {g : qG} {z0 : Nat} {w : qWd} {av : List Value} {σ : qSt} {F : Option (Int × qSt)} {rk : Int → Option Value} (lo : qLo) (hy : plainFor y = true) (hn : (lg_sl av).length ≤ nL) (hlo : qlist (lv_args 0 av) = lo)
    (body : ∀ p e s m args below meth c, qCx p s m meth c cc nL y.cls ret g z0 → P s → qS p l e rm s m args below meth c nL g z0 w 0 0 (qQ below g z0 w rk args s rm.cells rm.slots) F σ 0 lo []) : ∀ u, F = some u → Met l y [.code y cc nL ret] rm (va_Pc av (fun U => qPc g z0 w σ U ∧ P U)) (qQc g z0 w rk u) rm.cells rm.slots (qA z0) := by
  intro u hu
  refine MetFree.of_bodySF (code := cc) (maxLocals := nL) (ret := ret) hy ?_ ?_
  · intro args s m h hn
    obtain ⟨meth, c, h1, h2, h3, h4, h5, h6, -, -⟩ := Cond.code_spec hn (atoms_spec (ws := [Cond.code y cc nL ret]) h _ List.mem_cons_self)
    exact ⟨meth, c, h1, h2, h3, h4, h5, h6⟩
  · intro p e s m args below meth c s₁ B hml hP _
    obtain ⟨rfl, ⟨hR, hK⟩, hPs⟩ := hP
    have hh0 : s₁.heap = s.heap := by rw [B.state]; rfl
    subst hlo
    have h1 := body p e s m av.toArray below meth c ⟨B.exec, B.bytes, hml, findClass_of_methodNamed B.named, hK, B.returns, B.notSynchronized⟩ hPs u hu s.heap [] _ hR va_S.rf (qV.entry av hn)
    rw [← lg_entry_eq m av nL] at h1
    obtain ⟨t, a1, o, b1, b2, b3⟩ := h1 s₁ hh0 (Stand.of_body B)
    exact ⟨t, o, a1, b1, b2, ⟨b3.1, b3.2⟩⟩
theorem qScr.calling {b L z0 : Nat} {xs : Nat → Int32} {U : State} {g' : JFrame} {mk : MethodId} {a : Array Value} (h : qScr b L xs z0 U) : qScr b L xs z0 (U.calling g' mk a) :=
  ⟨va_X.moved (U := U.calling g' mk a) (State.WarmedH.refl U).alike h.1, h.2.1, h.2.2⟩
theorem r_draw {Y : Type} {p : Program} {l : Launch} {e : Env} {R : Room} {s : State} {m : MethodId} {args : Array Value} {below : List Frame} {meth : Method} {c : Code} {cc : ByteArray} {nL : Nat} {own : String} {ret : Option FieldType} {g : qG} {z0 : Nat} {w : qWd} {k n : Nat} {Q : Y → State → Prop} {σ : qSt} {pc : Nat} {lo : qLo} {st rest : List Value} {ix np nL' : Nat} {b L : Nat} {xs : Nat → Int32} {y : MethodName} {cc' : ByteArray} {ret' : Option FieldType} {rm : Room} {F' : Option Int} {As : List Value} {f : Int → Option Y} (cx : qCx p s m meth c cc nL own ret g z0) (hXs : qScr b L xs z0 s) (hM : ∀ u, qlift F' σ = some u → Met l y [.code y cc' nL' ret'] rm (va_Pc As (fun U => qPc g z0 w σ U ∧ qScr b L xs z0 U)) (qQc g z0 w qri u) rm.cells rm.slots (qA z0)) (hy : qM y cc' nL' ret' np) (hs : qMs y) (hlink : Cond.methodLink own ix y ∈ lw_tbl) (hd : decode cc pc = .ok (.invokestatic ix, 3)) (hst : st = As.reverse ++ rest) (hn : As.length = np) (hrest : (rest.map fun v => v.category).sum ≤ 8) (hR : rm.frames + 1 ≤ R.frames ∧ 8 + (nL' + 11) + rm.locals ≤ R.locals) (hz : rm.cells = 0 ∧ rm.slots = 0) (hf : k ≤ R.cells ∧ n ≤ R.slots) (kk : ∀ r, qS p l e R s m args below meth c nL g z0 w k n Q (f r) σ (pc + 3) lo (.int (qI r) :: rest)) : qS p l e R s m args below meth c nL g z0 w k n Q (F'.bind f) σ pc lo st := by
  intro u hu H locs ls hH hS hV
  cases hF : F' with
  | none => rw [hF] at hu; cases hu
  | some r =>
    rw [hF] at hu
    subst hst
    refine qRunS (va_runS (Ts := []) (As := As) (rest := rest) ⟨cx.1, cx.2.1, cx.2.2.1, cx.2.2.2.1, fun x hx => by cases hx⟩ (hM (r, σ) (by rw [hF]; rfl)) ⟨qCallB cx hy hlink hR, cx.2.2.2.2.1.2.1.word hs rfl⟩ ⟨fun _ _ _ _ h => ⟨h.1, ⟨h.2.1.1, h.2.1.2.calling⟩, h.2.2.calling⟩, fun U hU hW => ⟨rfl, ⟨by rw [hU]; exact hH, cx.2.2.2.2.1.step hW hU hS⟩, ?_⟩⟩ rfl hn hV.1 rfl (lv_room hrest) hd (by rw [hz.1, hz.2]; exact hf)) hS (fun H1 locs1 h1 h2 => by rw [hz.1, hz.2]; exact kk r u hu H1 locs1 ls h1 h2 hV)
    obtain ⟨x1, x2, x3, x4⟩ := hXs
    refine ⟨?_, ?_, x3, x4⟩
    · rw [hU]
      exact (x1.kept (hS.2.1 b x2 (Nat.not_le.mpr x3))).moved hW.alike
    · rw [hU]
      exact Nat.lt_of_lt_of_le x2 hS.1
def fL_draw (L : Nat) (xs : Nat → Int32) (k : Int) : Option Int :=
  if qI (L : Int) ≤ qI k then some (qand (15595963 * k + 11867) 2147483647) else (if 0 ≤ k ∧ k < (L : Int) then some (qand (qXs xs k) 2147483647) else none)
set_option maxRecDepth 100000 in
set_option maxHeartbeats 4000000 in
theorem tL_draw {l : Launch} {z0 : Nat} {g : qG} {w : qWd} {b L : Nat} {xs : Nat → Int32} (k : Int) (σ : qSt) : ∀ u, qlift (fL_draw L xs k) σ = some u → Met l yL_draw [.code yL_draw cL_draw 2 (some .int)] (qrk 0 0 0) (va_Pc [.ref b, .int (qI k)] (fun U => qPc g z0 w σ U ∧ qScr b L xs z0 U)) (qQc g z0 w qri u) 0 0 (qA z0) := by
  refine qCTX.of (P := qScr b L xs z0) (rm := qrk 0 0 0) [(0, some (.ref b)), (1, some (.int (qI k)))] (by decide +kernel) (Nat.le_of_ble_eq_true rfl) rfl ?_
  intro p e s m args below meth c cx hX
  have key : qlift (fL_draw L xs k) σ = if qI (L : Int) ≤ qI k then some (qand (15595963 * k + 11867) 2147483647, σ) else (if 0 ≤ k ∧ k < (L : Int) then some (qand (qXs xs k) 2147483647, σ) else none) := by
    unfold fL_draw qlift
    split
    · rfl
    · split <;> rfl
  rw [key]
  refine r_iload_n (pc := 0) cx dL_draw_0 rfl ?_
  refine r_aload_n (pc := 1) cx dL_draw_1 rfl ?_
  refine r_slen (pc := 2) cx hX dL_draw_2 ?_
  refine r_icmp_ge (pc := 3) (tgt := 12) cx dL_draw_3 (by decide) ?_ ?_
  · refine r_ldc (pc := 12) (v := 15595963) cx dL_draw_12 wk_L_7 ?_
    refine r_iload_n (pc := 14) cx dL_draw_14 rfl ?_
    refine r_imul (pc := 15) cx dL_draw_15 ?_
    refine r_sipush (pc := 16) (v := 11867) cx dL_draw_16 (by decide +kernel) ?_
    refine r_iadd (pc := 19) cx dL_draw_19 ?_
    refine r_ldc (pc := 20) (v := 2147483647) cx dL_draw_20 wk_L_8 ?_
    refine r_iand (pc := 22) cx dL_draw_22 ?_
    exact r_ireturn (pc := 23) (w0 := w) (mc := 0) (ms := 0) (fun _ _ h => h) (Nat.le_refl _) (Nat.le_refl _) cx dL_draw_23 rfl
  · refine r_aload_n (pc := 6) cx dL_draw_6 rfl ?_
    refine r_iload_n (pc := 7) cx dL_draw_7 rfl ?_
    refine r_sld (pc := 8) cx hX dL_draw_8 ?_
    refine r_goto (pc := 9) (tgt := 20) cx dL_draw_9 (by decide) ?_
    refine r_ldc (pc := 20) (v := 2147483647) cx dL_draw_20 wk_L_8 ?_
    refine r_iand (pc := 22) cx dL_draw_22 ?_
    exact r_ireturn (pc := 23) (w0 := w) (mc := 0) (ms := 0) (fun _ _ h => h) (Nat.le_refl _) (Nat.le_refl _) cx dL_draw_23 rfl
