/-! ===== methods that throw ===== -/
abbrev qNm : List String := ["java/lang/RuntimeException", "java/lang/Exception"]
def qEn (i : Int) : Option String := if i = 1 then some qE1 else if i = 2 then some qE2 else if i = 3 then some qE3 else none
def qXC (g : qG) (z0 : Nat) (w : qWd) (rk : Int → Option Value) (u : Int × Int × qSt) : Array Value → State → Outcome → State → Prop := fun a st o t => u.1 = 0 ∧ qQc g z0 w rk u.2 a st o t
def qXX (g : qG) (z0 : Nat) (w : qWd) (u : Int × Int × qSt) : String → State → State → Prop := fun E st t => qEn u.1 = some E ∧ qR g z0 w u.2.2 t.heap ∧ va_F (qA z0) st t
def qXT (l : Launch) (y : MethodName) (cc : ByteArray) (nL : Nat) (ret : Option FieldType) (rm : Room) (g : qG) (z0 : Nat) (w : qWd) (av : List Value) (σ : qSt) (F : Option (Int × Int × qSt)) (rk : Int → Option Value) : Prop :=
  ∀ u, F = some u → vx_Met l y [.code y cc nL ret] rm (va_Pc av (qPc g z0 w σ)) (qXC g z0 w rk u) (qXX g z0 w u) rm.cells rm.slots (qA z0)
def qXQ (below : List Frame) (g : qG) (z0 : Nat) (w : qWd) (rk : Int → Option Value) (args : Array Value) (s : State) (mc ms : Nat) (u : Int × Int × qSt) : State → Prop := vx_MQ below (qXC g z0 w rk u) (qXX g z0 w u) args s mc ms (qA z0)
theorem qXT.of {l : Launch} {y : MethodName} {cc : ByteArray} {nL : Nat} {ret : Option FieldType} {rm : Room} {g : qG} {z0 : Nat} {w : qWd} {av : List Value} {σ : qSt} {F : Option (Int × Int × qSt)} {rk : Int → Option Value} (lo : qLo) (hy : plainName y.cls = true) (hn : (lg_sl av).length ≤ nL) (hlo : qlist (lv_args 0 av) = lo)
    (body : ∀ p e s m args below meth c, qCx p s m meth c cc nL y.cls ret g z0 → (∀ x, x ∈ c.exceptionTable.toList → False) → qS p l e rm s m args below meth c nL g z0 w 0 0 (qXQ below g z0 w rk args s rm.cells rm.slots) F σ 0 lo []) : qXT l y cc nL ret rm g z0 w av σ F rk := by
  intro u hu
  refine vx_ofW (cc := cc) (maxL := nL) (ret := ret) hy rfl ?_
  intro p e s m args below meth c s₁ B hml htab hv
  obtain ⟨rfl, hR, hK⟩ := hv
  subst hlo
  rw [lg_entry_eq]
  exact body p e s m _ below meth c ⟨B.exec, B.bytes, hml, findClass_of_methodNamed B.named, hK, B.returns, B.notSynchronized⟩ htab u hu s.heap [] _ hR va_S.rf (qV.entry av hn)
/-- facts of a throw of one class from one class -/
def qTh (own cls : String) (ik ic : Nat) : Prop := Cond.classLink own ik cls ∈ lw_tbl ∧ Cond.initialized cls ∈ lw_tbl ∧ (∀ x, x ∈ vx_at0 own ic cls qNm → x ∈ lw_tbl) ∧ (∀ x, x ∈ vx_at0 own ic cls qNm → (goodWord x || qNest x) = true) ∧ Bundle.fit cls = true ∧ (∀ x, x ∈ Cond.classLink own ik cls :: Cond.initialized cls :: vx_at0 own ic cls qNm → vx_ot x = true)
theorem qTW.any {s : State} (h : qTW s) {x : Cond} {args : Array Value} (hx : x ∈ lw_tbl) (g : (goodWord x || qNest x) = true) : x.before args s = true := by
  rcases Bool.or_eq_true_iff.mp g with g1 | g1
  · exact h.word hx g1
  · have h1 := h x hx g
    cases x <;> first | (exact va_Nw.use rfl h1) | (exact h1) | (exact absurd g1 Bool.false_ne_true)
section XROWS
variable {Y : Type} {p : Program} {l : Launch} {e : Env} {R : Room} {s : State} {m : MethodId} {args : Array Value} {below : List Frame} {meth : Method} {c : Code}
variable {cc : ByteArray} {nL : Nat} {own : String} {ret : Option FieldType} {g : qG} {z0 : Nat} {w w0 : qWd} {k n : Nat} {Q : Int × Int × qSt → State → Prop} {σ : qSt} {pc : Nat} {lo : qLo} {st rest : List Value} {mc ms : Nat} {rk : Int → Option Value} {r : Int}
theorem r_throw (cx : qCx p s m meth c cc nL own ret g z0) {cls : String} {ik ic : Nat} {v : Int} (hl : l.stackTraces = false) (htab : ∀ x, x ∈ c.exceptionTable.toList → False) (ht : qTh own cls ik ic) (hE : qEn v = some cls) (hw : ∀ j x, w0 j = some x → w j = some x) (hk : k + 1 ≤ mc) (hn : n + 6 ≤ ms) (hR1 : 5 < R.frames) (hR2 : (rest.map fun v => v.category).sum + 81 ≤ R.locals) (hR3 : k + 1 ≤ R.cells) (hR4 : n + 6 ≤ R.slots)
    (d0 : decode cc pc = .ok (.new ik, 3)) (d3 : decode cc (pc + 3) = .ok (.dup, 1)) (d4 : decode cc (pc + 4) = .ok (.invokespecial ic, 3)) (d7 : decode cc (pc + 7) = .ok (.athrow, 1)) (hQ : Q (v, r, σ) = qXQ below g z0 w0 rk args s mc ms (v, r, σ)) : qS p l e R s m args below meth c nL g z0 w k n Q (some (v, r, σ)) σ pc lo rest := by
  intro u hu H locs ls hH hS hV
  cases hu
  rw [hQ]
  have htw := cx.2.2.2.2.1.2.1
  obtain ⟨t1, t2, t3, t4, t5, t6⟩ := ht
  refine vx_throw0 (names := qNm) (A := qA z0) cx.1 cx.2.1 hl cx.2.2.2.1 t5 (by decide +kernel) (htw.word t1 rfl) (htw.word t2 rfl) (fun x hx => htw.any (t3 x hx) (t4 x hx)) t6 cx.2.2.2.2.1.2.2.1 cx.2.2.2.2.1.2.2.2.1 hS (by rw [hV.1]; exact cx.2.2.1.symm) d0 d3 d4 d7 (fun x hx => absurd (htab x hx) not_false) hR1 hR2 hR3 hR4 cx.2.2.2.2.2.2 ?_ hS.2.2 hk hn
  intro t hvm hz hq
  refine ⟨hE, (hH.kept (fun k a f hk => hq a (hH.lt hk))).sub hw, ⟨Nat.le_trans hS.1 hz, fun q h1 h2 => ?_⟩⟩
  rw [hq q (Nat.lt_of_lt_of_le h1 hS.1)]
  exact hS.2.1 q h1 h2
theorem r_xireturn (hw : ∀ j x, w0 j = some x → w j = some x) (hk : k ≤ mc) (hn : n ≤ ms) (cx : qCx p s m meth c cc nL own (some .int) g z0) (hd : decode cc pc = .ok (.ireturn, 1)) (hQ : Q (0, r, σ) = qXQ below g z0 w0 qri args s mc ms (0, r, σ)) : qS p l e R s m args below meth c nL g z0 w k n Q (some (0, r, σ)) σ pc lo [.int (qI r)] := by
  intro u hu H locs ls hH hS hV
  cases hu
  rw [hQ]
  refine W.widen hk hn (vx_ret ?_)
  exact W.iret cx.1 cx.2.1 cx.2.2.2.2.2.1 (fun t ht hW => ⟨rfl, ⟨rfl, by rw [ht]; exact hH.sub hw⟩, hS.F ht⟩) hS.2.2 hd cx.2.2.2.2.2.2
theorem r_xlreturn (hw : ∀ j x, w0 j = some x → w j = some x) (hk : k ≤ mc) (hn : n ≤ ms) (cx : qCx p s m meth c cc nL own (some .long) g z0) (hd : decode cc pc = .ok (.lreturn, 1)) (hQ : Q (0, r, σ) = qXQ below g z0 w0 qrj args s mc ms (0, r, σ)) : qS p l e R s m args below meth c nL g z0 w k n Q (some (0, r, σ)) σ pc lo [.long (qJ r)] := by
  intro u hu H locs ls hH hS hV
  cases hu
  rw [hQ]
  refine W.widen hk hn (vx_ret ?_)
  exact W.lret cx.1 cx.2.1 cx.2.2.2.2.2.1 (fun t ht hW => ⟨rfl, ⟨rfl, by rw [ht]; exact hH.sub hw⟩, hS.F ht⟩) hS.2.2 hd cx.2.2.2.2.2.2
theorem r_xreturn (hw : ∀ j x, w0 j = some x → w j = some x) (hk : k ≤ mc) (hn : n ≤ ms) (cx : qCx p s m meth c cc nL own none g z0) (hd : decode cc pc = .ok (.return_, 1)) (hQ : Q (0, r, σ) = qXQ below g z0 w0 qrv args s mc ms (0, r, σ)) : qS p l e R s m args below meth c nL g z0 w k n Q (some (0, r, σ)) σ pc lo [] := by
  intro u hu H locs ls hH hS hV
  cases hu
  rw [hQ]
  refine W.widen hk hn (vx_ret ?_)
  exact W.vret cx.1 cx.2.1 cx.2.2.2.2.2.1 (fun t ht hW => ⟨rfl, ⟨rfl, by rw [ht]; exact hH.sub hw⟩, hS.F ht⟩) hS.2.2 hd cx.2.2.2.2.2.2
theorem r_xfreturn {x : UInt32} (hw : ∀ j x, w0 j = some x → w j = some x) (hk : k ≤ mc) (hn : n ≤ ms) (cx : qCx p s m meth c cc nL own (some .float) g z0) (hd : decode cc pc = .ok (.freturn, 1)) (hQ : Q (0, (x.toNat : Int), σ) = qXQ below g z0 w0 qrf args s mc ms (0, (x.toNat : Int), σ)) : qS p l e R s m args below meth c nL g z0 w k n Q (some (0, (x.toNat : Int), σ)) σ pc lo [.float x] := by
  intro u hu H locs ls hH hS hV
  cases hu
  rw [hQ]
  refine W.widen hk hn (vx_ret ?_)
  exact W.fret cx.1 cx.2.1 cx.2.2.2.2.2.1 (fun t ht hW => ⟨rfl, ⟨by unfold qrf; rw [Int.toNat_natCast, UInt32.ofNat_toNat], by rw [ht]; exact hH.sub hw⟩, hS.F ht⟩) hS.2.2 hd cx.2.2.2.2.2.2
end XROWS
