/-! ===== making objects; constructors ===== -/
theorem qBC.put {g : qG} {ad : Nat → Nat} {w : qWd} (h : qBC g ad w) {k : Nat} (hk : 64 ≤ k) (x : Nat × qLay) : qBC g ad (qWput w k x) := fun j hj => by
  rw [qWput_ne x (by omega)]
  exact h j hj
theorem qWsub {w0 w : qWd} (h : ∀ j x, w0 j = some x → w j = some x) {k : Nat} (hk : w0 k = none) (x : Nat × qLay) : ∀ j y, w0 j = some y → qWput w k x j = some y := fun j y hj => by
  by_cases e : j = k
  · subst e
    rw [hk] at hj
    cases hj
  · rw [qWput_ne x e]
    exact h j y hj
theorem qWput_get {w : qWd} {k j : Nat} {x y : Nat × qLay} (h : w j = some y) (hj : j ≠ k) : qWput w k x j = some y := by
  rw [qWput_ne x hj]
  exact h
def qlW : (Int → Int) → List Value := fun r => [.int (qI (r 0)), .int (qI (r 1)), .int (qI (r 2)), .int (qI (r 3))]
def qlT : (Int → Int) → List Value := fun r => [.long (qJ (r 0)), .long (qJ (r 1)), .long (qJ (r 2))]
section NROWS
variable {Y : Type} {p : Program} {l : Launch} {e : Env} {R : Room} {s : State} {m : MethodId} {args : Array Value} {below : List Frame} {meth : Method} {c : Code}
variable {cc : ByteArray} {nL : Nat} {own : String} {ret : Option FieldType} {g : qG} {z0 : Nat} {w : qWd} {k n : Nat} {Q : Y → State → Prop} {F : Option Y} {σ : qSt} {pc : Nat} {lo : qLo} {st rest : List Value} {mc ms : Nat} {f : qSt → Option Y}
theorem r_new (cx : qCx p s m meth c cc nL own ret g z0) {C : String} {T : u_T} {N ci ix : Nat} {ty : Nat → FieldType} (k0 : Nat) (fl : (Int → Int) → List Value) (hcl : qCl[ci]? = some (C, T, N)) (hws : ∀ x, x ∈ u_ws C T N → x ∈ lw_tbl ∧ goodWord x = true) (hty : ∀ k, k < N → parseFieldDescriptor (T k).2.2.1 = some (ty k)) (hm : Cond.classLink own ix C ∈ lw_tbl) (hi : Cond.instantiable C N ∈ lw_tbl) (hini : Cond.initialized C ∈ lw_tbl) (hfs : ∀ j, j < N → defaultValue (ty j) = vp_V (fl (fun _ => 0)) j) (hc : k + 1 ≤ R.cells) (hn : n + N ≤ R.slots) (hd : decode cc pc = .ok (.new ix, 3)) (kk : ∀ (q : Nat) σ1, qS p l e R s m args below meth c nL g z0 (qWput w k0 (q, qOb ci fl)) (k + 1) (n + N) Q (f σ1) σ1 (pc + 3) lo (.ref q :: st)) : qS p l e R s m args below meth c nL g z0 w k n Q (qb (qrow σ k0 (fun _ => 0)) f) σ pc lo st := by
  intro y hy H locs ls hH hS hV
  have htw := cx.2.2.2.2.1.2.1
  have hts : ∀ x ∈ u_ws C T N, x.before args s = true := fun x hx => htw.word (hws x hx).1 (hws x hx).2
  have hKn := cx.2.2.2.2.1.1.1 ci _ hcl
  have hz0 : z0 ≤ H.size := Nat.le_trans cx.2.2.2.2.1.2.2.2.2.1 hS.1
  refine W.newcK cx.1 cx.2.1 cx.2.2.2.1 (htw.word hm rfl) (htw.word hi rfl) (htw.word hini rfl) rfl hd hc hn hKn.2.1 rfl fun H1 kC hkC e1 z1 o1 => ?_
  refine kk H.size _ y hy H1 locs ls (hH.new hz0 ?_ o1) ⟨Nat.le_trans hS.1 (by omega), fun x h1 h2 => (o1 x (Nat.lt_of_lt_of_le h1 hS.1)).trans (hS.2.1 x h1 h2), hS.2.2⟩ hV
  exact ⟨_, hcl, (u_born ty hts (fun x hx => hx) hKn hkC e1 hty).to hfs⟩
theorem r_objInit (cx : qCx p s m meth c cc nL own ret g z0) {ix a : Nat} (hm : Cond.methodLink own ix objectInit ∈ lw_tbl) (hi : Cond.instanceMethod objectInit ∈ lw_tbl) (hc : Cond.code objectInit ⟨#[0xb1]⟩ 1 none ∈ lw_tbl) (hfr : 1 ≤ R.frames) (hlo : (rest.map fun v => v.category).sum + 12 ≤ R.locals) (hd : decode cc pc = .ok (.invokespecial ix, 3)) (kk : qS p l e R s m args below meth c nL g z0 w k n Q F σ (pc + 3) lo rest) : qS p l e R s m args below meth c nL g z0 w k n Q F σ pc lo (.ref a :: rest) := by
  intro y hy H locs ls hH hS hV
  have htw := cx.2.2.2.2.1.2.1
  refine W.objInit cx.1 cx.2.1 cx.2.2.2.1 (htw.word hm rfl) (htw.word hi rfl) (htw.word hc rfl) rfl (by rw [cx.2.2.1]; exact hV.1) rfl hd hfr (by show 2 * 0 + _ + 12 ≤ _; omega) ?_
  refine W.eq (g2 := F0 m (pc + 3) ls rest) rfl (kk y hy H locs ls hH hS hV)
theorem r_putF (cx : qCx p s m meth c cc nL own ret g z0) {v : Value} {ty : FieldType} {C : String} {T : u_T} {N ci ix k0 a j : Nat} {ty0 : Nat → FieldType} {fl fl' : (Int → Int) → List Value} {r' : Int → Int} (hcl : qCl[ci]? = some (C, T, N)) (hws : ∀ x, x ∈ u_ws C T N → x ∈ lw_tbl ∧ goodWord x = true) (hw : w k0 = some (a, qOb ci fl)) (hj : j < N) (hty : ∀ k, k < N → parseFieldDescriptor (T k).2.2.1 = some (ty0 k)) (hnm : ∀ a, a < N → ∀ b, b < N → a ≠ b → (T a).2.1 ≠ (T b).2.1) (hm : Cond.fieldLink own ix (T j).1 (T j).2.1 (T j).2.2.1 ∈ lw_tbl) (hfin : (T j).2.2.2 = true) (hin : meth.name = "<init>") (hdecl : (T j).1 = own) (hpd : parseFieldDescriptor (T j).2.2.1 = some ty) (hnw : narrow ty v = v) (hfit : fits ty v = true) (hlen : j < (fl (σ k0)).length) (hset : (fl (σ k0)).set j v = fl' r') (hd : decode cc pc = .ok (.putfield ix, 3)) (kk : ∀ σ1, qS p l e R s m args below meth c nL g z0 (qWput w k0 (a, qOb ci fl')) k n Q (f σ1) σ1 (pc + 3) lo rest) : qS p l e R s m args below meth c nL g z0 w k n Q (qb (qrow σ k0 r') f) σ pc lo (v :: .ref a :: rest) := by
  intro y hy H locs ls hH hS hV
  have htw := cx.2.2.2.2.1.2.1
  have hts : ∀ x ∈ u_ws C T N, x.before args s = true := fun x hx => htw.word (hws x hx).1 (hws x hx).2
  have hK := cx.2.2.2.2.1.1
  have hap := va_apart (own := own) hts (fun x hx => hx) ty0 hty hnm hK hcl
  obtain ⟨hat, hz⟩ := hH.1 _ _ _ hw
  obtain ⟨r, h1, cell, q1, q2, q3, q4⟩ := id hat
  have hr : r = (C, T, N) := Option.some.inj (h1.symm.trans hcl)
  subst hr
  obtain ⟨hSl, hfc, kC, hkC, hkind⟩ := hK.1 ci _ hcl
  obtain ⟨cf, kf, fi, fd, hi, hsl⟩ := hSl j hj
  have hlay := hts _ (u_in_lay hj)
  unfold u_lay at hlay
  rw [if_pos hfin] at hlay
  have hst := (u_facts hfc hkC (u_lays hts (fun x hx => hx) hj) hi).1
  have hcf : m.cls = cf := by
    obtain ⟨_, _, c', _, _, _, -, -, hf', -, -, -, hown2, -⟩ := Cond.laysFinal_spec hlay
    have e1 : c' = cf := by have := hi.symm.trans hf'; simp at this; exact this.1.symm
    rw [hdecl] at hown2
    rw [← e1]; exact Option.some.inj (cx.2.2.2.1.symm.trans hown2)
  have h6 := u_fits hfc hkC hkind (Or.inr hlay) hi hpd hnw hfit
  refine W.putFinK cx.1 cx.2.1 cx.2.2.2.1 (htw.word hm rfl) hi hst hcf hin (by rw [q2]; exact h6) q1 q3 (by rw [hsl]; exact k2_hasslot (q4 j hj)) rfl rfl hd fun H' e1 e2 e3 => ?_
  rw [hsl] at e1 ⊢
  have hnew : va_at g.1 qCl (a, (qOb ci fl') r') H' := by
    refine ⟨_, hcl, t_OB.to (V := updV (vp_V (fl (σ k0))) j v) ⟨_, e1, q2, q3, t_set q4 hap hj v⟩ (fun j2 _ => ?_)⟩
    rw [vp_updV_set hlen, hset]
  refine kk _ y hy H' _ ls ?_ (hS.put e2 e3 hz) hV
  refine ⟨fun k' a' f' hk' => ?_, fun i i' a' f1 f2 hi1 hi2 => ?_⟩
  · by_cases e9 : k' = k0
    · subst e9
      rw [qWput_self] at hk'
      cases hk'
      rw [qrow_self]
      exact ⟨hnew, hz⟩
    · rw [qWput_ne _ e9] at hk'
      have e8 : qrow σ k0 r' k' = σ k' := if_neg e9
      rw [e8]
      obtain ⟨g1, g2⟩ := hH.1 k' a' f' hk'
      exact ⟨g1.kept (e3 a' (fun z => e9 (hH.2 k' k0 a' f' (qOb ci fl) hk' (by rw [z]; exact hw)))), g2⟩
  · have key : ∀ (i a' : Nat) (f1 : qLay), qWput w k0 (a, qOb ci fl') i = some (a', f1) → ∃ f3, w i = some (a', f3) := fun i a' f1 h => by
      by_cases e9 : i = k0
      · subst e9
        rw [qWput_self] at h
        cases h
        exact ⟨_, hw⟩
      · rw [qWput_ne _ e9] at h
        exact ⟨_, h⟩
    obtain ⟨f3, g3⟩ := key i a' f1 hi1
    obtain ⟨f4, g4⟩ := key i' a' f2 hi2
    exact hH.2 i i' a' f3 f4 g3 g4
theorem r_putG (cx : qCx p s m meth c cc nL own ret g z0) {v : Value} {ty : FieldType} {C : String} {T : u_T} {N ci ix k0 a j : Nat} {ty0 : Nat → FieldType} {fl fl' : (Int → Int) → List Value} {r' : Int → Int} (hcl : qCl[ci]? = some (C, T, N)) (hws : ∀ x, x ∈ u_ws C T N → x ∈ lw_tbl ∧ goodWord x = true) (hw : w k0 = some (a, qOb ci fl)) (hj : j < N) (hty : ∀ k, k < N → parseFieldDescriptor (T k).2.2.1 = some (ty0 k)) (hnm : ∀ a, a < N → ∀ b, b < N → a ≠ b → (T a).2.1 ≠ (T b).2.1) (hm : Cond.fieldLink own ix (T j).1 (T j).2.1 (T j).2.2.1 ∈ lw_tbl) (hfin : (T j).2.2.2 = false) (hpd : parseFieldDescriptor (T j).2.2.1 = some ty) (hnw : narrow ty v = v) (hfit : fits ty v = true) (hlen : j < (fl (σ k0)).length) (hset : (fl (σ k0)).set j v = fl' r') (hd : decode cc pc = .ok (.putfield ix, 3)) (kk : ∀ σ1, qS p l e R s m args below meth c nL g z0 (qWput w k0 (a, qOb ci fl')) k n Q (f σ1) σ1 (pc + 3) lo rest) : qS p l e R s m args below meth c nL g z0 w k n Q (qb (qrow σ k0 r') f) σ pc lo (v :: .ref a :: rest) := by
  intro y hy H locs ls hH hS hV
  have htw := cx.2.2.2.2.1.2.1
  have hts : ∀ x ∈ u_ws C T N, x.before args s = true := fun x hx => htw.word (hws x hx).1 (hws x hx).2
  have hK := cx.2.2.2.2.1.1
  have hap := va_apart (own := own) hts (fun x hx => hx) ty0 hty hnm hK hcl
  obtain ⟨hat, hz⟩ := hH.1 _ _ _ hw
  obtain ⟨r, h1, cell, q1, q2, q3, q4⟩ := id hat
  have hr : r = (C, T, N) := Option.some.inj (h1.symm.trans hcl)
  subst hr
  obtain ⟨hSl, hfc, kC, hkC, hkind⟩ := hK.1 ci _ hcl
  obtain ⟨cf, kf, fi, fd, hi, hsl⟩ := hSl j hj
  have hlay := hts _ (u_in_lay hj)
  unfold u_lay at hlay
  rw [if_neg (by rw [hfin]; decide)] at hlay
  have hst := (u_facts hfc hkC (u_lays hts (fun x hx => hx) hj) hi).1
  have h6 := u_store hfc hkC hkind hlay hi hpd hnw hfit
  refine W.putK cx.1 cx.2.1 (f := fd) ⟨cx.2.2.2.1, htw.word hm rfl, ⟨_, _, _, hi⟩, hst⟩ (by rw [q2]; exact h6) q1 q3 (by rw [hsl]; exact k2_hasslot (q4 j hj)) rfl rfl hd fun H' e1 e2 e3 => ?_
  rw [hsl] at e1 ⊢
  have hnew : va_at g.1 qCl (a, (qOb ci fl') r') H' := by
    refine ⟨_, hcl, t_OB.to (V := updV (vp_V (fl (σ k0))) j v) ⟨_, e1, q2, q3, t_set q4 hap hj v⟩ (fun j2 _ => ?_)⟩
    rw [vp_updV_set hlen, hset]
  refine kk _ y hy H' _ ls ?_ (hS.put e2 e3 hz) hV
  refine ⟨fun k' a' f' hk' => ?_, fun i i' a' f1 f2 hi1 hi2 => ?_⟩
  · by_cases e9 : k' = k0
    · subst e9
      rw [qWput_self] at hk'
      cases hk'
      rw [qrow_self]
      exact ⟨hnew, hz⟩
    · rw [qWput_ne _ e9] at hk'
      have e8 : qrow σ k0 r' k' = σ k' := if_neg e9
      rw [e8]
      obtain ⟨g1, g2⟩ := hH.1 k' a' f' hk'
      exact ⟨g1.kept (e3 a' (fun z => e9 (hH.2 k' k0 a' f' (qOb ci fl) hk' (by rw [z]; exact hw)))), g2⟩
  · have key : ∀ (i a' : Nat) (f1 : qLay), qWput w k0 (a, qOb ci fl') i = some (a', f1) → ∃ f3, w i = some (a', f3) := fun i a' f1 h => by
      by_cases e9 : i = k0
      · subst e9
        rw [qWput_self] at h
        cases h
        exact ⟨_, hw⟩
      · rw [qWput_ne _ e9] at h
        exact ⟨_, h⟩
    obtain ⟨f3, g3⟩ := key i a' f1 hi1
    obtain ⟨f4, g4⟩ := key i' a' f2 hi2
    exact hH.2 i i' a' f3 f4 g3 g4
theorem r_newarr_i (cx : qCx p s m meth c cc nL own ret g z0) (k0 N : Nat) {M : Int} (hM : (N : Int) = M) (hN : M ≤ 1000000) (harr : Cond.arrayClass .int ∈ lw_tbl) (hc : k + 1 ≤ R.cells) (hn : n + N ≤ R.slots) (hd : decode cc pc = .ok (.newarray .int, 2)) (kk : ∀ (q : Nat) σ1, qS p l e R s m args below meth c nL g z0 (qWput w k0 (q, qAI (g.2 0) N)) (k + 1) (n + N) Q (f σ1) σ1 (pc + 2) lo (.ref q :: rest)) : qS p l e R s m args below meth c nL g z0 w k n Q (qb (qrow σ k0 (fun _ => 0)) f) σ pc lo (.int (qI M) :: rest) := by
  intro y hy H locs ls hH hS hV
  have htw := cx.2.2.2.2.1.2.1
  have hz0 : z0 ≤ H.size := Nat.le_trans cx.2.2.2.2.1.2.2.2.2.1 hS.1
  subst hM
  have hi : (qI (N : Int)).toInt = N := qI_of (by omega) (by omega)
  have hnc : (qI (N : Int)).toNatClampNeg = N := by show (qI (N : Int)).toInt.toNat = _; rw [hi]; rfl
  have hcN : N * componentBytes (newarray.typeOf ArrayType.int) ≤ 536870912 := by
    have e9 : componentBytes (newarray.typeOf ArrayType.int) ≤ 8 := by decide
    have := Nat.mul_le_mul_left N e9
    omega
  refine va_newaK (h := H.size) cx.1 cx.2.1 (atype := .int) (htw.word harr rfl) rfl hd (n := qI (N : Int)) (N := N) rfl (by rw [Int32.lt_iff_toInt_lt, hi]; simp) hnc hcN hc hn rfl fun H1 cA e1 z1 o1 hAr hNm => ?_
  have hcA : cA = g.2 0 := by
    have h9 := (cx.2.2.2.2.1.1.2 0 _ rfl).2
    have h8 : s.vm.findClass ("[" ++ (newarray.typeOf ArrayType.int).toString) = some (g.2 0) := h9
    exact Option.some.inj (hNm.symm.trans h8)
  subst hcA
  refine kk H.size _ y hy H1 locs ls (hH.new hz0 ?_ o1) ⟨Nat.le_trans hS.1 (by omega), fun x h1 h2 => (o1 x (Nat.lt_of_lt_of_le h1 hS.1)).trans (hS.2.1 x h1 h2), hS.2.2⟩ hV
  show H1[H.size]? = some (vp_cell _ _)
  rw [e1, vp_cell_i]
  rfl
theorem r_newarr_b (cx : qCx p s m meth c cc nL own ret g z0) (k0 N : Nat) {M : Int} (hM : (N : Int) = M) (hN : M ≤ 1000000) (harr : Cond.arrayClass .byte ∈ lw_tbl) (hc : k + 1 ≤ R.cells) (hn : n + N ≤ R.slots) (hd : decode cc pc = .ok (.newarray .byte, 2)) (kk : ∀ (q : Nat) σ1, qS p l e R s m args below meth c nL g z0 (qWput w k0 (q, qAI (g.2 1) N)) (k + 1) (n + N) Q (f σ1) σ1 (pc + 2) lo (.ref q :: rest)) : qS p l e R s m args below meth c nL g z0 w k n Q (qb (qrow σ k0 (fun _ => 0)) f) σ pc lo (.int (qI M) :: rest) := by
  intro y hy H locs ls hH hS hV
  have htw := cx.2.2.2.2.1.2.1
  have hz0 : z0 ≤ H.size := Nat.le_trans cx.2.2.2.2.1.2.2.2.2.1 hS.1
  subst hM
  have hi : (qI (N : Int)).toInt = N := qI_of (by omega) (by omega)
  have hnc : (qI (N : Int)).toNatClampNeg = N := by show (qI (N : Int)).toInt.toNat = _; rw [hi]; rfl
  have hcN : N * componentBytes (newarray.typeOf ArrayType.byte) ≤ 536870912 := by
    have e9 : componentBytes (newarray.typeOf ArrayType.byte) ≤ 8 := by decide
    have := Nat.mul_le_mul_left N e9
    omega
  refine va_newaK (h := H.size) cx.1 cx.2.1 (atype := .byte) (htw.word harr rfl) rfl hd (n := qI (N : Int)) (N := N) rfl (by rw [Int32.lt_iff_toInt_lt, hi]; simp) hnc hcN hc hn rfl fun H1 cA e1 z1 o1 hAr hNm => ?_
  have hcA : cA = g.2 1 := by
    have h9 := (cx.2.2.2.2.1.1.2 1 _ rfl).2
    have h8 : s.vm.findClass ("[" ++ (newarray.typeOf ArrayType.byte).toString) = some (g.2 1) := h9
    exact Option.some.inj (hNm.symm.trans h8)
  subst hcA
  refine kk H.size _ y hy H1 locs ls (hH.new hz0 ?_ o1) ⟨Nat.le_trans hS.1 (by omega), fun x h1 h2 => (o1 x (Nat.lt_of_lt_of_le h1 hS.1)).trans (hS.2.1 x h1 h2), hS.2.2⟩ hV
  show H1[H.size]? = some (vp_cell _ _)
  rw [e1, vp_cell_i]
  rfl
theorem r_callIN {ix np nL' b : Nat} {y : MethodName} {cc' : ByteArray} {rm : Room} {F' : Option (Int × qSt)} {As : List Value} {f : Int → qSt → Option Y} {host : String} (cx : qCx p s m meth c cc nL own ret g z0) (hM : qCT l y cc' nL' none rm g z0 w (.ref b :: As) σ F' qrv) (hy : qM y cc' nL' none np) (hname : y.name = "<init>") (hi : Cond.instanceMethod y ∈ lw_tbl) (hlink : Cond.methodLinkNest own ix y host ∈ lw_tbl) (hd : decode cc pc = .ok (.invokespecial ix, 3)) (hst : st = As.reverse ++ .ref b :: rest) (hn : As.length = np) (hrest : (rest.map fun v => v.category).sum ≤ 8) (hR : rm.frames + 1 ≤ R.frames ∧ 8 + (nL' + 11) + rm.locals ≤ R.locals) (hf : k + rm.cells ≤ R.cells ∧ n + rm.slots ≤ R.slots) (kk : ∀ r σ1, qS p l e R s m args below meth c nL g z0 w (k + rm.cells) (n + rm.slots) Q (f r σ1) σ1 (pc + 3) lo rest) : qS p l e R s m args below meth c nL g z0 w k n Q (qbd F' f) σ pc lo st := by
  intro u hu H locs ls hH hS hV
  cases hF : F' with
  | none => rw [hF] at hu; cases hu
  | some x =>
    obtain ⟨r, σ1⟩ := x
    rw [hF] at hu
    subst hst
    refine qRunS (va_runIN (Ts := []) (As := As) (rest := rest) ⟨cx.1, cx.2.1, cx.2.2.1, cx.2.2.2.1, fun x hx => by cases hx⟩ (hM _ hF) ⟨qCallN cx hy hlink hR, hname, cx.2.2.2.2.1.2.1.word hi rfl⟩ (qPreS cx hH hS) rfl hn hV.1 rfl (lv_room hrest) hd hf) hS (fun H1 locs1 h1 h2 => kk r σ1 u hu H1 locs1 ls h1 h2 hV)
theorem r_callI {ix np nL' b : Nat} {y : MethodName} {cc' : ByteArray} {rm : Room} {F' : Option (Int × qSt)} {As : List Value} {f : Int → qSt → Option Y} (cx : qCx p s m meth c cc nL own ret g z0) (hM : qCT l y cc' nL' none rm g z0 w (.ref b :: As) σ F' qrv) (hy : qM y cc' nL' none np) (hname : y.name = "<init>") (hi : Cond.instanceMethod y ∈ lw_tbl) (hlink : Cond.methodLink own ix y ∈ lw_tbl) (hd : decode cc pc = .ok (.invokespecial ix, 3)) (hst : st = As.reverse ++ .ref b :: rest) (hn : As.length = np) (hrest : (rest.map fun v => v.category).sum ≤ 8) (hR : rm.frames + 1 ≤ R.frames ∧ 8 + (nL' + 11) + rm.locals ≤ R.locals) (hf : k + rm.cells ≤ R.cells ∧ n + rm.slots ≤ R.slots) (kk : ∀ r σ1, qS p l e R s m args below meth c nL g z0 w (k + rm.cells) (n + rm.slots) Q (f r σ1) σ1 (pc + 3) lo rest) : qS p l e R s m args below meth c nL g z0 w k n Q (qbd F' f) σ pc lo st := by
  intro u hu H locs ls hH hS hV
  cases hF : F' with
  | none => rw [hF] at hu; cases hu
  | some x =>
    obtain ⟨r, σ1⟩ := x
    rw [hF] at hu
    subst hst
    refine qRunS (va_runI (Ts := []) (As := As) (rest := rest) ⟨cx.1, cx.2.1, cx.2.2.1, cx.2.2.2.1, fun x hx => by cases hx⟩ (hM _ hF) ⟨qCallB cx hy hlink hR, hname, cx.2.2.2.2.1.2.1.word hi rfl⟩ (qPreS cx hH hS) rfl hn hV.1 rfl (lv_room hrest) hd hf) hS (fun H1 locs1 h1 h2 => kk r σ1 u hu H1 locs1 ls h1 h2 hV)
end NROWS
theorem qCTi.of {l : Launch} {y : MethodName} {cc : ByteArray} {nL : Nat} {ret : Option FieldType} {rm : Room} {g : qG} {z0 : Nat} {w : qWd} {av : List Value} {σ : qSt} {F : Option (Int × qSt)} {rk : Int → Option Value} (lo : qLo) (hy : plainFor y = true) (hn : (lg_sl av).length ≤ nL) (hlo : qlist (lv_args 0 av) = lo)
    (body : ∀ p e s m args below meth c, qCx p s m meth c cc nL y.cls ret g z0 → meth.name = y.name → qS p l e rm s m args below meth c nL g z0 w 0 0 (qQ below g z0 w rk args s rm.cells rm.slots) F σ 0 lo []) : qCT l y cc nL ret rm g z0 w av σ F rk := by
  intro u hu
  refine MetFree.of_bodySF (code := cc) (maxLocals := nL) (ret := ret) hy ?_ ?_
  · intro args s m h hn
    obtain ⟨meth, c, h1, h2, h3, h4, h5, h6, -, -⟩ := Cond.code_spec hn (atoms_spec (ws := [Cond.code y cc nL ret]) h _ List.mem_cons_self)
    exact ⟨meth, c, h1, h2, h3, h4, h5, h6⟩
  · intro p e s m args below meth c s₁ B hml hP _
    obtain ⟨rfl, hR, hK⟩ := hP
    have hh0 : s₁.heap = s.heap := by rw [B.state]; rfl
    subst hlo
    have h1 := body p e s m av.toArray below meth c ⟨B.exec, B.bytes, hml, findClass_of_methodNamed B.named, hK, B.returns, B.notSynchronized⟩ (name_of_methodNamed B.named B.method).1 u hu s.heap [] _ hR va_S.rf (qV.entry av hn)
    rw [← lg_entry_eq m av nL] at h1
    obtain ⟨t, a1, o, b1, b2, b3⟩ := h1 s₁ hh0 (Stand.of_body B)
    exact ⟨t, o, a1, b1, b2, ⟨b3.1, b3.2⟩⟩
theorem qWput_eq {w : qWd} {k : Nat} {x : Nat × qLay} (h : w k = some x) : qWput w k x = w := funext fun j => by
  by_cases e : j = k
  · subst e
    rw [qWput_self, h]
  · exact qWput_ne x e
/-- the answer is a Tally just made -/
def qTQ (K : Nat) (g : qG) (z0 : Nat) (w : qWd) (u : Int × qSt) : Array Value → State → Outcome → State → Prop := fun _ st o t => (∃ q : Nat, o = .returned (some (.ref q)) ∧ qR g z0 (qWput w K (q, qOb 2 qlT)) u.2 t.heap) ∧ va_F (qA z0) st t
def qCTt (K : Nat) (l : Launch) (y : MethodName) (cc : ByteArray) (nL : Nat) (ret : Option FieldType) (rm : Room) (g : qG) (z0 : Nat) (w : qWd) (av : List Value) (σ : qSt) (F : Option (Int × qSt)) : Prop :=
  ∀ u, F = some u → Met l y [.code y cc nL ret] rm (va_Pc av (qPc g z0 w σ)) (qTQ K g z0 w u) rm.cells rm.slots (qA z0)
theorem qCTt.of {K : Nat} {l : Launch} {y : MethodName} {cc : ByteArray} {nL : Nat} {ret : Option FieldType} {rm : Room} {g : qG} {z0 : Nat} {w : qWd} {av : List Value} {σ : qSt} {F : Option (Int × qSt)} (lo : qLo) (hy : plainFor y = true) (hn : (lg_sl av).length ≤ nL) (hlo : qlist (lv_args 0 av) = lo)
    (body : ∀ p e s m args below meth c, qCx p s m meth c cc nL y.cls ret g z0 → qS p l e rm s m args below meth c nL g z0 w 0 0 (fun u => MQ below (qTQ K g z0 w u) args s rm.cells rm.slots (qA z0)) F σ 0 lo []) : qCTt K l y cc nL ret rm g z0 w av σ F := by
  intro u hu
  refine MetFree.of_bodySF (code := cc) (maxLocals := nL) (ret := ret) hy ?_ ?_
  · intro args s m h hn
    obtain ⟨meth, c, h1, h2, h3, h4, h5, h6, -, -⟩ := Cond.code_spec hn (atoms_spec (ws := [Cond.code y cc nL ret]) h _ List.mem_cons_self)
    exact ⟨meth, c, h1, h2, h3, h4, h5, h6⟩
  · intro p e s m args below meth c s₁ B hml hP _
    obtain ⟨rfl, hR, hK⟩ := hP
    have hh0 : s₁.heap = s.heap := by rw [B.state]; rfl
    subst hlo
    have h1 := body p e s m av.toArray below meth c ⟨B.exec, B.bytes, hml, findClass_of_methodNamed B.named, hK, B.returns, B.notSynchronized⟩ u hu s.heap [] _ hR va_S.rf (qV.entry av hn)
    rw [← lg_entry_eq m av nL] at h1
    obtain ⟨t, a1, o, b1, b2, b3⟩ := h1 s₁ hh0 (Stand.of_body B)
    exact ⟨t, o, a1, b1, b2, ⟨b3.1, b3.2⟩⟩
section TROWS
variable {Y : Type} {p : Program} {l : Launch} {e : Env} {R : Room} {s : State} {m : MethodId} {args : Array Value} {below : List Frame} {meth : Method} {c : Code}
variable {cc : ByteArray} {nL : Nat} {own : String} {ret : Option FieldType} {g : qG} {z0 : Nat} {w : qWd} {k n : Nat} {Q : Y → State → Prop} {F : Option Y} {σ : qSt} {pc : Nat} {lo : qLo} {st rest : List Value} {mc ms : Nat} {f : qSt → Option Y}
theorem qS.mono {Q' : Y → State → Prop} (h : ∀ y t, Q' y t → Q y t) (kk : qS p l e R s m args below meth c nL g z0 w k n Q' F σ pc lo st) : qS p l e R s m args below meth c nL g z0 w k n Q F σ pc lo st := by
  intro y hy H locs ls hH hS hV T hT X
  obtain ⟨t, a, b⟩ := kk y hy H locs ls hH hS hV T hT X
  exact ⟨t, a, h y t b⟩
theorem qTQ.mq {qa K : Nat} {u : Int × qSt} {t : State} (h : qQ below g z0 (qWput w K (qa, qOb 2 qlT)) (fun _ => some (.ref qa)) args s mc ms u t) : MQ below (qTQ K g z0 w u) args s mc ms (qA z0) t := by
  obtain ⟨o, h1, h2, ⟨⟨h3, h4⟩, h5⟩, h6⟩ := h
  exact ⟨o, h1, h2, ⟨⟨qa, h3, h4⟩, h5⟩, h6⟩
theorem r_putFi (cx : qCx p s m meth c cc nL own ret g z0) {C : String} {T : u_T} {N ci ix k0 a j : Nat} {J v : Int} {ty0 : Nat → FieldType} {fl : (Int → Int) → List Value} (hcl : qCl[ci]? = some (C, T, N)) (hws : ∀ x, x ∈ u_ws C T N → x ∈ lw_tbl ∧ goodWord x = true) (hw : w k0 = some (a, qOb ci fl)) (hj : j < N) (hty : ∀ k, k < N → parseFieldDescriptor (T k).2.2.1 = some (ty0 k)) (hnm : ∀ a, a < N → ∀ b, b < N → a ≠ b → (T a).2.1 ≠ (T b).2.1) (hm : Cond.fieldLink own ix (T j).1 (T j).2.1 (T j).2.2.1 ∈ lw_tbl) (hfin : (T j).2.2.2 = true) (hin : meth.name = "<init>") (hdecl : (T j).1 = own) (hpd : parseFieldDescriptor (T j).2.2.1 = some .int) (hJ : (j : Int) = J) (hlen : j < (fl (σ k0)).length) (hset : ∀ r : Int → Int, (fl r).set j (.int (qI v)) = fl (fun j' => if j' = J then v else r j')) (hd : decode cc pc = .ok (.putfield ix, 3)) (kk : ∀ σ1, qS p l e R s m args below meth c nL g z0 w k n Q (f σ1) σ1 (pc + 3) lo rest) : qS p l e R s m args below meth c nL g z0 w k n Q (qb (qset σ k0 J v) f) σ pc lo (.int (qI v) :: .ref a :: rest) := by
  refine r_putF cx hcl hws hw hj hty hnm hm hfin hin hdecl hpd rfl rfl hlen (hset (σ k0)) hd (fun σ1 => ?_)
  rw [qWput_eq hw]
  exact kk σ1
theorem r_areturn {r : Int} {ra : Nat} {w0 : qWd} {y : Y} {rt : FieldType} (hw : ∀ j x, w0 j = some x → w j = some x) (hk : k ≤ mc) (hn : n ≤ ms) (cx : qCx p s m meth c cc nL own (some rt) g z0) (hrt : (∃ n, rt = .object n) ∨ ∃ t, rt = .array t) (hd : decode cc pc = .ok (.areturn, 1)) (hQ : Q y = qQ below g z0 w0 (fun _ => some (.ref ra)) args s mc ms (r, σ)) : qS p l e R s m args below meth c nL g z0 w k n Q (some y) σ pc lo [.ref ra] := by
  intro u hu H locs ls hH hS hV
  cases hu
  rw [hQ]
  refine W.widen hk hn ?_
  exact W.aret cx.1 cx.2.1 cx.2.2.2.2.2.1 hrt (Or.inr ⟨ra, rfl⟩) (fun t ht hW => ⟨⟨rfl, by rw [ht]; exact hH.sub hw⟩, hS.F ht⟩) hS.2.2 hd cx.2.2.2.2.2.2
theorem r_callT {ix np nL' K : Nat} {y : MethodName} {cc' : ByteArray} {ret' : Option FieldType} {rm : Room} {F' : Option (Int × qSt)} {As : List Value} {C : String} {T : u_T} {N ci k0 b : Nat} {fl : (Int → Int) → List Value} {f : Int → qSt → Option Y} (cx : qCx p s m meth c cc nL own ret g z0) (hM : qCTt K l y cc' nL' ret' rm g z0 w (.ref b :: As) σ F') (hy : qM y cc' nL' ret' np) (hv : qMv C y) (hcl : qCl[ci]? = some (C, T, N)) (hw : w k0 = some (b, qOb ci fl)) (hlink : Cond.methodLink own ix y ∈ lw_tbl) (hd : decode cc pc = .ok (.invokevirtual ix, 3)) (hst : st = As.reverse ++ .ref b :: rest) (hn : As.length = np) (hrest : (rest.map fun v => v.category).sum ≤ 8) (hR : rm.frames + 1 ≤ R.frames ∧ 8 + (nL' + 11) + rm.locals ≤ R.locals) (hf : k + rm.cells ≤ R.cells ∧ n + rm.slots ≤ R.slots) (kk : ∀ (q : Nat) r σ1, qS p l e R s m args below meth c nL g z0 (qWput w K (q, qOb 2 qlT)) (k + rm.cells) (n + rm.slots) Q (f r σ1) σ1 (pc + 3) lo (.ref q :: rest)) : qS p l e R s m args below meth c nL g z0 w k n Q (qbd F' f) σ pc lo st := by
  intro u hu H locs ls hH hS hV
  cases hF : F' with
  | none => rw [hF] at hu; cases hu
  | some x =>
    obtain ⟨r, σ1⟩ := x
    rw [hF] at hu
    subst hst
    intro T0 hT X
    have htw := cx.2.2.2.2.1.2.1
    obtain ⟨v, st₀, t, T', L, h0, X', hL, e1, e2, ⟨⟨qa, hv1, hR1⟩, hz, hk⟩, stp⟩ := va_runV (e := e) (below := below) (meth := meth) (locs := locs) (args := args) (cells := k) (slots := n) (Ts := []) (As := As) (rest := rest) (g := F0 m pc ls (As.reverse ++ .ref b :: rest)) ⟨cx.1, cx.2.1, cx.2.2.1, cx.2.2.2.1, fun x hx => by cases hx⟩ (hM _ hF) ⟨qCallB cx hy hlink hR, htw.word hv.1 rfl, htw.word hv.2 rfl⟩ (qPreV cx hcl hw hH hS) rfl hn hV.1 rfl (lv_room hrest) hd hf T0 hT X
    cases hv1
    rw [h0] at hz hk
    obtain ⟨t2, a1, b1⟩ := kk qa r σ1 u hu T'.heap (locs ++ L) ls (by rw [e1]; exact hR1)
      ⟨Nat.le_trans hS.1 (by rw [e1]; exact hz), fun q h1 h2 => by rw [e1, hk q (Nat.lt_of_lt_of_le h1 hS.1) h2]; exact hS.2.1 q h1 h2, fun q hq => by
        rcases List.mem_append.mp hq with h | h
        · exact hS.2.2 q h
        · exact hL q h⟩ hV T' rfl X'
    exact ⟨t2, stp t2 a1, b1⟩
theorem r_eVj {ix np nL' : Nat} {y : MethodName} {cc' : ByteArray} {ret' : Option FieldType} {rm : Room} {F' : Option (Int × qSt)} {As : List Value} {C : String} {T : u_T} {N ci k0 b : Nat} {fl : (Int → Int) → List Value} {f : Int → qSt → Option Y} (cx : qCx p s m meth c cc nL own ret g z0) (hM : qCT l y cc' nL' ret' rm g z0 w (.ref b :: As) σ F' qrj) (hy : qM y cc' nL' ret' np) (hv : qMv C y) (hcl : qCl[ci]? = some (C, T, N)) (hw : w k0 = some (b, qOb ci fl)) (hlink : Cond.methodLink own ix y ∈ lw_tbl) (hd : decode cc pc = .ok (.invokevirtual ix, 3)) (hst : st = As.reverse ++ .ref b :: rest) (hn : As.length = np) (hrest : (rest.map fun v => v.category).sum ≤ 8) (hR : rm.frames + 1 ≤ R.frames ∧ 8 + (nL' + 11) + rm.locals ≤ R.locals) (hf : k + rm.cells ≤ R.cells ∧ n + rm.slots ≤ R.slots) (kk : ∀ r σ1, qS p l e R s m args below meth c nL g z0 w (k + rm.cells) (n + rm.slots) Q (f r σ1) σ1 (pc + 3) lo (.long (qJ r) :: rest)) : qS p l e R s m args below meth c nL g z0 w k n Q (qbd F' f) σ pc lo st :=
  r_callV (f := fun u => f u.1 u.2) cx hM hy hv hcl hw hlink hd hst hn hrest hR hf (fun r σ1 _ => kk r σ1)
end TROWS
abbrev qrk (d mc ms : Nat) : Room := { frames := d + 7, cells := mc, slots := ms, locals := 40 * d + 120 }
