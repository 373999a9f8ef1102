/-! ===== rows of the heap ===== -/
def qAI (cA : ClassId) (N : Nat) : qLay := fun r => .inl (cA, N, .inl (fun j => qI (r (j : Int))))
def qAL (cA : ClassId) (N : Nat) : qLay := fun r => .inl (cA, N, .inr (.inl (fun j => qJ (r (j : Int)))))
def qDb (z : Int) : UInt64 := UInt64.ofNat z.toNat
def qAD (cA : ClassId) (N : Nat) : qLay := fun r => .inl (cA, N, .inr (.inr (.inr (.inl (fun j => qDb (r (j : Int)))))))
def qAR (cA : ClassId) (N : Nat) (f : Nat → Nat) : qLay := fun _ => .inl (cA, N, .inr (.inr (.inr (.inr (fun j => some (f j))))))
def qOb (ci : Nat) (fl : (Int → Int) → List Value) : qLay := fun r => .inr (ci, fl r)
theorem qP1 {D : va_G} {cl : List vw_C} {q : Nat × va_E} {H : Heap} (h : va_at D cl q H) : va_P D cl [q] H := fun k x hx => by
  have hz : k < 1 := (List.getElem?_eq_some_iff.mp hx).1
  rw [show k = 0 by omega] at hx
  cases hx
  exact h
theorem qix {i M : Int} {N : Nat} (h : 0 ≤ i ∧ i < M) (hM : (N : Int) = M) (hN : M ≤ 1000000) : (qI i).toNatClampNeg = i.toNat ∧ vp_in (qI i) N ∧ ((i.toNat : Nat) : Int) = i ∧ i.toNat < N := by
  have hi : (qI i).toInt = i := qI_of (by omega) (by omega)
  refine ⟨?_, vp_in_iff.mpr ⟨by rw [hi]; exact h.1, by rw [hi]; omega⟩, Int.toNat_of_nonneg h.1, by omega⟩
  show (qI i).toInt.toNat = _
  rw [hi]
theorem if_get {Y : Type} {C : Prop} {hC : Decidable C} {F : Option Y} {y : Y} (h : (if C then F else none) = some y) : C ∧ F = some y := by
  by_cases hc : C
  · rw [if_pos hc] at h; exact ⟨hc, h⟩
  · rw [if_neg hc] at h; cases h
def qInd {α : Type} (f : Nat → α) (k : Nat) (x : α) : Nat → α := fun j => if j = k then x else f j
section HROWS
variable {Y : Type} {p : Program} {l : Launch} {e : Env} {R : Room} {s : State} {m : MethodId} {args : Array Value} {below : List Frame} {meth : Method} {c : Code}
variable {cc : ByteArray} {nL : Nat} {own : String} {ret : Option FieldType} {g : qG} {z0 : Nat} {w : qWd} {k n : Nat} {Q : Y → State → Prop} {F F1 F2 : Option Y} {σ : qSt} {pc : Nat} {lo : qLo} {st rest : List Value} {a : Nat} {i v M J : Int} {N j : Nat} {f : qSt → Option Y}
theorem r_iaload (cx : qCx p s m meth c cc nL own ret g z0) (hw : w j = some (a, qAI (g.2 0) N)) (hM : (N : Int) = M) (hN : M ≤ 1000000) (hd : decode cc pc = .ok (.iaload, 1)) (kk : qS p l e R s m args below meth c nL g z0 w k n Q F σ (pc + 1) lo (.int (qI (σ j i)) :: rest)) : qS p l e R s m args below meth c nL g z0 w k n Q (if 0 ≤ i ∧ i < M then F else none) σ pc lo (.int (qI i) :: .ref a :: rest) := by
  intro y hy H locs ls hH hS hV
  obtain ⟨h, hy⟩ := if_get hy
  obtain ⟨e1, e2, e3, e4⟩ := qix h hM hN
  have hk := kk y hy H locs ls hH hS hV
  rw [← e3, ← e1] at hk
  exact va_iald cx.1 cx.2.1 cx.2.2.2.2.1.1 (qP1 (hH.1 _ _ _ hw).1) 0 0 rfl rfl e2 hd hk
theorem r_baload (cx : qCx p s m meth c cc nL own ret g z0) (hw : w j = some (a, qAI (g.2 1) N)) (hM : (N : Int) = M) (hN : M ≤ 1000000) (hd : decode cc pc = .ok (.baload, 1)) (kk : qS p l e R s m args below meth c nL g z0 w k n Q F σ (pc + 1) lo (.int (qI (σ j i)) :: rest)) : qS p l e R s m args below meth c nL g z0 w k n Q (if 0 ≤ i ∧ i < M then F else none) σ pc lo (.int (qI i) :: .ref a :: rest) := by
  intro y hy H locs ls hH hS hV
  obtain ⟨h, hy⟩ := if_get hy
  obtain ⟨e1, e2, e3, e4⟩ := qix h hM hN
  have hk := kk y hy H locs ls hH hS hV
  rw [← e3, ← e1] at hk
  exact va_bald cx.1 cx.2.1 cx.2.2.2.2.1.1 (qP1 (hH.1 _ _ _ hw).1) 0 1 rfl rfl e2 hd hk
theorem r_aaload2 (cx : qCx p s m meth c cc nL own ret g z0) {fa : Nat → Nat} (hw : w j = some (a, qAR (g.2 2) N fa)) (hM : (N : Int) = M) (hN : M ≤ 1000000) (hd : decode cc pc = .ok (.aaload, 1)) (kk : i.toNat < N → qS p l e R s m args below meth c nL g z0 w k n Q F σ (pc + 1) lo (.ref (fa i.toNat) :: rest)) : qS p l e R s m args below meth c nL g z0 w k n Q (if 0 ≤ i ∧ i < M then F else none) σ pc lo (.int (qI i) :: .ref a :: rest) := by
  intro y hy H locs ls hH hS hV
  obtain ⟨h, hy⟩ := if_get hy
  obtain ⟨e1, e2, e3, e4⟩ := qix h hM hN
  have hk := kk e4 y hy H locs ls hH hS hV
  refine W.aald (v := .ref (fa i.toNat)) (ty := .array .int) cx.1 cx.2.1 (hH.1 _ _ _ hw).1 ((cx.2.2.2.2.1.1.2 2 _ rfl).1 N (fun j => va_rf (some (fa j)))) rfl (fun q => by cases q) ?_ ?_ rfl rfl hd hk
  · show ¬ (qI i < 0 ∨ (arrV _ _ _).slots.size ≤ _)
    rw [arrV_size]; exact e2
  · show (arrV _ _ _).slots[_]? = _
    rw [e1, arrV_read _ _ e4]; rfl
theorem r_aaload3 (cx : qCx p s m meth c cc nL own ret g z0) {fa : Nat → Nat} (hw : w j = some (a, qAR (g.2 3) N fa)) (hM : (N : Int) = M) (hN : M ≤ 1000000) (hd : decode cc pc = .ok (.aaload, 1)) (kk : i.toNat < N → qS p l e R s m args below meth c nL g z0 w k n Q F σ (pc + 1) lo (.ref (fa i.toNat) :: rest)) : qS p l e R s m args below meth c nL g z0 w k n Q (if 0 ≤ i ∧ i < M then F else none) σ pc lo (.int (qI i) :: .ref a :: rest) := by
  intro y hy H locs ls hH hS hV
  obtain ⟨h, hy⟩ := if_get hy
  obtain ⟨e1, e2, e3, e4⟩ := qix h hM hN
  have hk := kk e4 y hy H locs ls hH hS hV
  refine W.aald (v := .ref (fa i.toNat)) (ty := .array .byte) cx.1 cx.2.1 (hH.1 _ _ _ hw).1 ((cx.2.2.2.2.1.1.2 3 _ rfl).1 N (fun j => va_rf (some (fa j)))) rfl (fun q => by cases q) ?_ ?_ rfl rfl hd hk
  · show ¬ (qI i < 0 ∨ (arrV _ _ _).slots.size ≤ _)
    rw [arrV_size]; exact e2
  · show (arrV _ _ _).slots[_]? = _
    rw [e1, arrV_read _ _ e4]; rfl
theorem r_iastore (cx : qCx p s m meth c cc nL own ret g z0) (hw : w j = some (a, qAI (g.2 0) N)) (hM : (N : Int) = M) (hN : M ≤ 1000000) (hd : decode cc pc = .ok (.iastore, 1)) (kk : ∀ σ1, qS p l e R s m args below meth c nL g z0 w k n Q (f σ1) σ1 (pc + 1) lo rest) : qS p l e R s m args below meth c nL g z0 w k n Q (if 0 ≤ i ∧ i < M then qb (qset σ j i v) f else none) σ pc lo (.int (qI v) :: .int (qI i) :: .ref a :: rest) := by
  intro y hy H locs ls hH hS hV
  obtain ⟨h, hy⟩ := if_get hy
  obtain ⟨e1, e2, e3, e4⟩ := qix h hM hN
  obtain ⟨hat, hz⟩ := hH.1 _ _ _ hw
  refine W.iast cx.1 cx.2.1 hat ((cx.2.2.2.2.1.1.2 0 _ rfl).1 N (fun q => .int (qI (σ j (q : Int))))) (fun q => by cases q) (by show ¬ (_ ∨ (arrV _ _ _).slots.size ≤ _); rw [arrV_size]; exact e2) rfl rfl hd fun H1 e9 z9 oq => ?_
  refine kk _ y hy H1 _ ls (hH.put hw ?_ oq) (hS.put z9 oq hz) hV
  show H1[a]? = some (vp_cell _ _)
  rw [e9]
  show some ((vp_cell _ _).setSlot _ _) = _
  rw [vp_cell_i, vp_cell_i, arrV_store]
  congr 2
  funext q
  rw [e1]
  by_cases hq : q = i.toNat
  · subst hq
    have e5 : (if ((i.toNat : Nat) : Int) = i then v else σ j ((i.toNat : Nat) : Int)) = v := if_pos e3
    refine Eq.trans ?_ (congrArg (fun z => Value.int (qI z)) e5.symm)
    unfold updV
    rw [if_pos rfl]
    try rfl
  · have e5 : (if (q : Int) = i then v else σ j (q : Int)) = σ j (q : Int) := if_neg (by omega)
    refine Eq.trans ?_ (congrArg (fun z => Value.int (qI z)) e5.symm)
    unfold updV
    rw [if_neg hq]
theorem r_bastore (cx : qCx p s m meth c cc nL own ret g z0) (hw : w j = some (a, qAI (g.2 1) N)) (hM : (N : Int) = M) (hN : M ≤ 1000000) (hd : decode cc pc = .ok (.bastore, 1)) (kk : ∀ σ1, qS p l e R s m args below meth c nL g z0 w k n Q (f σ1) σ1 (pc + 1) lo rest) : qS p l e R s m args below meth c nL g z0 w k n Q (if 0 ≤ i ∧ i < M then qb (qset σ j i (qi2b v)) f else none) σ pc lo (.int (qI v) :: .int (qI i) :: .ref a :: rest) := by
  intro y hy H locs ls hH hS hV
  obtain ⟨h, hy⟩ := if_get hy
  obtain ⟨e1, e2, e3, e4⟩ := qix h hM hN
  obtain ⟨hat, hz⟩ := hH.1 _ _ _ hw
  refine W.bast cx.1 cx.2.1 hat ((cx.2.2.2.2.1.1.2 1 _ rfl).1 N (fun q => .int (qI (σ j (q : Int))))) (fun q => by cases q) (by show ¬ (_ ∨ (arrV _ _ _).slots.size ≤ _); rw [arrV_size]; exact e2) rfl rfl hd fun H1 e9 z9 oq => ?_
  refine kk _ y hy H1 _ ls (hH.put hw ?_ oq) (hS.put z9 oq hz) hV
  show H1[a]? = some (vp_cell _ _)
  rw [e9]
  show some ((vp_cell _ _).setSlot _ _) = _
  rw [vp_cell_i, vp_cell_i, arrV_store]
  congr 2
  funext q
  rw [e1]
  by_cases hq : q = i.toNat
  · subst hq
    have e5 : (if ((i.toNat : Nat) : Int) = i then (qi2b v) else σ j ((i.toNat : Nat) : Int)) = (qi2b v) := if_pos e3
    refine Eq.trans ?_ (congrArg (fun z => Value.int (qI z)) e5.symm)
    unfold updV
    rw [if_pos rfl]
    show _ = Value.int (qI (qi2b v)); unfold qi2b; rw [qI_toInt]; rfl
  · have e5 : (if (q : Int) = i then (qi2b v) else σ j (q : Int)) = σ j (q : Int) := if_neg (by omega)
    refine Eq.trans ?_ (congrArg (fun z => Value.int (qI z)) e5.symm)
    unfold updV
    rw [if_neg hq]
theorem r_alen_qAI (cx : qCx p s m meth c cc nL own ret g z0) {cA : ClassId} {t0 : Nat} {ty : FieldType} (ht : (qTys g.2)[t0]? = some (cA, ty)) (hw : w j = some (a, qAI cA N)) (hM : (N : Int) = M) (hd : decode cc pc = .ok (.arraylength, 1)) (kk : qS p l e R s m args below meth c nL g z0 w k n Q F σ (pc + 1) lo (.int (qI M) :: rest)) : qS p l e R s m args below meth c nL g z0 w k n Q F σ pc lo (.ref a :: rest) := by
  intro y hy H locs ls hH hS hV
  subst hM
  refine va_alen cx.1 cx.2.1 cx.2.2.2.2.1.1 (qP1 (hH.1 _ _ _ hw).1) 0 t0 rfl ht ?_ hd (kk y hy H locs ls hH hS hV)
  exact (Int32.ofInt_eq_ofNat (n := N)).symm
theorem r_alen_qAR (cx : qCx p s m meth c cc nL own ret g z0) {fa : Nat → Nat} {cA : ClassId} {t0 : Nat} {ty : FieldType} (ht : (qTys g.2)[t0]? = some (cA, ty)) (hw : w j = some (a, qAR cA N fa)) (hM : (N : Int) = M) (hd : decode cc pc = .ok (.arraylength, 1)) (kk : qS p l e R s m args below meth c nL g z0 w k n Q F σ (pc + 1) lo (.int (qI M) :: rest)) : qS p l e R s m args below meth c nL g z0 w k n Q F σ pc lo (.ref a :: rest) := by
  intro y hy H locs ls hH hS hV
  subst hM
  refine va_alen cx.1 cx.2.1 cx.2.2.2.2.1.1 (qP1 (hH.1 _ _ _ hw).1) 0 t0 rfl ht ?_ hd (kk y hy H locs ls hH hS hV)
  exact (Int32.ofInt_eq_ofNat (n := N)).symm
theorem r_get {k0 : Nat} (cx : qCx p s m meth c cc nL own ret g z0) {C : String} {T : u_T} {ci ix : Nat} {fl : (Int → Int) → List Value} (hcl : qCl[ci]? = some (C, T, N)) (hws : ∀ x, x ∈ u_ws C T N → x ∈ lw_tbl ∧ goodWord x = true) (hw : w k0 = some (a, qOb ci fl)) (hj : j < N) (hm : Cond.fieldLink own ix (T j).1 (T j).2.1 (T j).2.2.1 ∈ lw_tbl) (hd : decode cc pc = .ok (.getfield ix, 3)) {x : Value} (hv : (fl (σ k0))[j]? = some x) (kk : qS p l e R s m args below meth c nL g z0 w k n Q F σ (pc + 3) lo (x :: rest)) : qS p l e R s m args below meth c nL g z0 w k n Q F σ pc lo (.ref a :: rest) := by
  intro y hy H locs ls hH hS hV
  have htw := cx.2.2.2.2.1.2.1
  exact va_get (Ts := u_ws C T N) cx.1 cx.2.1 (fun x hx => htw.word (hws x hx).1 (hws x hx).2) (fun x hx => hx) cx.2.2.2.1 cx.2.2.2.2.1.1 (qP1 (hH.1 _ _ _ hw).1) 0 rfl hcl j hj (htw.word hm rfl) (fun _ h => h) hv hd (kk y hy H locs ls hH hS hV)
theorem r_getN {k0 : Nat} {host : String} (cx : qCx p s m meth c cc nL own ret g z0) {C : String} {T : u_T} {ci ix : Nat} {fl : (Int → Int) → List Value} (hcl : qCl[ci]? = some (C, T, N)) (hws : ∀ x, x ∈ u_ws C T N → x ∈ lw_tbl ∧ goodWord x = true) (hw : w k0 = some (a, qOb ci fl)) (hj : j < N) (hm : Cond.fieldLinkNest own ix (T j).1 (T j).2.1 (T j).2.2.1 host ∈ lw_tbl) (hd : decode cc pc = .ok (.getfield ix, 3)) {x : Value} (hv : (fl (σ k0))[j]? = some x) (kk : qS p l e R s m args below meth c nL g z0 w k n Q F σ (pc + 3) lo (x :: rest)) : qS p l e R s m args below meth c nL g z0 w k n Q F σ pc lo (.ref a :: rest) := by
  intro y hy H locs ls hH hS hV
  have htw := cx.2.2.2.2.1.2.1
  exact va_getN (Ts := u_ws C T N) cx.1 cx.2.1 (fun x hx => htw.word (hws x hx).1 (hws x hx).2) (fun x hx => hx) cx.2.2.2.1 cx.2.2.2.2.1.1 (qP1 (hH.1 _ _ _ hw).1) 0 rfl hcl j hj (va_Nw.use rfl (htw.nestF hm)) (fun _ h => h) hv hd (kk y hy H locs ls hH hS hV)
theorem r_puti {k0 : Nat} {ty0 : Nat → FieldType} (cx : qCx p s m meth c cc nL own ret g z0) {C : String} {T : u_T} {ci ix : Nat} {fl : (Int → Int) → List Value} (hcl : qCl[ci]? = some (C, T, N)) (hws : ∀ x, x ∈ u_ws C T N → x ∈ lw_tbl ∧ goodWord x = true) (hw : w k0 = some (a, qOb ci fl)) (hj : j < N) (hty : ∀ k, k < N → parseFieldDescriptor (T k).2.2.1 = some (ty0 k)) (hnm : ∀ a, a < N → ∀ b, b < N → a ≠ b → (T a).2.1 ≠ (T b).2.1) (hm : Cond.fieldLink own ix (T j).1 (T j).2.1 (T j).2.2.1 ∈ lw_tbl) (hfin : (T j).2.2.2 = false) (hpd : parseFieldDescriptor (T j).2.2.1 = some .int) (hJ : (j : Int) = J) (hlen : j < (fl (σ k0)).length) (hset : ∀ r : Int → Int, (fl r).set j (.int (qI v)) = fl (fun j' => if j' = J then v else r j')) (hd : decode cc pc = .ok (.putfield ix, 3)) (kk : ∀ σ1, qS p l e R s m args below meth c nL g z0 w k n Q (f σ1) σ1 (pc + 3) lo rest) : qS p l e R s m args below meth c nL g z0 w k n Q (qb (qset σ k0 J v) f) σ pc lo (.int (qI v) :: .ref a :: rest) := by
  intro y hy H locs ls hH hS hV
  have htw := cx.2.2.2.2.1.2.1
  have hts : ∀ x ∈ u_ws C T N, x.before args s = true := fun x hx => htw.word (hws x hx).1 (hws x hx).2
  have hK := cx.2.2.2.2.1.1
  have hap := va_apart (own := own) hts (fun x hx => hx) ty0 hty hnm hK hcl
  obtain ⟨hat, hz⟩ := hH.1 _ _ _ hw
  obtain ⟨r, h1, cell, q1, q2, q3, q4⟩ := id hat
  have hr : r = (C, T, N) := Option.some.inj (h1.symm.trans hcl)
  subst hr
  obtain ⟨hSl, hfc, kC, hkC, hkind⟩ := hK.1 ci _ hcl
  obtain ⟨cf, kf, fi, fd, hi, hsl⟩ := hSl j hj
  have hlay := hts _ (u_in_lay hj)
  unfold u_lay at hlay
  rw [if_neg (by rw [hfin]; decide)] at hlay
  have hst := (u_facts hfc hkC (u_lays hts (fun x hx => hx) hj) hi).1
  have h6 := u_store (v := .int (qI v)) hfc hkC hkind hlay hi hpd rfl rfl
  refine W.putK cx.1 cx.2.1 (f := fd) ⟨cx.2.2.2.1, htw.word hm rfl, ⟨_, _, _, hi⟩, hst⟩ (by rw [q2]; exact h6) q1 q3 (by rw [hsl]; exact k2_hasslot (q4 j hj)) rfl rfl hd fun H' e1 e2 e3 => ?_
  rw [hsl] at e1 ⊢
  refine kk _ y hy H' _ ls (hH.put hw ?_ e3) (hS.put e2 e3 hz) hV
  refine ⟨_, hcl, t_OB.to (V := updV (vp_V (fl (σ k0))) j (.int (qI v))) ⟨_, e1, q2, q3, t_set q4 hap hj _⟩ (fun j2 _ => ?_)⟩
  rw [vp_updV_set hlen, hset]
theorem r_putl {k0 : Nat} {ty0 : Nat → FieldType} (cx : qCx p s m meth c cc nL own ret g z0) {C : String} {T : u_T} {ci ix : Nat} {fl : (Int → Int) → List Value} (hcl : qCl[ci]? = some (C, T, N)) (hws : ∀ x, x ∈ u_ws C T N → x ∈ lw_tbl ∧ goodWord x = true) (hw : w k0 = some (a, qOb ci fl)) (hj : j < N) (hty : ∀ k, k < N → parseFieldDescriptor (T k).2.2.1 = some (ty0 k)) (hnm : ∀ a, a < N → ∀ b, b < N → a ≠ b → (T a).2.1 ≠ (T b).2.1) (hm : Cond.fieldLink own ix (T j).1 (T j).2.1 (T j).2.2.1 ∈ lw_tbl) (hfin : (T j).2.2.2 = false) (hpd : parseFieldDescriptor (T j).2.2.1 = some .long) (hJ : (j : Int) = J) (hlen : j < (fl (σ k0)).length) (hset : ∀ r : Int → Int, (fl r).set j (.long (qJ v)) = fl (fun j' => if j' = J then v else r j')) (hd : decode cc pc = .ok (.putfield ix, 3)) (kk : ∀ σ1, qS p l e R s m args below meth c nL g z0 w k n Q (f σ1) σ1 (pc + 3) lo rest) : qS p l e R s m args below meth c nL g z0 w k n Q (qb (qset σ k0 J v) f) σ pc lo (.long (qJ v) :: .ref a :: rest) := by
  intro y hy H locs ls hH hS hV
  have htw := cx.2.2.2.2.1.2.1
  have hts : ∀ x ∈ u_ws C T N, x.before args s = true := fun x hx => htw.word (hws x hx).1 (hws x hx).2
  have hK := cx.2.2.2.2.1.1
  have hap := va_apart (own := own) hts (fun x hx => hx) ty0 hty hnm hK hcl
  obtain ⟨hat, hz⟩ := hH.1 _ _ _ hw
  obtain ⟨r, h1, cell, q1, q2, q3, q4⟩ := id hat
  have hr : r = (C, T, N) := Option.some.inj (h1.symm.trans hcl)
  subst hr
  obtain ⟨hSl, hfc, kC, hkC, hkind⟩ := hK.1 ci _ hcl
  obtain ⟨cf, kf, fi, fd, hi, hsl⟩ := hSl j hj
  have hlay := hts _ (u_in_lay hj)
  unfold u_lay at hlay
  rw [if_neg (by rw [hfin]; decide)] at hlay
  have hst := (u_facts hfc hkC (u_lays hts (fun x hx => hx) hj) hi).1
  have h6 := u_store (v := .long (qJ v)) hfc hkC hkind hlay hi hpd rfl rfl
  refine W.putK cx.1 cx.2.1 (f := fd) ⟨cx.2.2.2.1, htw.word hm rfl, ⟨_, _, _, hi⟩, hst⟩ (by rw [q2]; exact h6) q1 q3 (by rw [hsl]; exact k2_hasslot (q4 j hj)) rfl rfl hd fun H' e1 e2 e3 => ?_
  rw [hsl] at e1 ⊢
  refine kk _ y hy H' _ ls (hH.put hw ?_ e3) (hS.put e2 e3 hz) hV
  refine ⟨_, hcl, t_OB.to (V := updV (vp_V (fl (σ k0))) j (.long (qJ v))) ⟨_, e1, q2, q3, t_set q4 hap hj _⟩ (fun j2 _ => ?_)⟩
  rw [vp_updV_set hlen, hset]
theorem r_putiN {k0 : Nat} {host : String} {ty0 : Nat → FieldType} (cx : qCx p s m meth c cc nL own ret g z0) {C : String} {T : u_T} {ci ix : Nat} {fl : (Int → Int) → List Value} (hcl : qCl[ci]? = some (C, T, N)) (hws : ∀ x, x ∈ u_ws C T N → x ∈ lw_tbl ∧ goodWord x = true) (hw : w k0 = some (a, qOb ci fl)) (hj : j < N) (hty : ∀ k, k < N → parseFieldDescriptor (T k).2.2.1 = some (ty0 k)) (hnm : ∀ a, a < N → ∀ b, b < N → a ≠ b → (T a).2.1 ≠ (T b).2.1) (hm : Cond.fieldLinkNest own ix (T j).1 (T j).2.1 (T j).2.2.1 host ∈ lw_tbl) (hfin : (T j).2.2.2 = false) (hpd : parseFieldDescriptor (T j).2.2.1 = some .int) (hJ : (j : Int) = J) (hlen : j < (fl (σ k0)).length) (hset : ∀ r : Int → Int, (fl r).set j (.int (qI v)) = fl (fun j' => if j' = J then v else r j')) (hd : decode cc pc = .ok (.putfield ix, 3)) (kk : ∀ σ1, qS p l e R s m args below meth c nL g z0 w k n Q (f σ1) σ1 (pc + 3) lo rest) : qS p l e R s m args below meth c nL g z0 w k n Q (qb (qset σ k0 J v) f) σ pc lo (.int (qI v) :: .ref a :: rest) := by
  intro y hy H locs ls hH hS hV
  have htw := cx.2.2.2.2.1.2.1
  have hts : ∀ x ∈ u_ws C T N, x.before args s = true := fun x hx => htw.word (hws x hx).1 (hws x hx).2
  have hK := cx.2.2.2.2.1.1
  have hap := va_apart (own := own) hts (fun x hx => hx) ty0 hty hnm hK hcl
  obtain ⟨hat, hz⟩ := hH.1 _ _ _ hw
  obtain ⟨r, h1, cell, q1, q2, q3, q4⟩ := id hat
  have hr : r = (C, T, N) := Option.some.inj (h1.symm.trans hcl)
  subst hr
  obtain ⟨hSl, hfc, kC, hkC, hkind⟩ := hK.1 ci _ hcl
  obtain ⟨cf, kf, fi, fd, hi, hsl⟩ := hSl j hj
  have hlay := hts _ (u_in_lay hj)
  unfold u_lay at hlay
  rw [if_neg (by rw [hfin]; decide)] at hlay
  have hst := (u_facts hfc hkC (u_lays hts (fun x hx => hx) hj) hi).1
  have h6 := u_store (v := .int (qI v)) hfc hkC hkind hlay hi hpd rfl rfl
  refine va_WputK cx.1 cx.2.1 (f := fd) cx.2.2.2.1 (va_Nw.use rfl (htw.nestF hm)) hi hst (by rw [q2]; exact h6) q1 q3 (by rw [hsl]; exact k2_hasslot (q4 j hj)) rfl rfl hd fun H' e1 e2 e3 => ?_
  rw [hsl] at e1 ⊢
  refine kk _ y hy H' _ ls (hH.put hw ?_ e3) (hS.put e2 e3 hz) hV
  refine ⟨_, hcl, t_OB.to (V := updV (vp_V (fl (σ k0))) j (.int (qI v))) ⟨_, e1, q2, q3, t_set q4 hap hj _⟩ (fun j2 _ => ?_)⟩
  rw [vp_updV_set hlen, hset]
theorem r_putlN {k0 : Nat} {host : String} {ty0 : Nat → FieldType} (cx : qCx p s m meth c cc nL own ret g z0) {C : String} {T : u_T} {ci ix : Nat} {fl : (Int → Int) → List Value} (hcl : qCl[ci]? = some (C, T, N)) (hws : ∀ x, x ∈ u_ws C T N → x ∈ lw_tbl ∧ goodWord x = true) (hw : w k0 = some (a, qOb ci fl)) (hj : j < N) (hty : ∀ k, k < N → parseFieldDescriptor (T k).2.2.1 = some (ty0 k)) (hnm : ∀ a, a < N → ∀ b, b < N → a ≠ b → (T a).2.1 ≠ (T b).2.1) (hm : Cond.fieldLinkNest own ix (T j).1 (T j).2.1 (T j).2.2.1 host ∈ lw_tbl) (hfin : (T j).2.2.2 = false) (hpd : parseFieldDescriptor (T j).2.2.1 = some .long) (hJ : (j : Int) = J) (hlen : j < (fl (σ k0)).length) (hset : ∀ r : Int → Int, (fl r).set j (.long (qJ v)) = fl (fun j' => if j' = J then v else r j')) (hd : decode cc pc = .ok (.putfield ix, 3)) (kk : ∀ σ1, qS p l e R s m args below meth c nL g z0 w k n Q (f σ1) σ1 (pc + 3) lo rest) : qS p l e R s m args below meth c nL g z0 w k n Q (qb (qset σ k0 J v) f) σ pc lo (.long (qJ v) :: .ref a :: rest) := by
  intro y hy H locs ls hH hS hV
  have htw := cx.2.2.2.2.1.2.1
  have hts : ∀ x ∈ u_ws C T N, x.before args s = true := fun x hx => htw.word (hws x hx).1 (hws x hx).2
  have hK := cx.2.2.2.2.1.1
  have hap := va_apart (own := own) hts (fun x hx => hx) ty0 hty hnm hK hcl
  obtain ⟨hat, hz⟩ := hH.1 _ _ _ hw
  obtain ⟨r, h1, cell, q1, q2, q3, q4⟩ := id hat
  have hr : r = (C, T, N) := Option.some.inj (h1.symm.trans hcl)
  subst hr
  obtain ⟨hSl, hfc, kC, hkC, hkind⟩ := hK.1 ci _ hcl
  obtain ⟨cf, kf, fi, fd, hi, hsl⟩ := hSl j hj
  have hlay := hts _ (u_in_lay hj)
  unfold u_lay at hlay
  rw [if_neg (by rw [hfin]; decide)] at hlay
  have hst := (u_facts hfc hkC (u_lays hts (fun x hx => hx) hj) hi).1
  have h6 := u_store (v := .long (qJ v)) hfc hkC hkind hlay hi hpd rfl rfl
  refine va_WputK cx.1 cx.2.1 (f := fd) cx.2.2.2.1 (va_Nw.use rfl (htw.nestF hm)) hi hst (by rw [q2]; exact h6) q1 q3 (by rw [hsl]; exact k2_hasslot (q4 j hj)) rfl rfl hd fun H' e1 e2 e3 => ?_
  rw [hsl] at e1 ⊢
  refine kk _ y hy H' _ ls (hH.put hw ?_ e3) (hS.put e2 e3 hz) hV
  refine ⟨_, hcl, t_OB.to (V := updV (vp_V (fl (σ k0))) j (.long (qJ v))) ⟨_, e1, q2, q3, t_set q4 hap hj _⟩ (fun j2 _ => ?_)⟩
  rw [vp_updV_set hlen, hset]
theorem r_copy (cx : qCx p s m meth c cc nL own ret g z0) {ix j0 a0 N0 : Nat} {len : Int} (hw0 : w j0 = some (a0, qAI (g.2 0) N0)) (hw : w j = some (a, qAI (g.2 0) N)) (hle : 0 ≤ len ∧ len ≤ (N0 : Int) ∧ len ≤ (N : Int) ∧ len ≤ 1000000) (hm : Cond.methodLink own ix arraycopyName ∈ lw_tbl) (hmn : Cond.native arraycopyName ∈ lw_tbl) (hms : Cond.static arraycopyName ∈ lw_tbl) (hmi : Cond.initialized "java/lang/System" ∈ lw_tbl) (hfr : 1 ≤ R.frames) (hlo : (rest.map fun v => v.category).sum + (nativeFrameWords "java/lang/System" "arraycopy" 5 + 11) ≤ R.locals) (hd : decode cc pc = .ok (.invokestatic ix, 3)) (kk : ∀ σ1, qS p l e R s m args below meth c nL g z0 w k n Q (f σ1) σ1 (pc + 3) lo rest) : qS p l e R s m args below meth c nL g z0 w k n Q (qb (qrow σ j (fun i' => if 0 ≤ i' ∧ i' < len then σ j0 i' else σ j i')) f) σ pc lo (.int (qI len) :: .int (qI 0) :: .ref a :: .int (qI 0) :: .ref a0 :: rest) := by
  intro y hy H locs ls hH hS hV T hT X
  have htw := cx.2.2.2.2.1.2.1
  obtain ⟨l0, l1, l2, l3⟩ := hle
  have hlen : (qI len).toInt = len := qI_of (by omega) (by omega)
  have hz0 : (qI 0).toInt = 0 := qI_of (by omega) (by omega)
  have hcl : (qI len).toNatClampNeg = len.toNat := by show (qI len).toInt.toNat = _; rw [hlen]
  have hcz : (qI 0).toNatClampNeg = 0 := by show (qI 0).toInt.toNat = _; rw [hz0]; rfl
  obtain ⟨hat0, -⟩ := hH.1 _ _ _ hw0
  obtain ⟨hat, hz⟩ := hH.1 _ _ _ hw
  have hc0 : H[a0]? = some (vp_cell (g.2 0) (N0, .inl (fun q => qI (σ j0 (q : Int))))) := hat0
  have hc1 : H[a]? = some (vp_cell (g.2 0) (N, .inl (fun q => qI (σ j (q : Int))))) := hat
  obtain ⟨-, k0, hk0, cm0, hkk0⟩ := (cx.2.2.2.2.1.1.2 0 _ rfl).1 N0 (fun q => .int (qI (σ j0 (q : Int))))
  obtain ⟨-, k1, hk1, cm1, hkk1⟩ := (cx.2.2.2.2.1.1.2 0 _ rfl).1 N (fun q => .int (qI (σ j (q : Int))))
  obtain ⟨vm', X', step⟩ := X.arraycopy cx.1 cx.2.2.2.1 (htw.word hm rfl) (htw.word hmn rfl) (htw.word hms rfl) (htw.word hmi rfl) (src := a0) (dst := a) (cs := vp_cell (g.2 0) (N0, .inl (fun q => qI (σ j0 (q : Int))))) (cd := vp_cell (g.2 0) (N, .inl (fun q => qI (σ j (q : Int))))) (srcPos := qI 0) (destPos := qI 0) (n := qI len) (by rw [hT]; exact hc0) (by rw [hT]; exact hc1)
    (fun _ h => by cases h) (fun _ h => by cases h) (fun h => by cases h) (fun h => by cases h) hk0 hk1 hkk0 hkk1 (by simp [refKind]) (by decide) (by decide) (by rw [Int32.lt_iff_toInt_lt, hlen]; simp; omega)
    (by rw [hz0, hlen]; show ¬ _ > ((arrV _ N0 _).slots.size : Int); rw [arrV_size]; omega)
    (by rw [hz0, hlen]; show ¬ _ > ((arrV _ N _).slots.size : Int); rw [arrV_size]; omega)
    (fun vm₁ _ i hi => by
      have e : (vp_cell (g.2 0) (N0, .inl (fun q => qI (σ j0 (q : Int))))).slots.getD ((qI 0).toNatClampNeg + i) .null = .int (qI (σ j0 ((i : Nat) : Int))) := by
        show (arrV (g.2 0) N0 (fun q => .int (qI (σ j0 (q : Int))))).slots.getD _ _ = _
        rw [hcl] at hi
        rw [hcz, Nat.zero_add, Array.getD_eq_getD_getElem?, arrV_read _ _ (by omega)]
        rfl
      refine ⟨?_, ?_⟩
      · rw [e]
        rfl
      · rw [e]
        exact trivial)
    (g := F0 m pc ls (.int (qI len) :: .int (qI 0) :: .ref a :: .int (qI 0) :: .ref a0 :: rest)) rfl (by rw [cx.2.2.1]; exact hV.1) (rest := rest) rfl (by rw [cx.2.1]; exact hd) hfr (by show 2 * 0 + _ + _ ≤ _; omega)
  have h4 : (qI 0).toNatClampNeg + (qI len).toNatClampNeg ≤ N0 := by rw [hcz, hcl]; omega
  have e1 : copied (vp_cell (g.2 0) (N0, .inl (fun q => qI (σ j0 (q : Int))))) (vp_cell (g.2 0) (N, .inl (fun q => qI (σ j (q : Int))))) (qI 0) (qI 0) (qI len) = vp_cell (g.2 0) (N, .inl (va_cpy (fun q => qI (σ j0 (q : Int))) (fun q => qI (σ j (q : Int))) (qI 0).toNatClampNeg (qI 0).toNatClampNeg (qI len).toNatClampNeg)) := va_copied (fun z => .int z) (g.2 0) (g.2 0) (fun q : Nat => qI (σ j0 (q : Int))) (fun q : Nat => qI (σ j (q : Int))) h4
  rw [e1] at X' step
  have hl : a < H.size := (Array.getElem?_eq_some_iff.mp hc1).1
  generalize hcell : vp_cell (g.2 0) (N, .inl (va_cpy (fun q => qI (σ j0 (q : Int))) (fun q => qI (σ j (q : Int))) (qI 0).toNatClampNeg (qI 0).toNatClampNeg (qI len).toNatClampNeg)) = cell9 at X' step
  have hheap : ((T.setVm vm').setCell a cell9).heap = H.setIfInBounds a cell9 := by rw [← hT]; rfl
  have oq : ∀ q : Nat, q ≠ a → (H.setIfInBounds a cell9)[q]? = H[q]? := fun q hq => by simp [Array.getElem?_setIfInBounds, Ne.symm hq]
  have hnew : va_at g.1 qCl (a, qAI (g.2 0) N (fun i' => if 0 ≤ i' ∧ i' < len then σ j0 i' else σ j i')) (H.setIfInBounds a cell9) := by
    show (H.setIfInBounds a cell9)[a]? = some (vp_cell _ _)
    rw [Array.getElem?_setIfInBounds, if_pos rfl, if_pos hl, ← hcell]
    congr 2
    congr 1
    congr 1
    funext q
    rw [hcz, hcl]
    unfold va_cpy
    by_cases hq : 0 ≤ q ∧ q < 0 + len.toNat
    · have e5 : (if (0 : Int) ≤ (q : Int) ∧ (q : Int) < len then σ j0 (q : Int) else σ j (q : Int)) = σ j0 (q : Int) := if_pos (by omega)
      refine Eq.trans ?_ (congrArg qI e5.symm)
      rw [if_pos hq, Nat.zero_add, Nat.sub_zero]
    · have e5 : (if (0 : Int) ≤ (q : Int) ∧ (q : Int) < len then σ j0 (q : Int) else σ j (q : Int)) = σ j (q : Int) := if_neg (by omega)
      refine Eq.trans ?_ (congrArg qI e5.symm)
      rw [if_neg hq]
  obtain ⟨t, a1, b1⟩ := kk _ y hy _ _ ls (hH.put hw hnew oq) ⟨by simp; exact hS.1, fun q g1 g2 => by
      rw [oq q (fun e => g2 (by rw [e]; exact hz))]
      exact hS.2.1 q g1 g2, fun q hq => by
      rcases List.mem_append.mp hq with h | h
      · exact hS.2.2 q h
      · obtain ⟨z, -, hz9⟩ := List.mem_map.mp h
        rw [← hz9]
        exact hz⟩ hV _ hheap X'
  exact ⟨t, step t a1, b1⟩
theorem r_true {C : Prop} {hC : Decidable C} (h : C) (kk : qS p l e R s m args below meth c nL g z0 w k n Q (if C then F else none) σ pc lo st) : qS p l e R s m args below meth c nL g z0 w k n Q F σ pc lo st := by
  rw [if_pos h] at kk
  exact kk
end HROWS
