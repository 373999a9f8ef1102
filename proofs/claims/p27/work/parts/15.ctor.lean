/-! ===== constructors: the world grows ===== -/
def qNQ (P : qWd → Prop) (g : qG) (z0 : Nat) (u : Int × qSt) : Array Value → State → Outcome → State → Prop := fun _ st o t => (o = .returned none ∧ ∃ w', P w' ∧ qR g z0 w' u.2 t.heap) ∧ va_F (qA z0) st t
def qNT (l : Launch) (y : MethodName) (cc : ByteArray) (nL : Nat) (rm : Room) (g : qG) (z0 : Nat) (w : qWd) (av : List Value) (σ : qSt) (F : Option (Int × qSt)) (P : qWd → Prop) : Prop :=
  ∀ u, F = some u → Met l y [.code y cc nL none] rm (va_Pc av (qPc g z0 w σ)) (qNQ P g z0 u) rm.cells rm.slots (qA z0)
theorem qNT.of {l : Launch} {y : MethodName} {cc : ByteArray} {nL : Nat} {rm : Room} {g : qG} {z0 : Nat} {w : qWd} {av : List Value} {σ : qSt} {F : Option (Int × qSt)} {P : qWd → Prop} (lo : qLo) (hy : plainFor y = true) (hn : (lg_sl av).length ≤ nL) (hlo : qlist (lv_args 0 av) = lo)
    (body : ∀ p e s m args below meth c, qCx p s m meth c cc nL y.cls none g z0 → meth.name = y.name → qS p l e rm s m args below meth c nL g z0 w 0 0 (fun u => MQ below (qNQ P g z0 u) args s rm.cells rm.slots (qA z0)) F σ 0 lo []) : qNT l y cc nL rm g z0 w av σ F P := by
  intro u hu
  refine MetFree.of_bodySF (code := cc) (maxLocals := nL) (ret := none) hy ?_ ?_
  · intro args s m h hn
    obtain ⟨meth, c, h1, h2, h3, h4, h5, h6, -, -⟩ := Cond.code_spec hn (atoms_spec (ws := [Cond.code y cc nL none]) h _ List.mem_cons_self)
    exact ⟨meth, c, h1, h2, h3, h4, h5, h6⟩
  · intro p e s m args below meth c s₁ B hml hP _
    obtain ⟨rfl, hR, hK⟩ := hP
    have hh0 : s₁.heap = s.heap := by rw [B.state]; rfl
    subst hlo
    have h1 := body p e s m av.toArray below meth c ⟨B.exec, B.bytes, hml, findClass_of_methodNamed B.named, hK, B.returns, B.notSynchronized⟩ (name_of_methodNamed B.named B.method).1 u hu s.heap [] _ hR va_S.rf (qV.entry av hn)
    rw [← lg_entry_eq m av nL] at h1
    obtain ⟨t, a1, o, b1, b2, b3⟩ := h1 s₁ hh0 (Stand.of_body B)
    exact ⟨t, o, a1, b1, b2, ⟨b3.1, b3.2⟩⟩
def qWmna (w : qWd) (k0 k1 : Nat) (a : Nat) (cO cI : ClassId) (K : Nat) : qWd := fun j => if j = k0 then some (a, qAR cO 4 (fun i => a + 1 + i)) else if k1 ≤ j ∧ j < k1 + 4 then some (a + 1 + (j - k1), qAI cI K) else w j
def qSmna (σ : qSt) (k0 k1 : Nat) : qSt := fun j => if j = k0 ∨ (k1 ≤ j ∧ j < k1 + 4) then (fun _ => 0) else σ j
theorem qouter (c : ClassId) (N h0 : Nat) : ∀ i : Nat, Jvm.Free.Multi.outerC c N h0 i = arrV c N (fun j => va_rf (if j < i then some (h0 + 1 + j) else none))
  | 0 => by
    show ({ cls := c, slots := Array.replicate N .null, vm := .none } : Cell) = _
    rw [arrV_new]
    refine congrArg (arrV c N) (funext fun j => ?_)
    simp [va_rf]
  | i + 1 => by
    show (Jvm.Free.Multi.outerC c N h0 i).setSlot i (.ref (h0 + 1 + i)) = _
    rw [qouter c N h0 i, arrV_store]
    refine congrArg (arrV c N) (funext fun j => ?_)
    by_cases e : j = i
    · subst e
      simp [updV, va_rf]
    · by_cases h : j < i
      · simp [updV, e, h, Nat.lt_succ_of_lt h]
      · simp [updV, e, h, show ¬ j < i + 1 by omega]
theorem arrV_cong {c : ClassId} {N : Nat} {f f' : Nat → Value} (h : ∀ j, j < N → f j = f' j) : arrV c N f = arrV c N f' := by
  unfold arrV
  congr 1
  apply Array.ext
  · simp
  · intro i h1 h2
    simp only [Array.getElem_ofFn]
    exact h i (by simpa using h1)
section GROWS
variable {Y : Type} {p : Program} {l : Launch} {e : Env} {R : Room} {s : State} {m : MethodId} {args : Array Value} {below : List Frame} {meth : Method} {c : Code}
variable {cc : ByteArray} {nL : Nat} {own : String} {ret : Option FieldType} {g : qG} {z0 : Nat} {w : qWd} {k n : Nat} {Q : Y → State → Prop} {F : Option Y} {σ : qSt} {pc : Nat} {lo : qLo} {st rest : List Value} {mc ms : Nat} {f : qSt → Option Y}
theorem r_mna_i (cx : qCx p s m meth c cc nL own ret g z0) (k0 k1 K : Nat) {ix : Nat} {M : Int} (hM : (K : Int) = M) (hN : M ≤ 100000) (hk : ¬ (k1 ≤ k0 ∧ k0 < k1 + 4)) (hm : Cond.classLink own ix ("[" ++ (FieldType.array .int).toString) ∈ lw_tbl) (hov : Cond.arrayOver (.array .int) ∈ lw_tbl) (harr : Cond.arrayClass .int ∈ lw_tbl) (hc : k + (1 + 4) ≤ R.cells) (hn : n + (4 + 4 * K) ≤ R.slots) (hd : decode cc pc = .ok (.multianewarray ix 2, 4)) (kk : ∀ (q : Nat) σ1, qS p l e R s m args below meth c nL g z0 (qWmna w k0 k1 q (g.2 2) (g.2 0) K) (k + 1 + 4) (n + 4 + 4 * K) Q (f σ1) σ1 (pc + 4) lo (.ref q :: rest)) : qS p l e R s m args below meth c nL g z0 w k n Q (qb (qSmna σ k0 k1) f) σ pc lo (.int (qI M) :: .int (qI 4) :: rest) := by
  intro y hy H locs ls hH hS hV T hT X
  have htw := cx.2.2.2.2.1.2.1
  have hz0 : z0 ≤ H.size := Nat.le_trans cx.2.2.2.2.1.2.2.2.2.1 hS.1
  subst hM
  have hi : (qI (K : Int)).toInt = K := qI_of (by omega) (by omega)
  have h4 : (qI 4).toInt = 4 := qI_of (by omega) (by omega)
  have hnK : (qI (K : Int)).toNatClampNeg = K := by show (qI (K : Int)).toInt.toNat = _; rw [hi]; rfl
  have hn4 : (qI 4).toNatClampNeg = 4 := by show (qI 4).toInt.toNat = _; rw [h4]; rfl
  have hcb : componentBytes (.int) ≤ 8 := by decide
  have hcN : (qI (K : Int)).toNatClampNeg * componentBytes (.int) ≤ 536870912 := by
    rw [hnK]
    have := Nat.mul_le_mul_left K hcb
    omega
  obtain ⟨vm₁, cA, comp, hWm, fA, fC, -, -, X', step⟩ := X.multianewarray2F cx.1 cx.2.2.2.1 (htw.word hm rfl) (htw.over hov) (htw.word harr rfl) (g := F0 m pc ls (.int (qI (K : Int)) :: .int (qI 4) :: rest)) rfl (by rw [cx.2.1]; exact hd) rfl (by rw [Int32.lt_iff_toInt_lt, h4]; decide) (by rw [Int32.lt_iff_toInt_lt, hi]; simp) (by rw [hn4]; decide) hcN (by rw [hnK]; omega) rfl rfl (by rw [hn4]; exact hc) (by rw [hn4, hnK]; exact hn)
  have e1 : cA = g.2 2 := by
    have h9 := (cx.2.2.2.2.1.1.2 2 _ rfl).2
    exact Option.some.inj (fA.symm.trans h9)
  have e2 : comp = g.2 0 := by
    have h9 := (cx.2.2.2.2.1.1.2 0 _ rfl).2
    exact Option.some.inj (fC.symm.trans h9)
  subst e1
  subst e2
  rw [hn4, hnK] at X' step
  generalize hF : Jvm.Free.Multi.fill (T.setVm vm₁) (g.2 2) (g.2 0) 4 K (defaultValue (.int)) 4 = U at X' step
  have hTh : (T.setVm vm₁).heap = H := hT
  obtain ⟨f1, f2, -, -⟩ := Jvm.Free.Multi.fill_facts (T.setVm vm₁) (g.2 2) (g.2 0) 4 K (defaultValue (.int)) 4
  rw [hF, hTh] at f1 f2
  have hold : ∀ x : Nat, x < H.size → U.heap[x]? = H[x]? := fun x hx => by
    have := Jvm.Free.Multi.fill_old (T.setVm vm₁) (g.2 2) (g.2 0) 4 K (defaultValue (.int)) (a := x) (by rw [hTh]; exact hx) 4
    rw [hF, hTh] at this
    exact this
  have hrow : ∀ j : Nat, j < 4 → va_at g.1 qCl (H.size + 1 + j, (qAI (g.2 0) K) (fun _ => 0)) U.heap := fun j hj => by
    have := Jvm.Free.Multi.fill_inner (T.setVm vm₁) (g.2 2) (g.2 0) 4 K (defaultValue (.int)) 4 j hj
    rw [hF, hTh] at this
    show U.heap[H.size + 1 + j]? = some (vp_cell _ _)
    rw [this]
    show some ({ cls := _, slots := Array.replicate K (.int 0), vm := .none } : Cell) = _
    rw [arrV_new]
    rfl
  have hout : va_at g.1 qCl (H.size, (qAR (g.2 2) 4 (fun i => H.size + 1 + i)) (fun _ => 0)) U.heap := by
    show U.heap[H.size]? = some (vp_cell _ _)
    rw [f2, qouter, vp_cell_q]
    exact congrArg some (arrV_cong (fun j hj => by rw [if_pos hj]))
  have hR1 : qR g z0 (qWmna w k0 k1 H.size (g.2 2) (g.2 0) K) (qSmna σ k0 k1) U.heap := by
    refine ⟨fun j a f9 hj => ?_, fun i j a f9 h9 hi9 hj9 => ?_⟩
    · unfold qWmna at hj
      unfold qSmna
      by_cases c1 : j = k0
      · rw [if_pos c1] at hj
        cases hj
        rw [if_pos (Or.inl c1)]
        exact ⟨hout, hz0⟩
      · rw [if_neg c1] at hj
        by_cases c2 : k1 ≤ j ∧ j < k1 + 4
        · rw [if_pos c2] at hj
          cases hj
          rw [if_pos (Or.inr c2)]
          exact ⟨hrow (j - k1) (by omega), by omega⟩
        · rw [if_neg c2] at hj
          rw [if_neg (by rintro (z | z); exact c1 z; exact c2 z)]
          obtain ⟨g1, g2⟩ := hH.1 j a f9 hj
          exact ⟨g1.kept (hold a g1.lt), g2⟩
    · have key : ∀ (j a : Nat) (f9 : qLay), qWmna w k0 k1 H.size (g.2 2) (g.2 0) K j = some (a, f9) → (j = k0 ∧ a = H.size) ∨ (k1 ≤ j ∧ j < k1 + 4 ∧ a = H.size + 1 + (j - k1)) ∨ (w j = some (a, f9) ∧ a < H.size) := fun j a f9 hj => by
        unfold qWmna at hj
        by_cases c1 : j = k0
        · rw [if_pos c1] at hj
          cases hj
          exact Or.inl ⟨c1, rfl⟩
        · rw [if_neg c1] at hj
          by_cases c2 : k1 ≤ j ∧ j < k1 + 4
          · rw [if_pos c2] at hj
            cases hj
            exact Or.inr (Or.inl ⟨c2.1, c2.2, rfl⟩)
          · rw [if_neg c2] at hj
            exact Or.inr (Or.inr ⟨hj, hH.lt hj⟩)
      rcases key i a f9 hi9 with ⟨x1, x2⟩ | ⟨x1, x2, x3⟩ | ⟨x1, x2⟩ <;> rcases key j a h9 hj9 with ⟨y1, y2⟩ | ⟨y1, y2, y3⟩ | ⟨y1, y2⟩
      · omega
      · omega
      · omega
      · omega
      · omega
      · omega
      · omega
      · omega
      · exact hH.2 i j a f9 h9 x1 y1
  obtain ⟨t, a1, b1⟩ := kk H.size _ y hy U.heap locs ls hR1 ⟨Nat.le_trans hS.1 (by omega), fun x h1 h2 => (hold x (Nat.lt_of_lt_of_le h1 hS.1)).trans (hS.2.1 x h1 h2), hS.2.2⟩ hV U rfl X'
  refine ⟨t, step t ?_, b1⟩
  rw [hT]
  exact a1
theorem r_mna_b (cx : qCx p s m meth c cc nL own ret g z0) (k0 k1 K : Nat) {ix : Nat} {M : Int} (hM : (K : Int) = M) (hN : M ≤ 100000) (hk : ¬ (k1 ≤ k0 ∧ k0 < k1 + 4)) (hm : Cond.classLink own ix ("[" ++ (FieldType.array .byte).toString) ∈ lw_tbl) (hov : Cond.arrayOver (.array .byte) ∈ lw_tbl) (harr : Cond.arrayClass .byte ∈ lw_tbl) (hc : k + (1 + 4) ≤ R.cells) (hn : n + (4 + 4 * K) ≤ R.slots) (hd : decode cc pc = .ok (.multianewarray ix 2, 4)) (kk : ∀ (q : Nat) σ1, qS p l e R s m args below meth c nL g z0 (qWmna w k0 k1 q (g.2 3) (g.2 1) K) (k + 1 + 4) (n + 4 + 4 * K) Q (f σ1) σ1 (pc + 4) lo (.ref q :: rest)) : qS p l e R s m args below meth c nL g z0 w k n Q (qb (qSmna σ k0 k1) f) σ pc lo (.int (qI M) :: .int (qI 4) :: rest) := by
  intro y hy H locs ls hH hS hV T hT X
  have htw := cx.2.2.2.2.1.2.1
  have hz0 : z0 ≤ H.size := Nat.le_trans cx.2.2.2.2.1.2.2.2.2.1 hS.1
  subst hM
  have hi : (qI (K : Int)).toInt = K := qI_of (by omega) (by omega)
  have h4 : (qI 4).toInt = 4 := qI_of (by omega) (by omega)
  have hnK : (qI (K : Int)).toNatClampNeg = K := by show (qI (K : Int)).toInt.toNat = _; rw [hi]; rfl
  have hn4 : (qI 4).toNatClampNeg = 4 := by show (qI 4).toInt.toNat = _; rw [h4]; rfl
  have hcb : componentBytes (.byte) ≤ 8 := by decide
  have hcN : (qI (K : Int)).toNatClampNeg * componentBytes (.byte) ≤ 536870912 := by
    rw [hnK]
    have := Nat.mul_le_mul_left K hcb
    omega
  obtain ⟨vm₁, cA, comp, hWm, fA, fC, -, -, X', step⟩ := X.multianewarray2F cx.1 cx.2.2.2.1 (htw.word hm rfl) (htw.over hov) (htw.word harr rfl) (g := F0 m pc ls (.int (qI (K : Int)) :: .int (qI 4) :: rest)) rfl (by rw [cx.2.1]; exact hd) rfl (by rw [Int32.lt_iff_toInt_lt, h4]; decide) (by rw [Int32.lt_iff_toInt_lt, hi]; simp) (by rw [hn4]; decide) hcN (by rw [hnK]; omega) rfl rfl (by rw [hn4]; exact hc) (by rw [hn4, hnK]; exact hn)
  have e1 : cA = g.2 3 := by
    have h9 := (cx.2.2.2.2.1.1.2 3 _ rfl).2
    exact Option.some.inj (fA.symm.trans h9)
  have e2 : comp = g.2 1 := by
    have h9 := (cx.2.2.2.2.1.1.2 1 _ rfl).2
    exact Option.some.inj (fC.symm.trans h9)
  subst e1
  subst e2
  rw [hn4, hnK] at X' step
  generalize hF : Jvm.Free.Multi.fill (T.setVm vm₁) (g.2 3) (g.2 1) 4 K (defaultValue (.byte)) 4 = U at X' step
  have hTh : (T.setVm vm₁).heap = H := hT
  obtain ⟨f1, f2, -, -⟩ := Jvm.Free.Multi.fill_facts (T.setVm vm₁) (g.2 3) (g.2 1) 4 K (defaultValue (.byte)) 4
  rw [hF, hTh] at f1 f2
  have hold : ∀ x : Nat, x < H.size → U.heap[x]? = H[x]? := fun x hx => by
    have := Jvm.Free.Multi.fill_old (T.setVm vm₁) (g.2 3) (g.2 1) 4 K (defaultValue (.byte)) (a := x) (by rw [hTh]; exact hx) 4
    rw [hF, hTh] at this
    exact this
  have hrow : ∀ j : Nat, j < 4 → va_at g.1 qCl (H.size + 1 + j, (qAI (g.2 1) K) (fun _ => 0)) U.heap := fun j hj => by
    have := Jvm.Free.Multi.fill_inner (T.setVm vm₁) (g.2 3) (g.2 1) 4 K (defaultValue (.byte)) 4 j hj
    rw [hF, hTh] at this
    show U.heap[H.size + 1 + j]? = some (vp_cell _ _)
    rw [this]
    show some ({ cls := _, slots := Array.replicate K (.int 0), vm := .none } : Cell) = _
    rw [arrV_new]
    rfl
  have hout : va_at g.1 qCl (H.size, (qAR (g.2 3) 4 (fun i => H.size + 1 + i)) (fun _ => 0)) U.heap := by
    show U.heap[H.size]? = some (vp_cell _ _)
    rw [f2, qouter, vp_cell_q]
    exact congrArg some (arrV_cong (fun j hj => by rw [if_pos hj]))
  have hR1 : qR g z0 (qWmna w k0 k1 H.size (g.2 3) (g.2 1) K) (qSmna σ k0 k1) U.heap := by
    refine ⟨fun j a f9 hj => ?_, fun i j a f9 h9 hi9 hj9 => ?_⟩
    · unfold qWmna at hj
      unfold qSmna
      by_cases c1 : j = k0
      · rw [if_pos c1] at hj
        cases hj
        rw [if_pos (Or.inl c1)]
        exact ⟨hout, hz0⟩
      · rw [if_neg c1] at hj
        by_cases c2 : k1 ≤ j ∧ j < k1 + 4
        · rw [if_pos c2] at hj
          cases hj
          rw [if_pos (Or.inr c2)]
          exact ⟨hrow (j - k1) (by omega), by omega⟩
        · rw [if_neg c2] at hj
          rw [if_neg (by rintro (z | z); exact c1 z; exact c2 z)]
          obtain ⟨g1, g2⟩ := hH.1 j a f9 hj
          exact ⟨g1.kept (hold a g1.lt), g2⟩
    · have key : ∀ (j a : Nat) (f9 : qLay), qWmna w k0 k1 H.size (g.2 3) (g.2 1) K j = some (a, f9) → (j = k0 ∧ a = H.size) ∨ (k1 ≤ j ∧ j < k1 + 4 ∧ a = H.size + 1 + (j - k1)) ∨ (w j = some (a, f9) ∧ a < H.size) := fun j a f9 hj => by
        unfold qWmna at hj
        by_cases c1 : j = k0
        · rw [if_pos c1] at hj
          cases hj
          exact Or.inl ⟨c1, rfl⟩
        · rw [if_neg c1] at hj
          by_cases c2 : k1 ≤ j ∧ j < k1 + 4
          · rw [if_pos c2] at hj
            cases hj
            exact Or.inr (Or.inl ⟨c2.1, c2.2, rfl⟩)
          · rw [if_neg c2] at hj
            exact Or.inr (Or.inr ⟨hj, hH.lt hj⟩)
      rcases key i a f9 hi9 with ⟨x1, x2⟩ | ⟨x1, x2, x3⟩ | ⟨x1, x2⟩ <;> rcases key j a h9 hj9 with ⟨y1, y2⟩ | ⟨y1, y2, y3⟩ | ⟨y1, y2⟩
      · omega
      · omega
      · omega
      · omega
      · omega
      · omega
      · omega
      · omega
      · exact hH.2 i j a f9 h9 x1 y1
  obtain ⟨t, a1, b1⟩ := kk H.size _ y hy U.heap locs ls hR1 ⟨Nat.le_trans hS.1 (by omega), fun x h1 h2 => (hold x (Nat.lt_of_lt_of_le h1 hS.1)).trans (hS.2.1 x h1 h2), hS.2.2⟩ hV U rfl X'
  refine ⟨t, step t ?_, b1⟩
  rw [hT]
  exact a1
theorem r_makeN {ix np nL' b : Nat} {y : MethodName} {cc' : ByteArray} {rm : Room} {F' : Option (Int × qSt)} {P : qWd → Prop} {As : List Value} {f : Int → qSt → Option Y} {host : String} (cx : qCx p s m meth c cc nL own ret g z0) (hM : qNT l y cc' nL' rm g z0 w (.ref b :: As) σ F' P) (hy : qM y cc' nL' none np) (hname : y.name = "<init>") (hi : Cond.instanceMethod y ∈ lw_tbl) (hlink : Cond.methodLinkNest own ix y host ∈ lw_tbl) (hd : decode cc pc = .ok (.invokespecial ix, 3)) (hst : st = As.reverse ++ .ref b :: rest) (hn : As.length = np) (hrest : (rest.map fun v => v.category).sum ≤ 8) (hR : rm.frames + 1 ≤ R.frames ∧ 8 + (nL' + 11) + rm.locals ≤ R.locals) (hf : k + rm.cells ≤ R.cells ∧ n + rm.slots ≤ R.slots) (kk : ∀ w1, P w1 → ∀ r σ1, qS p l e R s m args below meth c nL g z0 w1 (k + rm.cells) (n + rm.slots) Q (f r σ1) σ1 (pc + 3) lo rest) : qS p l e R s m args below meth c nL g z0 w k n Q (qbd F' f) σ pc lo st := by
  intro u hu H locs ls hH hS hV
  cases hF : F' with
  | none => rw [hF] at hu; cases hu
  | some x =>
    obtain ⟨r, σ1⟩ := x
    rw [hF] at hu
    subst hst
    intro T0 hT X
    have htw := cx.2.2.2.2.1.2.1
    obtain ⟨v, st₀, t, T', L, h0, X', hL, e1, e2, ⟨⟨hv1, w1, hP1, hR1⟩, hz, hk⟩, stp⟩ := va_runIN (e := e) (below := below) (meth := meth) (locs := locs) (args := args) (cells := k) (slots := n) (Ts := []) (As := As) (rest := rest) (g := F0 m pc ls (As.reverse ++ .ref b :: rest)) ⟨cx.1, cx.2.1, cx.2.2.1, cx.2.2.2.1, fun x hx => by cases hx⟩ (hM _ hF) ⟨qCallN cx hy hlink hR, hname, htw.word hi rfl⟩ (qPreS cx hH hS) rfl hn hV.1 rfl (lv_room hrest) hd hf T0 hT X
    cases hv1
    rw [h0] at hz hk
    obtain ⟨t2, a1, b1⟩ := kk w1 hP1 r σ1 u hu T'.heap (locs ++ L) ls (by rw [e1]; exact hR1)
      ⟨Nat.le_trans hS.1 (by rw [e1]; exact hz), fun q h1 h2 => by rw [e1, hk q (Nat.lt_of_lt_of_le h1 hS.1) h2]; exact hS.2.1 q h1 h2, fun q hq => by
        rcases List.mem_append.mp hq with h | h
        · exact hS.2.2 q h
        · exact hL q h⟩ hV T' rfl X'
    exact ⟨t2, stp t2 a1, b1⟩
theorem r_make {ix np nL' b : Nat} {y : MethodName} {cc' : ByteArray} {rm : Room} {F' : Option (Int × qSt)} {P : qWd → Prop} {As : List Value} {f : Int → qSt → Option Y} (cx : qCx p s m meth c cc nL own ret g z0) (hM : qNT l y cc' nL' rm g z0 w (.ref b :: As) σ F' P) (hy : qM y cc' nL' none np) (hname : y.name = "<init>") (hi : Cond.instanceMethod y ∈ lw_tbl) (hlink : Cond.methodLink own ix y ∈ lw_tbl) (hd : decode cc pc = .ok (.invokespecial ix, 3)) (hst : st = As.reverse ++ .ref b :: rest) (hn : As.length = np) (hrest : (rest.map fun v => v.category).sum ≤ 8) (hR : rm.frames + 1 ≤ R.frames ∧ 8 + (nL' + 11) + rm.locals ≤ R.locals) (hf : k + rm.cells ≤ R.cells ∧ n + rm.slots ≤ R.slots) (kk : ∀ w1, P w1 → ∀ r σ1, qS p l e R s m args below meth c nL g z0 w1 (k + rm.cells) (n + rm.slots) Q (f r σ1) σ1 (pc + 3) lo rest) : qS p l e R s m args below meth c nL g z0 w k n Q (qbd F' f) σ pc lo st := by
  intro u hu H locs ls hH hS hV
  cases hF : F' with
  | none => rw [hF] at hu; cases hu
  | some x =>
    obtain ⟨r, σ1⟩ := x
    rw [hF] at hu
    subst hst
    intro T0 hT X
    have htw := cx.2.2.2.2.1.2.1
    obtain ⟨v, st₀, t, T', L, h0, X', hL, e1, e2, ⟨⟨hv1, w1, hP1, hR1⟩, hz, hk⟩, stp⟩ := va_runI (e := e) (below := below) (meth := meth) (locs := locs) (args := args) (cells := k) (slots := n) (Ts := []) (As := As) (rest := rest) (g := F0 m pc ls (As.reverse ++ .ref b :: rest)) ⟨cx.1, cx.2.1, cx.2.2.1, cx.2.2.2.1, fun x hx => by cases hx⟩ (hM _ hF) ⟨qCallB cx hy hlink hR, hname, htw.word hi rfl⟩ (qPreS cx hH hS) rfl hn hV.1 rfl (lv_room hrest) hd hf T0 hT X
    cases hv1
    rw [h0] at hz hk
    obtain ⟨t2, a1, b1⟩ := kk w1 hP1 r σ1 u hu T'.heap (locs ++ L) ls (by rw [e1]; exact hR1)
      ⟨Nat.le_trans hS.1 (by rw [e1]; exact hz), fun q h1 h2 => by rw [e1, hk q (Nat.lt_of_lt_of_le h1 hS.1) h2]; exact hS.2.1 q h1 h2, fun q hq => by
        rcases List.mem_append.mp hq with h | h
        · exact hS.2.2 q h
        · exact hL q h⟩ hV T' rfl X'
    exact ⟨t2, stp t2 a1, b1⟩
theorem r_nreturn {r : Int} {P : qWd → Prop} {y : Y} (hP : P w) (hk : k ≤ mc) (hn : n ≤ ms) (cx : qCx p s m meth c cc nL own none g z0) (hd : decode cc pc = .ok (.return_, 1)) (hQ : Q y = MQ below (qNQ P g z0 (r, σ)) args s mc ms (qA z0)) : qS p l e R s m args below meth c nL g z0 w k n Q (some y) σ pc lo [] := by
  intro u hu H locs ls hH hS hV
  cases hu
  rw [hQ]
  refine W.widen hk hn ?_
  exact W.vret cx.1 cx.2.1 cx.2.2.2.2.2.1 (fun t ht hW => ⟨⟨rfl, w, hP, by rw [ht]; exact hH⟩, hS.F ht⟩) hS.2.2 hd cx.2.2.2.2.2.2
/-- the world gets a name -/
theorem qS.wnm (h : ∀ w1, w1 = w → qS p l e R s m args below meth c nL g z0 w1 k n Q F σ pc lo st) : qS p l e R s m args below meth c nL g z0 w k n Q F σ pc lo st := h w rfl
end GROWS
