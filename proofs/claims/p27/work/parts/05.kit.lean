/-! ===== the walker's own kit: a state is a function component -> slot -> Int; a program fragment is a function into Option ===== -/
def qI (z : Int) : Int32 := Int32.ofInt z
def qJ (z : Int) : Int64 := Int64.ofInt z
abbrev qSt : Type := Nat → Int → Int
abbrev qLay : Type := (Int → Int) → va_E
abbrev qWd : Type := Nat → Option (Nat × qLay)
abbrev qG : Type := va_G × (Nat → ClassId)
abbrev qCl : List vw_C := [(RX0, TX0, 4), (RX1, TX1, 4), (RX2, TX2, 3), (RX3, TX3, 13), (RX4, TX4, 4), (RX5, TX5, 7)]
abbrev qTys (ca : Nat → ClassId) : List (ClassId × FieldType) := [(ca 0, .int), (ca 1, .byte), (ca 2, .array .int), (ca 3, .array .byte)]
/-- the heap holds the state: component k at its address, laid as it is laid -/
def qR (g : qG) (z0 : Nat) (w : qWd) (σ : qSt) (H : Heap) : Prop :=
  (∀ k a f, w k = some (a, f) → va_at g.1 qCl (a, f (σ k)) H ∧ z0 ≤ a) ∧ ∀ j k a f h, w j = some (a, f) → w k = some (a, h) → j = k
def qAO (t : FieldType) (U : State) : Prop := (Cond.arrayOver t).before #[] U = true
theorem qAO.moved {t : FieldType} {u U : State} (hvm : u.vm.Alike U.vm) (h : qAO t u) : qAO t U :=
  have h2 : (Cond.arrayOver t).before #[] (u.setVm U.vm) = true := by rw [Cond.arrayOver_setVmC hvm]; exact h
  h2
def qNest : Cond → Bool
  | .methodLinkNest .. => true
  | .fieldLinkNest .. => true
  | .declares .. => true
  | .castable .. => true
  | .arrayOver .. => true
  | _ => false
/-- the tables' words, at any state of the run -/
def qTW (U : State) : Prop := ∀ x, x ∈ lw_tbl → (goodWord x || qNest x) = true → x.before #[] U = true
theorem qTW.warm {s U : State} (h : qTW s) (hW : s.WarmedH U.vm) : qTW U := by
  intro x hx hg
  have h1 := h x hx hg
  rcases Bool.or_eq_true_iff.mp hg with g | g
  · exact word_at hW (good_of_word g) h1
  · cases x <;> first | (exact va_Nw.warmM hW h1) | (exact va_Nw.warmF hW h1) | (exact va_Nw.warmD hW h1) | (exact va_Nw.warmC hW h1) | (exact qAO.moved hW.alike h1) | (exact absurd g Bool.false_ne_true)
theorem qTW.word {s : State} (h : qTW s) {x : Cond} {args : Array Value} (hx : x ∈ lw_tbl) (g : goodWord x = true) : x.before args s = true :=
  word_at (State.WarmedH.refl s) (good_of_word g) (h x hx (by rw [g]; rfl))
theorem qTW.nestM {s : State} (h : qTW s) {a : String} {i : Nat} {x : MethodName} {b : String} (hx : Cond.methodLinkNest a i x b ∈ lw_tbl) : va_Nw (.methodLinkNest a i x b) s := h _ hx (by rfl)
theorem qTW.cast {s : State} (h : qTW s) {a b : String} {args : Array Value} (hx : Cond.castable a b ∈ lw_tbl) : (Cond.castable a b).before args s = true := va_Nw.use rfl (h _ hx (by rfl))
theorem qTW.over {s : State} (h : qTW s) {t : FieldType} {args : Array Value} (hx : Cond.arrayOver t ∈ lw_tbl) : (Cond.arrayOver t).before args s = true := h _ hx (by rfl)
theorem qTW.nestF {s : State} (h : qTW s) {a : String} {i : Nat} {b n d c : String} (hx : Cond.fieldLinkNest a i b n d c ∈ lw_tbl) : va_Nw (.fieldLinkNest a i b n d c) s := h _ hx (by rfl)
abbrev qA (z0 : Nat) : Nat → Prop := fun q => z0 ≤ q
def qE1 : String := "java/lang/IndexOutOfBoundsException"
def qE2 : String := "java/lang/IllegalArgumentException"
def qE3 : String := "java/lang/IllegalStateException"
def qNc (U : State) : Prop := va_Nc qE1 qE2 U ∧ va_Nc qE1 qE3 U ∧ va_Nc qE2 qE1 U ∧ va_Nc qE2 qE3 U ∧ va_Nc qE3 qE1 U ∧ va_Nc qE3 qE2 U
/-- what stays true of the machine all through the run -/
def qK (g : qG) (z0 : Nat) (U : State) : Prop :=
  va_K g.1 qCl (qTys g.2) U ∧ qTW U ∧ vx_Zq Bundle.tN "UNASSIGNED_STACK" Bundle.steD (qA z0) U U.heap ∧ vx_Zq Bundle.tN "SUPPRESSED_SENTINEL" Bundle.listD (qA z0) U U.heap ∧ z0 ≤ U.heap.size ∧ qNc U
theorem qK.step {g : qG} {z0 : Nat} {s U : State} {H : Heap} {locs : List Loc} (h : qK g z0 s) (hW : s.WarmedH U.vm) (hH : U.heap = H) (hS : va_S (qA z0) s.heap H locs) : qK g z0 U := by
  obtain ⟨h1, h2, h3, h4, h5, n1, n2, n3, n4, n5, n6⟩ := h
  subst hH
  exact ⟨h1.moved hW.alike, h2.warm hW, vx_Zq.moved hW.alike (h3.kept hS.2.1), vx_Zq.moved hW.alike (h4.kept hS.2.1), Nat.le_trans h5 hS.1,
    n1.moved hW.alike, n2.moved hW.alike, n3.moved hW.alike, n4.moved hW.alike, n5.moved hW.alike, n6.moved hW.alike⟩
theorem qK.calling {g : qG} {z0 : Nat} {U : State} {g' : JFrame} {mk : MethodId} {a : Array Value} (h : qK g z0 U) : qK g z0 (U.calling g' mk a) :=
  qK.step (U := U.calling g' mk a) (H := U.heap) (locs := []) h (State.WarmedH.refl U) rfl va_S.rf
theorem qR.kept {g : qG} {z0 : Nat} {w : qWd} {σ : qSt} {H H1 : Heap} (h : qR g z0 w σ H) (hq : ∀ k a f, w k = some (a, f) → H1[a]? = H[a]?) : qR g z0 w σ H1 :=
  ⟨fun k a f hk => ⟨((h.1 k a f hk).1).kept (hq k a f hk), (h.1 k a f hk).2⟩, h.2⟩
theorem qR.sub {g : qG} {z0 : Nat} {w w' : qWd} {σ : qSt} {H : Heap} (h : qR g z0 w σ H) (hw : ∀ k x, w' k = some x → w k = some x) : qR g z0 w' σ H :=
  ⟨fun k a f hk => h.1 k a f (hw k _ hk), fun j k a f e h1 h2 => h.2 j k a f e (hw j _ h1) (hw k _ h2)⟩
def qset (σ : qSt) (k : Nat) (j v : Int) : qSt := fun k' => if k' = k then (fun j' => if j' = j then v else σ k j') else σ k'
def qrow (σ : qSt) (k : Nat) (r : Int → Int) : qSt := fun k' => if k' = k then r else σ k'
theorem qset_row (σ : qSt) (k : Nat) (j v : Int) : qset σ k j v = qrow σ k (fun j' => if j' = j then v else σ k j') := rfl
theorem qrow_self (σ : qSt) (k : Nat) (r : Int → Int) : qrow σ k r k = r := by unfold qrow; rw [if_pos rfl]
/-- one cell's row is written -/
theorem qR.put {g : qG} {z0 : Nat} {w : qWd} {σ : qSt} {H H1 : Heap} {k a : Nat} {f : qLay} {r : Int → Int} (h : qR g z0 w σ H) (hk : w k = some (a, f)) (he : va_at g.1 qCl (a, f r) H1) (oq : ∀ q : Nat, q ≠ a → H1[q]? = H[q]?) : qR g z0 w (qrow σ k r) H1 := by
  refine ⟨fun k' a' f' hk' => ?_, h.2⟩
  by_cases e : k' = k
  · subst e
    rw [hk] at hk'
    cases hk'
    rw [qrow_self]
    exact ⟨he, (h.1 _ _ _ hk).2⟩
  · have e2 : qrow σ k r k' = σ k' := if_neg e
    rw [e2]
    obtain ⟨h1, h2⟩ := h.1 k' a' f' hk'
    refine ⟨h1.kept (oq a' (fun z => e ?_)), h2⟩
    subst z
    exact h.2 k' k a' f' f hk' hk
/-- a fresh cell -/
def qWput (w : qWd) (k : Nat) (x : Nat × qLay) : qWd := fun j => if j = k then some x else w j
theorem qWput_self (w : qWd) (k : Nat) (x : Nat × qLay) : qWput w k x k = some x := if_pos rfl
theorem qWput_ne {w : qWd} {k j : Nat} (x : Nat × qLay) (h : j ≠ k) : qWput w k x j = w j := if_neg h
theorem qR.lt {g : qG} {z0 : Nat} {w : qWd} {σ : qSt} {H : Heap} (h : qR g z0 w σ H) {k a : Nat} {f : qLay} (hk : w k = some (a, f)) : a < H.size := ((h.1 k a f hk).1).lt
theorem qR.new {g : qG} {z0 : Nat} {w : qWd} {σ : qSt} {H H1 : Heap} {k : Nat} {f : qLay} {r : Int → Int} (h : qR g z0 w σ H) (hz : z0 ≤ H.size) (he : va_at g.1 qCl (H.size, f r) H1) (oq : ∀ q : Nat, q < H.size → H1[q]? = H[q]?) : qR g z0 (qWput w k (H.size, f)) (qrow σ k r) H1 := by
  refine ⟨fun k' a' f' hk' => ?_, fun i j a' f' h' hi hj => ?_⟩
  · by_cases e : k' = k
    · subst e
      rw [qWput_self] at hk'
      cases hk'
      rw [qrow_self]
      exact ⟨he, hz⟩
    · rw [qWput_ne _ e] at hk'
      have e2 : qrow σ k r k' = σ k' := if_neg e
      rw [e2]
      obtain ⟨h1, h2⟩ := h.1 k' a' f' hk'
      exact ⟨h1.kept (oq a' h1.lt), h2⟩
  · by_cases ei : i = k <;> by_cases ej : j = k
    · rw [ei, ej]
    · subst ei
      rw [qWput_self] at hi
      rw [qWput_ne _ ej] at hj
      cases hi
      exact absurd (h.lt hj) (Nat.lt_irrefl _)
    · subst ej
      rw [qWput_self] at hj
      rw [qWput_ne _ ei] at hi
      cases hj
      exact absurd (h.lt hi) (Nat.lt_irrefl _)
    · rw [qWput_ne _ ei] at hi
      rw [qWput_ne _ ej] at hj
      exact h.2 i j a' f' h' hi hj
/-! the locals: a list in which the first entry of a place counts -/
abbrev qLo : Type := List (Nat × Option Value)
def qlook : qLo → Nat → Option Value
  | [], _ => none
  | (k, v) :: t, n => bif Nat.beq k n then v else qlook t n
def qV (ls : Array Slot) (nL : Nat) (lo : qLo) : Prop := ls.size = nL ∧ lv_wf ls ∧ ∀ n v, qlook lo n = some v → ls[n]? = some (.val v)
theorem qV.at {ls : Array Slot} {nL : Nat} {lo : qLo} (h : qV ls nL lo) {n : Nat} {v : Value} (hn : qlook lo n = some v) : ls[n]? = some (.val v) := h.2.2 n v hn
theorem qV.one {ls : Array Slot} {nL : Nat} {lo : qLo} (h : qV ls nL lo) {n : Nat} {v : Value} (hn : qlook lo n = some v) : lv_has ls nL [(n, v)] :=
  ⟨h.1, h.2.1, fun q hq => by rw [List.mem_singleton.mp hq]; exact h.2.2 n v hn⟩
theorem qlook_cons (k n : Nat) (v : Option Value) (t : qLo) : qlook ((k, v) :: t) n = if k = n then v else qlook t n := by
  show (bif Nat.beq k n then v else qlook t n) = _
  by_cases e : k = n
  · rw [if_pos e, e, Nat.beq_refl]; rfl
  · rw [if_neg e]
    have : Nat.beq k n = false := by
      cases h : Nat.beq k n
      · rfl
      · exact absurd (Nat.eq_of_beq_eq_true h) e
    rw [this]; rfl
/-- a store at place i leaves what stands before it, if that is no long -/
def qok (lo : qLo) (i : Nat) : Bool := match i with
  | 0 => true
  | j + 1 => match qlook lo j with
    | some v => v.category == 1
    | none => true
theorem qok_at {lo : qLo} {i n : Nat} {v : Value} (h : qok lo i = true) (hn : n + 1 = i) (hv : qlook lo n = some v) : v.category = 1 := by
  subst hn
  have h : (match qlook lo n with
    | some v => v.category == 1
    | none => true) = true := h
  rw [hv] at h
  exact beq_iff_eq.mp h
theorem qV.store1 {ls : Array Slot} {nL : Nat} {lo : qLo} (h : qV ls nL lo) {i : Nat} {v : Value} (hi : i < nL) (hc : v.category = 1) (hok : qok lo i = true) : ∃ ls', storeLocals ls i v = some ls' ∧ qV ls' nL ((i, some v) :: lo) := by
  have h0 : lv_has ls nL [] := ⟨h.1, h.2.1, fun _ hq => by cases hq⟩
  obtain ⟨ls', e, h1⟩ := lv_store1 h0 hi hc
  refine ⟨ls', e, h1.1, h1.2.1, fun n x hn => ?_⟩
  rw [qlook_cons] at hn
  by_cases en : i = n
  · subst en
    rw [if_pos rfl] at hn
    cases hn
    exact h1.2.2 (i, v) List.mem_cons_self
  · rw [if_neg en] at hn
    obtain ⟨ls2, e2, h2⟩ := lv_store1 (h.one hn) hi hc
    cases Option.some.inj (e.symm.trans e2)
    refine h2.2.2 (n, x) (List.mem_cons_of_mem _ (List.mem_filter.mpr ⟨List.mem_singleton.mpr rfl, ?_⟩))
    have h3 : (n == i) = false := beq_false_of_ne (fun z => en z.symm)
    show (!(n == i) && !(n + 1 == i && x.category == 2)) = true
    rw [h3]
    by_cases e4 : n + 1 = i
    · rw [qok_at hok e4 hn]
      simp
    · rw [beq_false_of_ne e4]
      rfl
theorem qV.store2 {ls : Array Slot} {nL : Nat} {lo : qLo} (h : qV ls nL lo) {i : Nat} {v : Value} (hi : i + 1 < nL) (hc : v.category = 2) (hok : qok lo i = true) : ∃ ls', storeLocals ls i v = some ls' ∧ qV ls' nL ((i, some v) :: (i + 1, none) :: lo) := by
  have h0 : lv_has ls nL [] := ⟨h.1, h.2.1, fun _ hq => by cases hq⟩
  obtain ⟨ls', e, h1⟩ := lv_store2 h0 hi hc
  refine ⟨ls', e, h1.1, h1.2.1, fun n x hn => ?_⟩
  rw [qlook_cons] at hn
  by_cases en : i = n
  · subst en
    rw [if_pos rfl] at hn
    cases hn
    exact h1.2.2 (i, v) List.mem_cons_self
  · rw [if_neg en, qlook_cons] at hn
    by_cases en2 : i + 1 = n
    · rw [if_pos en2] at hn
      cases hn
    · rw [if_neg en2] at hn
      obtain ⟨ls2, e2, h2⟩ := lv_store2 (h.one hn) hi hc
      cases Option.some.inj (e.symm.trans e2)
      refine h2.2.2 (n, x) (List.mem_cons_of_mem _ (List.mem_filter.mpr ⟨List.mem_singleton.mpr rfl, ?_⟩))
      have h3 : (n == i) = false := beq_false_of_ne (fun z => en z.symm)
      have h4 : (n == i + 1) = false := beq_false_of_ne (fun z => en2 z.symm)
      show (!(n == i) && (!(n == i + 1) && !(n + 1 == i && x.category == 2))) = true
      rw [h3, h4]
      by_cases e4 : n + 1 = i
      · rw [qok_at hok e4 hn]
        simp
      · rw [beq_false_of_ne e4]
        rfl
def qsub (lo lo' : qLo) : Prop := ∀ n v, qlook lo' n = some v → qlook lo n = some v
theorem qsub_nil (lo : qLo) : qsub lo [] := fun _ _ h => by cases h
theorem qsub_cons {lo t : qLo} {n : Nat} {v : Value} (h : qlook lo n = some v) (k : qsub lo t) : qsub lo ((n, some v) :: t) := fun j x hx => by
  rw [qlook_cons] at hx
  by_cases e : n = j
  · subst e
    rw [if_pos rfl] at hx
    cases hx
    exact h
  · rw [if_neg e] at hx
    exact k j x hx
theorem qV.sub {ls : Array Slot} {nL : Nat} {lo lo' : qLo} (h : qV ls nL lo) (k : qsub lo lo') : qV ls nL lo' := ⟨h.1, h.2.1, fun n v hn => h.2.2 n v (k n v hn)⟩
