/-! THE CLAIM OUT OF ONE WALK OF THE LAW'S BODY. Your part is whole_start (and what it stands on); all else here is the same for every law, but numbers. -/
def R_law : String := "EddyhallLaw"
def lw_P (b : Addr) (xs : List Int32) (args : Array Value) (s : State) : Prop := args = #[.ref b] ∧ s.IntsAt b xs ∧ xs.length ≤ 3584 ∧ (Jvm.Cond.and given_1 narrow_1).before args s = true
/-- what a walk over the start with the record d0 says of its end, said of the start itself -/
theorem lw_closed {s t : State} {o : Outcome} {d0 : Drawn} {L : List Loc} {k n : Nat} (hd0 : s.drawn.sameBut d0 lw_cs) (hv : ∃ v, o = .returned v) (hW : (s.setDrawn d0).WarmedH t.vm) (hs : (s.setDrawn d0).sameButNew ({ t with vm := s.vm } : State) L k n) : State.butDraws s t lw_cs (fun t1 => Framed s o t1 L k n) := by
  have h2 : t.drawn = d0 := congrArg State.drawn hs.1
  refine ⟨⟨hv, hW, State.sameButNew.setDrawn hs s.drawn⟩, ?_, by decide⟩
  rw [h2]
  exact hd0
def lw_Q (_ : Array Value) (s : State) (o : Outcome) (t : State) : Prop := o = .returned (some (.int 1)) ∧ State.butDraws s t lw_cs (fun t1 => Framed s o t1 [] 601024 7293034)
def lw_Z (below : List Frame) (a : Array Value) (s : State) : State → Prop := fun t => ∃ o, t.status = .running ∧ Ended t below o ∧ lw_Q a s o t
/-- the law's own end, with 1 on the stack, nothing written that was there before, its room as the claim has it; d0: the record of draws at this point (at the entry s.drawn: begin with 'refine W.base ?_' and 'have hd0 := Drawn.sameBut.refl s.drawn lw_cs') -/
theorem lw_ret {p : Program} {l : Launch} {e : Env} {s : State} {m : MethodId} {below : List Frame} {meth : Method} {c : Code} {b : Nat} {d0 : Drawn} (hd0 : s.drawn.sameBut d0 lw_cs) (hx : p.tables.exec = Jvm.exec) (hb : c.code = code) (hr : meth.sig.returnType = ret) (hlocks : meth.locks = false) {pc : Nat} {H : Heap} {ls : Array Slot} (hdg : decode code pc = .ok (.ireturn, 1)) : W p l e room_1 (s.setDrawn d0) m #[Value.ref b] below meth c H [] 601024 7293034 (lw_Z below #[Value.ref b] s) (F0 m pc ls [.int 1]) := by
  intro T hT X
  obtain ⟨fs, hret, hrun, hended, hW, hframe⟩ := X.leave (v := some (.int 1)) (hlocks := hlocks) (fun h => by rw [hr] at h; cases h)
  have hmeth' : T.vm.method? m = some meth := X.method'
  refine ⟨T.setFrames fs, ?_, .returned (some (.int 1)), hrun, hended, rfl, lw_closed hd0 ⟨_, rfl⟩ hW hframe⟩
  jvm_step X.here [X.here.top, hx, hb, hdg, hmeth', hr, ret, narrow_b1]
  (try refine ⟨rfl, ?_⟩); (try refine ⟨rfl, ?_⟩)
  first | (intro acts; rw [hret _ acts rfl rfl rfl]) | rw [hret _ _ rfl rfl rfl]
  exact Steps.refl _
/-- what holds at the law's entry: the machine, the code, the tables' words (any of lw_tbl by 'hts w (by decide +kernel)'), the script of L ints xs at the cell b, what the Statement gives of the start (any of its parts by flat_of_before) -/
def lw_At (p : Program) (s : State) (m : MethodId) (meth : Method) (c : Code) (b L : Nat) (xs : Nat → Int32) : Prop :=
  p.tables.exec = Jvm.exec ∧ c.code = code ∧ meth.sig.returnType = ret ∧ c.maxLocals = 9 ∧ s.vm.findClass R_law = some m.cls ∧ (∀ w ∈ lw_tbl, w.before #[Value.ref b] s = true) ∧ va_X b L xs s s.heap ∧ b < s.heap.size ∧ meth.locks = false ∧ (Jvm.Cond.and given_1 narrow_1).before #[Value.ref b] s = true
def fL_loop (L : Nat) (xs : Nat → Int32) : Nat → Int → qSt → Option Unit
  | 0, _, _ => none
  | f + 1, i, σ => if qI ((L : Int) - 7) < qI i then some () else qif (0 ≤ i ∧ i < (L : Int)) (if qI (qand (qXs xs i) 31) = qI 0 then fL_c0 L xs (fL_loop L xs f) i σ else if qI (qand (qXs xs i) 31) = qI 1 then fL_c1 L xs (fL_loop L xs f) i σ else if qI (qand (qXs xs i) 31) = qI 2 then fL_c2 L xs (fL_loop L xs f) i σ else if qI (qand (qXs xs i) 31) = qI 3 then fL_c3 L xs (fL_loop L xs f) i σ else if qI (qand (qXs xs i) 31) = qI 4 then fL_c4 L xs (fL_loop L xs f) i σ else if qI (qand (qXs xs i) 31) = qI 5 then fL_c5 L xs (fL_loop L xs f) i σ else if qI (qand (qXs xs i) 31) = qI 6 then fL_c6 L xs (fL_loop L xs f) i σ else if qI (qand (qXs xs i) 31) = qI 7 then fL_c7 L xs (fL_loop L xs f) i σ else if qI (qand (qXs xs i) 31) = qI 8 then fL_c8 L xs (fL_loop L xs f) i σ else if qI (qand (qXs xs i) 31) = qI 9 then fL_c9 L xs (fL_loop L xs f) i σ else if qI (qand (qXs xs i) 31) = qI 10 then fL_c10 L xs (fL_loop L xs f) i σ else if qI (qand (qXs xs i) 31) = qI 11 then fL_c11 L xs (fL_loop L xs f) i σ else if qI (qand (qXs xs i) 31) = qI 12 then fL_c12 L xs (fL_loop L xs f) i σ else if qI (qand (qXs xs i) 31) = qI 13 then fL_c13 L xs (fL_loop L xs f) i σ else if qI (qand (qXs xs i) 31) = qI 14 then fL_c14 L xs (fL_loop L xs f) i σ else if qI (qand (qXs xs i) 31) = qI 15 then fL_c15 L xs (fL_loop L xs f) i σ else if qI (qand (qXs xs i) 31) = qI 16 then fL_c16 L xs (fL_loop L xs f) i σ else if qI (qand (qXs xs i) 31) = qI 17 then fL_c17 L xs (fL_loop L xs f) i σ else if qI (qand (qXs xs i) 31) = qI 18 then fL_c18 L xs (fL_loop L xs f) i σ else if qI (qand (qXs xs i) 31) = qI 19 then fL_c19 L xs (fL_loop L xs f) i σ else if qI (qand (qXs xs i) 31) = qI 20 then fL_c20 L xs (fL_loop L xs f) i σ else if qI (qand (qXs xs i) 31) = qI 21 then fL_c21 L xs (fL_loop L xs f) i σ else if qI (qand (qXs xs i) 31) = qI 22 then fL_c22 L xs (fL_loop L xs f) i σ else if qI (qand (qXs xs i) 31) = qI 23 then fL_c23 L xs (fL_loop L xs f) i σ else fL_loop L xs f (i + 7) σ)
set_option maxRecDepth 100000 in
set_option maxHeartbeats 4000000 in
theorem tL_loop {p : Program} {l : Launch} {e : Env} {s : State} {m : MethodId} {below : List Frame} {meth : Method} {c : Code} {g : qG} {w : qWd} {ad am : Nat → Nat} {ao aod b L : Nat} {xs : Nat → Int32} (cx : qCx p s m meth c cL_law 9 RL (some .boolean) g s.heap.size) (hX : qScr b L xs s.heap.size s) (hB : qBC g ad w) (hM : qBM g am w) (hO : w 64 = some (ao, qAL (g.2 4) 1)) (hD : w 65 = some (aod, qAD (g.2 5) 1)) (h66 : w 66 = none) (h67 : w 67 = none) (h68 : w 68 = none) (hl : l.stackTraces = false) : ∀ (f t : Nat), t + f ≤ 600 → ∀ (i : Int) (σ : qSt), qS p l e room_1 s m #[Value.ref b] below meth c 9 g s.heap.size w (66 + 24 * t) (43633 + 96 * t) (fun _ => lw_Z below #[Value.ref b] s) (fL_loop L xs f i σ) σ 28 [(0, some (.ref b)), (1, some (.ref (ad 0))), (2, some (.ref (am 47))), (3, some (.ref ao)), (4, some (.ref aod)), (5, some (.int (qI i)))] [] := by
  intro f
  induction f with
  | zero => exact fun t _ i σ => qS.fail
  | succ f ih =>
    intro t ht i σ
    unfold fL_loop
    have hnx : ∀ (i : Int) (σ : qSt), qS p l e room_1 s m #[Value.ref b] below meth c 9 g s.heap.size w (66 + 24 * t + 24) (43633 + 96 * t + 96) (fun _ => lw_Z below #[Value.ref b] s) (fL_loop L xs f i σ) σ 28 [(0, some (.ref b)), (1, some (.ref (ad 0))), (2, some (.ref (am 47))), (3, some (.ref ao)), (4, some (.ref aod)), (5, some (.int (qI i)))] [] := fun i σ => ih (t + 1) (by omega) i σ
    have hk : 66 + 24 * t + 24 ≤ 601024 ∧ 43633 + 96 * t + 96 ≤ 7293034 := by omega
    refine r_iload (pc := 28) cx dL_law_28 rfl ?_
    refine r_aload_n (pc := 30) cx dL_law_30 rfl ?_
    refine r_slen (pc := 31) cx hX dL_law_31 ?_
    refine r_bipush (pc := 32) (v := 7) cx dL_law_32 (by decide +kernel) ?_
    refine r_isub (pc := 34) cx dL_law_34 ?_
    refine r_icmp_gt (pc := 35) (tgt := 1805) cx dL_law_35 (by decide) ?_ ?_
    · refine r_iconst (pc := 1805) cx dL_law_1805 ?_
      intro u hu H locs ls hH hS hV
      refine va_forget (fun q hq => hS.2.2 q hq) ?_
      refine W.widen (k := 601024) (n := 7293034) (by omega) (by omega) ?_
      exact lw_ret (d0 := s.drawn) (Drawn.sameBut.refl s.drawn lw_cs) cx.1 cx.2.1 cx.2.2.2.2.2.1 cx.2.2.2.2.2.2 dL_law_1806
    · refine r_aload_n (pc := 38) cx dL_law_38 rfl ?_
      refine r_iload (pc := 39) cx dL_law_39 rfl ?_
      refine r_sld (pc := 41) cx hX dL_law_41 ?_
      refine r_bipush (pc := 42) (v := 31) cx dL_law_42 (by decide +kernel) ?_
      refine r_iand (pc := 44) cx dL_law_44 ?_
      refine qS.ite (fun hs0 => ?_) (fun hs0 => ?_)
      · refine r_tsw (pc := 45) (lo0 := 0) (j := 0) (tgt := 156) cx hs0 dL_law_45 (by decide +kernel) (by decide) rfl (by decide) ?_
        exact tL_c0 cx hX hB hM hO hD h66 h67 h68 hl hk hnx i σ
      refine qS.ite (fun hs1 => ?_) (fun hs1 => ?_)
      · refine r_tsw (pc := 45) (lo0 := 0) (j := 1) (tgt := 204) cx hs1 dL_law_45 (by decide +kernel) (by decide) rfl (by decide) ?_
        exact tL_c1 cx hX hB hM hO hD h66 h67 h68 hl hk hnx i σ
      refine qS.ite (fun hs2 => ?_) (fun hs2 => ?_)
      · refine r_tsw (pc := 45) (lo0 := 0) (j := 2) (tgt := 260) cx hs2 dL_law_45 (by decide +kernel) (by decide) rfl (by decide) ?_
        exact tL_c2 cx hX hB hM hO hD h66 h67 h68 hl hk hnx i σ
      refine qS.ite (fun hs3 => ?_) (fun hs3 => ?_)
      · refine r_tsw (pc := 45) (lo0 := 0) (j := 3) (tgt := 308) cx hs3 dL_law_45 (by decide +kernel) (by decide) rfl (by decide) ?_
        exact tL_c3 cx hX hB hM hO hD h66 h67 h68 hl hk hnx i σ
      refine qS.ite (fun hs4 => ?_) (fun hs4 => ?_)
      · refine r_tsw (pc := 45) (lo0 := 0) (j := 4) (tgt := 376) cx hs4 dL_law_45 (by decide +kernel) (by decide) rfl (by decide) ?_
        exact tL_c4 cx hX hB hM hO hD h66 h67 h68 hl hk hnx i σ
      refine qS.ite (fun hs5 => ?_) (fun hs5 => ?_)
      · refine r_tsw (pc := 45) (lo0 := 0) (j := 5) (tgt := 432) cx hs5 dL_law_45 (by decide +kernel) (by decide) rfl (by decide) ?_
        exact tL_c5 cx hX hB hM hO hD h66 h67 h68 hl hk hnx i σ
      refine qS.ite (fun hs6 => ?_) (fun hs6 => ?_)
      · refine r_tsw (pc := 45) (lo0 := 0) (j := 6) (tgt := 488) cx hs6 dL_law_45 (by decide +kernel) (by decide) rfl (by decide) ?_
        exact tL_c6 cx hX hB hM hO hD h66 h67 h68 hl hk hnx i σ
      refine qS.ite (fun hs7 => ?_) (fun hs7 => ?_)
      · refine r_tsw (pc := 45) (lo0 := 0) (j := 7) (tgt := 556) cx hs7 dL_law_45 (by decide +kernel) (by decide) rfl (by decide) ?_
        exact tL_c7 cx hX hB hM hO hD h66 h67 h68 hl hk hnx i σ
      refine qS.ite (fun hs8 => ?_) (fun hs8 => ?_)
      · refine r_tsw (pc := 45) (lo0 := 0) (j := 8) (tgt := 636) cx hs8 dL_law_45 (by decide +kernel) (by decide) rfl (by decide) ?_
        exact tL_c8 cx hX hB hM hO hD h66 h67 h68 hl hk hnx i σ
      refine qS.ite (fun hs9 => ?_) (fun hs9 => ?_)
      · refine r_tsw (pc := 45) (lo0 := 0) (j := 9) (tgt := 692) cx hs9 dL_law_45 (by decide +kernel) (by decide) rfl (by decide) ?_
        exact tL_c9 cx hX hB hM hO hD h66 h67 h68 hl hk hnx i σ
      refine qS.ite (fun hs10 => ?_) (fun hs10 => ?_)
      · refine r_tsw (pc := 45) (lo0 := 0) (j := 10) (tgt := 748) cx hs10 dL_law_45 (by decide +kernel) (by decide) rfl (by decide) ?_
        exact tL_c10 cx hX hB hM hO hD h66 h67 h68 hl hk hnx i σ
      refine qS.ite (fun hs11 => ?_) (fun hs11 => ?_)
      · refine r_tsw (pc := 45) (lo0 := 0) (j := 11) (tgt := 803) cx hs11 dL_law_45 (by decide +kernel) (by decide) rfl (by decide) ?_
        exact tL_c11 cx hX hB hM hO hD h66 h67 h68 hl hk hnx i σ
      refine qS.ite (fun hs12 => ?_) (fun hs12 => ?_)
      · refine r_tsw (pc := 45) (lo0 := 0) (j := 12) (tgt := 871) cx hs12 dL_law_45 (by decide +kernel) (by decide) rfl (by decide) ?_
        exact tL_c12 cx hX hB hM hO hD h66 h67 h68 hl hk hnx i σ
      refine qS.ite (fun hs13 => ?_) (fun hs13 => ?_)
      · refine r_tsw (pc := 45) (lo0 := 0) (j := 13) (tgt := 939) cx hs13 dL_law_45 (by decide +kernel) (by decide) rfl (by decide) ?_
        exact tL_c13 cx hX hB hM hO hD h66 h67 h68 hl hk hnx i σ
      refine qS.ite (fun hs14 => ?_) (fun hs14 => ?_)
      · refine r_tsw (pc := 45) (lo0 := 0) (j := 14) (tgt := 994) cx hs14 dL_law_45 (by decide +kernel) (by decide) rfl (by decide) ?_
        exact tL_c14 cx hX hB hM hO hD h66 h67 h68 hl hk hnx i σ
      refine qS.ite (fun hs15 => ?_) (fun hs15 => ?_)
      · refine r_tsw (pc := 45) (lo0 := 0) (j := 15) (tgt := 1036) cx hs15 dL_law_45 (by decide +kernel) (by decide) rfl (by decide) ?_
        exact tL_c15 cx hX hB hM hO hD h66 h67 h68 hl hk hnx i σ
      refine qS.ite (fun hs16 => ?_) (fun hs16 => ?_)
      · refine r_tsw (pc := 45) (lo0 := 0) (j := 16) (tgt := 1169) cx hs16 dL_law_45 (by decide +kernel) (by decide) rfl (by decide) ?_
        exact tL_c16 cx hX hB hM hO hD h66 h67 h68 hl hk hnx i σ
      refine qS.ite (fun hs17 => ?_) (fun hs17 => ?_)
      · refine r_tsw (pc := 45) (lo0 := 0) (j := 17) (tgt := 1302) cx hs17 dL_law_45 (by decide +kernel) (by decide) rfl (by decide) ?_
        exact tL_c17 cx hX hB hM hO hD h66 h67 h68 hl hk hnx i σ
      refine qS.ite (fun hs18 => ?_) (fun hs18 => ?_)
      · refine r_tsw (pc := 45) (lo0 := 0) (j := 18) (tgt := 1416) cx hs18 dL_law_45 (by decide +kernel) (by decide) rfl (by decide) ?_
        exact tL_c18 cx hX hB hM hO hD h66 h67 h68 hl hk hnx i σ
      refine qS.ite (fun hs19 => ?_) (fun hs19 => ?_)
      · refine r_tsw (pc := 45) (lo0 := 0) (j := 19) (tgt := 1484) cx hs19 dL_law_45 (by decide +kernel) (by decide) rfl (by decide) ?_
        exact tL_c19 cx hX hB hM hO hD h66 h67 h68 hl hk hnx i σ
      refine qS.ite (fun hs20 => ?_) (fun hs20 => ?_)
      · refine r_tsw (pc := 45) (lo0 := 0) (j := 20) (tgt := 1552) cx hs20 dL_law_45 (by decide +kernel) (by decide) rfl (by decide) ?_
        exact tL_c20 cx hX hB hM hO hD h66 h67 h68 hl hk hnx i σ
      refine qS.ite (fun hs21 => ?_) (fun hs21 => ?_)
      · refine r_tsw (pc := 45) (lo0 := 0) (j := 21) (tgt := 1607) cx hs21 dL_law_45 (by decide +kernel) (by decide) rfl (by decide) ?_
        exact tL_c21 cx hX hB hM hO hD h66 h67 h68 hl hk hnx i σ
      refine qS.ite (fun hs22 => ?_) (fun hs22 => ?_)
      · refine r_tsw (pc := 45) (lo0 := 0) (j := 22) (tgt := 1675) cx hs22 dL_law_45 (by decide +kernel) (by decide) rfl (by decide) ?_
        exact tL_c22 cx hX hB hM hO hD h66 h67 h68 hl hk hnx i σ
      refine qS.ite (fun hs23 => ?_) (fun hs23 => ?_)
      · refine r_tsw (pc := 45) (lo0 := 0) (j := 23) (tgt := 1731) cx hs23 dL_law_45 (by decide +kernel) (by decide) rfl (by decide) ?_
        exact tL_c23 cx hX hB hM hO hD h66 h67 h68 hl hk hnx i σ
      refine r_tswd (pc := 45) (tgt := 1799) cx dL_law_45 (q_nsw (N := 24) (by decide) (fun j hj => by match j, hj with | 0, _ => exact hs0 | 1, _ => exact hs1 | 2, _ => exact hs2 | 3, _ => exact hs3 | 4, _ => exact hs4 | 5, _ => exact hs5 | 6, _ => exact hs6 | 7, _ => exact hs7 | 8, _ => exact hs8 | 9, _ => exact hs9 | 10, _ => exact hs10 | 11, _ => exact hs11 | 12, _ => exact hs12 | 13, _ => exact hs13 | 14, _ => exact hs14 | 15, _ => exact hs15 | 16, _ => exact hs16 | 17, _ => exact hs17 | 18, _ => exact hs18 | 19, _ => exact hs19 | 20, _ => exact hs20 | 21, _ => exact hs21 | 22, _ => exact hs22 | 23, _ => exact hs23 | j + 24, hj => exact absurd hj (by omega))) (by decide) ?_
      refine r_iinc (pc := 1799) cx dL_law_1799 rfl (by decide) rfl ?_
      refine r_goto (pc := 1802) (tgt := 28) cx dL_law_1802 (by decide) ?_
      refine qS.widen (Nat.le_add_right _ 24) (Nat.le_add_right _ 96) ?_
      exact qS.sub (qsub_cons rfl (qsub_cons rfl (qsub_cons rfl (qsub_cons rfl (qsub_cons rfl (qsub_cons rfl (qsub_nil _))))))) (hnx _ _)
def fL_law (L : Nat) (xs : Nat → Int32) : Option Unit :=
  (qb (qrow (fun _ _ => 0) 0 (fun _ => 0)) fun (σ1 : qSt) => (qbd (fX5_init σ1) fun (_ : Int) (σ2 : qSt) => (qb (qrow σ2 47 (fun _ => 0)) fun (σ3 : qSt) => (qbd (fX6_init σ3) fun (_ : Int) (σ4 : qSt) => (qb (qrow σ4 64 (fun _ => 0)) fun (σ5 : qSt) => (qb (qrow σ5 65 (fun _ => 0)) fun (σ6 : qSt) => (fL_loop L xs 600 0 σ6)))))))
theorem qac_long9 : Cond.arrayClass .long ∈ lw_tbl := qac_long
theorem qw64 {w : qWd} {k a : Nat} {f : qLay} {j : Nat} {y : Nat × qLay} (h : w j = some y) (hj : j ≠ k) : qWput w k (a, f) j = some y := qWput_get h hj
set_option maxRecDepth 100000 in
set_option maxHeartbeats 4000000 in
theorem tL_walk {p : Program} {l : Launch} {e : Env} {s : State} {m : MethodId} {below : List Frame} {meth : Method} {c : Code} {g : qG} {b L : Nat} {xs : Nat → Int32} (cx : qCx p s m meth c cL_law 9 RL (some .boolean) g s.heap.size) (hX : qScr b L xs s.heap.size s) (hl : l.stackTraces = false) : qS p l e room_1 s m #[Value.ref b] below meth c 9 g s.heap.size (fun _ => none) 0 0 (fun _ => lw_Z below #[Value.ref b] s) (fL_law L xs) (fun _ _ => 0) 0 [(0, some (.ref b))] [] := by
  unfold fL_law
  refine r_new (pc := 0) cx 0 (fun r => [.null, .null, .null, .null, .null, .int (qI (r 5)), .int (qI (r 6))]) hcl_X5 qc_X5 tyX5_ok wc_L_8 qinst_X5 qini_X5 (fun j hj => by match j, hj with | 0, _ => rfl | 1, _ => rfl | 2, _ => rfl | 3, _ => rfl | 4, _ => rfl | 5, _ => rfl | 6, _ => rfl) (Nat.le_of_ble_eq_true rfl) (Nat.le_of_ble_eq_true rfl) dL_law_0 (fun q1 σ1 => ?_)
  refine qS.wnm (fun w1 ew1 => ?_)
  have hT : w1 0 = some (q1, qOb 5 (fun r => [.null, .null, .null, .null, .null, .int (qI (r 5)), .int (qI (r 6))])) := by rw [ew1]; exact qWput_self _ _ _
  have hr1 : ∀ j, 1 ≤ j → w1 j = none := fun j hj => by rw [ew1, qWput_ne _ (by omega)]
  clear ew1
  refine r_dup (pc := 3) cx dL_law_3 rfl ?_
  refine r_make (pc := 4) cx (tX5_init hT σ1) qm_X5_init rfl qi_X5_init wm_L_91 dL_law_4 rfl rfl (Nat.le_of_ble_eq_true rfl) ⟨Nat.le_of_ble_eq_true rfl, Nat.le_of_ble_eq_true rfl⟩ ⟨Nat.le_of_ble_eq_true rfl, Nat.le_of_ble_eq_true rfl⟩ (fun w2 hP r4 σ2 => ?_)
  obtain ⟨ad, ea, hB, hr2⟩ := hP
  subst ea
  have hr2 : ∀ j, 47 ≤ j → w2 j = none := fun j hj => by rw [hr2 j hj]; exact hr1 j (by omega)
  refine r_astore_n (pc := 7) cx dL_law_7 (by decide) rfl ?_
  refine r_new (pc := 8) cx 47 (fun r => [.int (qI (r 0)), .null, .null, .null, .null, .null, .null, .null, .null, .null, .null, .null, .null, .null, .int (qI (r 14)), .int (qI (r 15)), .int (qI (r 16)), .long (qJ (r 17)), .long (qJ (r 18)), .int (qI (r 19)), .null, .null, .null, .long (qJ (r 23)), .long (qJ (r 24)), .long (qJ (r 25))]) hcl_X6 qc_X6 tyX6_ok wc_L_92 qinst_X6 qini_X6 (fun j hj => by match j, hj with | 0, _ => rfl | 1, _ => rfl | 2, _ => rfl | 3, _ => rfl | 4, _ => rfl | 5, _ => rfl | 6, _ => rfl | 7, _ => rfl | 8, _ => rfl | 9, _ => rfl | 10, _ => rfl | 11, _ => rfl | 12, _ => rfl | 13, _ => rfl | 14, _ => rfl | 15, _ => rfl | 16, _ => rfl | 17, _ => rfl | 18, _ => rfl | 19, _ => rfl | 20, _ => rfl | 21, _ => rfl | 22, _ => rfl | 23, _ => rfl | 24, _ => rfl | 25, _ => rfl | j + 26, hj => exact absurd hj (by omega)) (Nat.le_of_ble_eq_true rfl) (Nat.le_of_ble_eq_true rfl) dL_law_8 (fun q2 σ3 => ?_)
  refine qS.wnm (fun w3 ew3 => ?_)
  have hT : w3 47 = some (q2, qOb 6 (fun r => [.int (qI (r 0)), .null, .null, .null, .null, .null, .null, .null, .null, .null, .null, .null, .null, .null, .int (qI (r 14)), .int (qI (r 15)), .int (qI (r 16)), .long (qJ (r 17)), .long (qJ (r 18)), .int (qI (r 19)), .null, .null, .null, .long (qJ (r 23)), .long (qJ (r 24)), .long (qJ (r 25))])) := by rw [ew3]; exact qWput_self _ _ _
  have hB3 : qBC g ad w3 := fun k hk => by rw [ew3]; exact qWput_get (hB k hk) (by omega)
  have hr3 : ∀ j, 48 ≤ j → w3 j = none := fun j hj => by rw [ew3, qWput_ne _ (by omega)]; exact hr2 j (by omega)
  clear ew3
  refine r_dup (pc := 11) cx dL_law_11 rfl ?_
  refine r_make (pc := 12) cx (tX6_init hT σ3) qm_X6_init rfl qi_X6_init wm_L_94 dL_law_12 rfl rfl (Nat.le_of_ble_eq_true rfl) ⟨Nat.le_of_ble_eq_true rfl, Nat.le_of_ble_eq_true rfl⟩ ⟨Nat.le_of_ble_eq_true rfl, Nat.le_of_ble_eq_true rfl⟩ (fun w4 hP r12 σ4 => ?_)
  obtain ⟨am, ea, hM, hr4⟩ := hP
  subst ea
  have hB4 : qBC g ad w4 := fun k hk => by rw [hr4 k (Or.inl hk)]; exact hB3 k hk
  have hr4 : ∀ j, 64 ≤ j → w4 j = none := fun j hj => by rw [hr4 j (Or.inr hj)]; exact hr3 j (by omega)
  refine r_astore_n (pc := 15) cx dL_law_15 (by decide) rfl ?_
  refine r_iconst (pc := 16) cx dL_law_16 ?_
  refine r_newarr_l (pc := 17) cx 64 1 rfl (by decide) qac_long (Nat.le_of_ble_eq_true rfl) (Nat.le_of_ble_eq_true rfl) dL_law_17 (fun ao σ5 => ?_)
  refine r_astore_n (pc := 19) cx dL_law_19 (by decide) rfl ?_
  refine r_iconst (pc := 20) cx dL_law_20 ?_
  refine r_newarr_d (pc := 21) cx 65 1 rfl (by decide) qac_double (Nat.le_of_ble_eq_true rfl) (Nat.le_of_ble_eq_true rfl) dL_law_21 (fun aod σ6 => ?_)
  refine r_astore (pc := 23) cx dL_law_23 (by decide) rfl ?_
  refine r_iconst (pc := 25) cx dL_law_25 ?_
  refine r_istore (pc := 26) cx dL_law_26 (by decide) rfl ?_
  refine qS.wnm (fun w6 ew6 => ?_)
  have hB6 : qBC g ad w6 := fun k hk => by rw [ew6]; exact qWput_get (qWput_get (hB4 k hk) (by omega)) (by omega)
  have hM6 : qBM g am w6 := fun k hk1 hk2 => by rw [ew6]; exact qWput_get (qWput_get (hM k hk1 hk2) (by omega)) (by omega)
  have hO6 : w6 64 = some (ao, qAL (g.2 4) 1) := by rw [ew6]; exact qWput_get (qWput_self _ _ _) (by decide)
  have hD6 : w6 65 = some (aod, qAD (g.2 5) 1) := by rw [ew6]; exact qWput_self _ _ _
  have hr6 : ∀ j, 66 ≤ j → w6 j = none := fun j hj => by rw [ew6, qWput_ne _ (by omega), qWput_ne _ (by omega)]; exact hr4 j (by omega)
  refine qS.widen (k2 := 66 + 24 * 0) (n2 := 43633 + 96 * 0) (Nat.le_of_ble_eq_true rfl) (Nat.le_of_ble_eq_true rfl) ?_
  exact qS.sub (qsub_cons rfl (qsub_cons rfl (qsub_cons rfl (qsub_cons rfl (qsub_cons rfl (qsub_cons rfl (qsub_nil _))))))) (tL_loop cx hX hB6 hM6 hO6 hD6 (hr6 66 (by decide)) (hr6 67 (by decide)) (hr6 68 (by decide)) hl 600 0 (by decide) 0 σ6)
theorem qArr_of {s : State} {args : Array Value} {ty : FieldType} (hk : ∀ C, ty ≠ .object C) (h : (Cond.arrayClass ty).before args s = true) : ∃ cA, ArrOfT s cA ty ∧ va_RA s cA ty := by
  obtain ⟨cA, kA, comp, h1, h2, h3⟩ := Cond.arrayClass_spec h
  refine ⟨cA, fun N z => ⟨(fun k h => by cases h), kA, h2, comp, h3⟩, ?_⟩
  cases ty with
  | object C => exact absurd rfl (hk C)
  | _ => exact h1
theorem qArr_ofA {s : State} {args : Array Value} {t : FieldType} (h : (Cond.arrayOver (.array t)).before args s = true) : ∃ cA, ArrOfT s cA (.array t) ∧ va_RA s cA (.array t) := by
  obtain ⟨comp, cA, kA, h0, h2, h3, h1⟩ := Cond.arrayOver_specA h
  exact ⟨cA, fun N z => ⟨(fun k h => by cases h), kA, h2, comp, h3⟩, h1⟩
theorem qTW_start {s : State} {args : Array Value} (hts : ∀ w ∈ lw_tbl, w.before args s = true) : qTW s := by
  intro x hx hg
  have h1 := hts x hx
  rcases Bool.or_eq_true_iff.mp hg with g | g
  · exact word_at (State.WarmedH.refl s) (good_of_word g) h1
  · cases x <;> first | (exact absurd g Bool.false_ne_true) | (exact va_Nw.of rfl h1) | (simp only [Cond.before, Cond.holds, Cond.value] at h1 ⊢; exact h1)
theorem qlays1 : Cond.laysStatic Bundle.tN "UNASSIGNED_STACK" Bundle.steD ∈ lw_tbl := List.mem_of_getElem? (i := 276) (by decide +kernel)
theorem qlays2 : Cond.laysStatic Bundle.tN "SUPPRESSED_SENTINEL" Bundle.listD ∈ lw_tbl := List.mem_of_getElem? (i := 278) (by decide +kernel)
theorem qlays3 : Cond.initialized Bundle.tN ∈ lw_tbl := List.mem_of_getElem? (i := 67) (by decide +kernel)
theorem qK_start {p : Program} {s : State} {m : MethodId} {meth : Method} {c : Code} {b L : Nat} {xs : Nat → Int32} (C0 : lw_At p s m meth c b L xs) : ∃ g : qG, qK g s.heap.size s := by
  obtain ⟨hx, hb, hr, hml, hown, hts, hX, hbl, hlocks, hgv⟩ := id C0
  have hs := flat_of_before _ hgv
  obtain ⟨c0, i0, k0⟩ := u_known (C := RX0) (T := TX0) (N := 4) hts (fun w hw => (qc_X0 w hw).1) (hts _ qinst_X0)
  obtain ⟨c1, i1, k1⟩ := u_known (C := RX1) (T := TX1) (N := 4) hts (fun w hw => (qc_X1 w hw).1) (hts _ qinst_X1)
  obtain ⟨c2, i2, k2⟩ := u_known (C := RX2) (T := TX2) (N := 3) hts (fun w hw => (qc_X2 w hw).1) (hts _ qinst_X2)
  obtain ⟨c3, i3, k3⟩ := u_known (C := RX3) (T := TX3) (N := 13) hts (fun w hw => (qc_X3 w hw).1) (hts _ qinst_X3)
  obtain ⟨c4, i4, k4⟩ := u_known (C := RX4) (T := TX4) (N := 4) hts (fun w hw => (qc_X4 w hw).1) (hts _ qinst_X4)
  obtain ⟨c5, i5, k5⟩ := u_known (C := RX5) (T := TX5) (N := 7) hts (fun w hw => (qc_X5 w hw).1) (hts _ qinst_X5)
  obtain ⟨c6, i6, k6⟩ := u_known (C := RX6) (T := TX6) (N := 26) hts (fun w hw => (qc_X6 w hw).1) (hts _ qinst_X6)
  obtain ⟨a0, p0, r0⟩ := qArr_of (fun C h => by cases h) (hts _ qac_int)
  obtain ⟨a1, p1, r1⟩ := qArr_of (fun C h => by cases h) (hts _ qac_byte)
  obtain ⟨a2, p2, r2⟩ := qArr_ofA (hts _ qao_int)
  obtain ⟨a3, p3, r3⟩ := qArr_ofA (hts _ qao_byte)
  obtain ⟨a4, p4, r4⟩ := qArr_of (fun C h => by cases h) (hts _ qac_long)
  obtain ⟨a5, p5, r5⟩ := qArr_of (fun C h => by cases h) (hts _ qac_double)
  have hA : ∀ a : Nat, a < s.heap.size → ¬ qA s.heap.size a := fun a ha => Nat.not_le.mpr ha
  refine ⟨((fun k => [c0, c1, c2, c3, c4, c5, c6].getD k c0, fun k => [i0, i1, i2, i3, i4, i5, i6].getD k i0), fun k => [a0, a1, a2, a3, a4, a5].getD k a0), ⟨fun k q hq => ?_, fun k q hq => ?_⟩, qTW_start hts, vx_Zqof (hts _ qlays1) (hts _ qlays3) (hs _ (by decide +kernel)) hA, vx_Zqof (hts _ qlays2) (hts _ qlays3) (hs _ (by decide +kernel)) hA, Nat.le_refl _, va_Nc.of (hs _ (by decide +kernel)), va_Nc.of (hs _ (by decide +kernel)), va_Nc.of (hs _ (by decide +kernel)), va_Nc.of (hs _ (by decide +kernel)), va_Nc.of (hs _ (by decide +kernel)), va_Nc.of (hs _ (by decide +kernel))⟩
  · match k, hq with
    | 0, hq => cases hq; exact k0
    | 1, hq => cases hq; exact k1
    | 2, hq => cases hq; exact k2
    | 3, hq => cases hq; exact k3
    | 4, hq => cases hq; exact k4
    | 5, hq => cases hq; exact k5
    | 6, hq => cases hq; exact k6
    | k + 7, hq => cases hq
  · match k, hq with
    | 0, hq => cases hq; exact ⟨p0, r0⟩
    | 1, hq => cases hq; exact ⟨p1, r1⟩
    | 2, hq => cases hq; exact ⟨p2, r2⟩
    | 3, hq => cases hq; exact ⟨p3, r3⟩
    | 4, hq => cases hq; exact ⟨p4, r4⟩
    | 5, hq => cases hq; exact ⟨p5, r5⟩
    | k + 6, hq => cases hq
theorem whole_walk {p : Program} {e : Env} {s : State} {m : MethodId} {below : List Frame} {meth : Method} {c : Code} (l : Launch) (hflags : l.flags = flags0) {b L : Nat} {xs : Nat → Int32} (hL : L ≤ 3584) (C0 : lw_At p s m meth c b L xs) (hF : fL_law L xs = some ()) : W p l e room_1 s m #[Value.ref b] below meth c s.heap [] 0 0 (lw_Z below #[Value.ref b] s) (entryFrame m ([Value.ref b] : List Value).toArray 9) := by
  obtain ⟨hx, hb, hr, hml, hown, hts, hX, hbl, hlocks, hgv⟩ := id C0
  obtain ⟨g, hK⟩ := qK_start C0
  rw [lg_entry_eq]
  refine tL_walk ⟨hx, hb, hml, hown, hK, hr, hlocks⟩ ⟨hX, hbl, hbl, hL⟩ ?_ () hF s.heap [] _ ⟨fun k a f h => (by cases h), fun j k a f h e1 => (by cases e1)⟩ va_S.rf (qV.entry [.ref b] (nL := 9) (Nat.le_of_ble_eq_true rfl))
  unfold Launch.stackTraces
  rw [hflags]
  decide +kernel
