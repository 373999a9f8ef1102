def fL_law (L : Nat) (xs : Nat → Int32) : Option Unit :=
  (qb (qrow (fun _ _ => 0) 0 (fun _ => 0)) fun (σ1 : qSt) => (qbd (fX5_init σ1) fun (_ : Int) (σ2 : qSt) => fL_law8 L xs σ2))
set_option maxRecDepth 100000 in
set_option maxHeartbeats 4000000 in
theorem tL_walk {p : Program} {l : Launch} {e : Env} {s : State} {m : MethodId} {below : List Frame} {meth : Method} {c : Code} {g : qG} {b L : Nat} {xs : Nat → Int32} (cx : qCx p s m meth c cL_law 22 RL (some .boolean) g s.heap.size) (hX : qScr b L xs s.heap.size s) (hl : l.stackTraces = false) : qS p l e room_1 s m #[Value.ref b] below meth c 22 g s.heap.size (fun _ => none) 0 0 (fun _ => lw_Z below #[Value.ref b] s) (fL_law L xs) (fun _ _ => 0) 0 [(0, some (.ref b))] [] := by
  unfold fL_law
  refine r_new (pc := 0) cx 0 (fun r => [.null, .null, .null, .null, .null, .int (qI (r 5)), .int (qI (r 6))]) hcl_X5 qc_X5 tyX5_ok wc_L_10 qinst_X5 qini_X5 (fun j hj => by match j, hj with | 0, _ => rfl | 1, _ => rfl | 2, _ => rfl | 3, _ => rfl | 4, _ => rfl | 5, _ => rfl | 6, _ => rfl) (Nat.le_of_ble_eq_true rfl) (Nat.le_of_ble_eq_true rfl) dL_law_0 (fun q1 σ1 => ?_)
  refine qS.wnm (fun w1 ew1 => ?_)
  have hT : w1 0 = some (q1, qOb 5 (fun r => [.null, .null, .null, .null, .null, .int (qI (r 5)), .int (qI (r 6))])) := by rw [ew1]; exact qWput_self _ _ _
  have hr1 : ∀ j, 1 ≤ j → w1 j = none := fun j hj => by rw [ew1, qWput_ne _ (by omega)]
  clear ew1
  refine r_dup (pc := 3) cx dL_law_3 rfl ?_
  refine r_make (pc := 4) cx (tX5_init hT σ1) qm_X5_init rfl qi_X5_init wm_L_171 dL_law_4 rfl rfl (Nat.le_of_ble_eq_true rfl) ⟨Nat.le_of_ble_eq_true rfl, Nat.le_of_ble_eq_true rfl⟩ ⟨Nat.le_of_ble_eq_true rfl, Nat.le_of_ble_eq_true rfl⟩ (fun w2 hP r4 σ2 => ?_)
  obtain ⟨ad, ea, hB, hr2⟩ := hP
  subst ea
  have hr2 : ∀ j, 47 ≤ j → w2 j = none := fun j hj => by rw [hr2 j hj]; exact hr1 j (by omega)
  refine r_astore_n (pc := 7) cx dL_law_7 (by decide) rfl ?_
  refine qS.widen (k2 := 47) (n2 := 21800 + 6 * 47) (Nat.le_of_ble_eq_true rfl) (Nat.le_of_ble_eq_true rfl) ?_
  exact qS.sub (qsub_cons rfl (qsub_cons rfl (qsub_nil _))) (tL_law8 cx hX hB (hr2 66 (by decide)) (hr2 67 (by decide)) (hr2 68 (by decide)) hl σ2)
theorem qArr_of {s : State} {args : Array Value} {ty : FieldType} (hk : ∀ C, ty ≠ .object C) (h : (Cond.arrayClass ty).before args s = true) : ∃ cA, ArrOfT s cA ty ∧ va_RA s cA ty := by
  obtain ⟨cA, kA, comp, h1, h2, h3⟩ := Cond.arrayClass_spec h
  refine ⟨cA, fun N z => ⟨(fun k h => by cases h), kA, h2, comp, h3⟩, ?_⟩
  cases ty with
  | object C => exact absurd rfl (hk C)
  | _ => exact h1
theorem qArr_ofA {s : State} {args : Array Value} {t : FieldType} (h : (Cond.arrayOver (.array t)).before args s = true) : ∃ cA, ArrOfT s cA (.array t) ∧ va_RA s cA (.array t) := by
  obtain ⟨comp, cA, kA, h0, h2, h3, h1⟩ := Cond.arrayOver_specA h
  exact ⟨cA, fun N z => ⟨(fun k h => by cases h), kA, h2, comp, h3⟩, h1⟩
theorem qTW_start {s : State} {args : Array Value} (hts : ∀ w ∈ lw_tbl, w.before args s = true) : qTW s := by
  intro x hx hg
  have h1 := hts x hx
  rcases Bool.or_eq_true_iff.mp hg with g | g
  · exact word_at (State.WarmedH.refl s) (good_of_word g) h1
  · cases x <;> first | (exact absurd g Bool.false_ne_true) | (exact va_Nw.of rfl h1) | (simp only [Cond.before, Cond.holds, Cond.value] at h1 ⊢; exact h1)
theorem qlays1 : Cond.laysStatic Bundle.tN "UNASSIGNED_STACK" Bundle.steD ∈ lw_tbl := List.mem_of_getElem? (i := 243) (by decide +kernel)
theorem qlays2 : Cond.laysStatic Bundle.tN "SUPPRESSED_SENTINEL" Bundle.listD ∈ lw_tbl := List.mem_of_getElem? (i := 245) (by decide +kernel)
theorem qlays3 : Cond.initialized Bundle.tN ∈ lw_tbl := List.mem_of_getElem? (i := 47) (by decide +kernel)
theorem qK_start {p : Program} {s : State} {m : MethodId} {meth : Method} {c : Code} {b L : Nat} {xs : Nat → Int32} (C0 : lw_At p s m meth c b L xs) : ∃ g : qG, qK g s.heap.size s := by
  obtain ⟨hx, hb, hr, hml, hown, hts, hX, hbl, hlocks, hgv⟩ := id C0
  have hs := flat_of_before _ hgv
  obtain ⟨c0, i0, k0⟩ := u_known (C := RX0) (T := TX0) (N := 4) hts (fun w hw => (qc_X0 w hw).1) (hts _ qinst_X0)
  obtain ⟨c1, i1, k1⟩ := u_known (C := RX1) (T := TX1) (N := 4) hts (fun w hw => (qc_X1 w hw).1) (hts _ qinst_X1)
  obtain ⟨c2, i2, k2⟩ := u_known (C := RX2) (T := TX2) (N := 3) hts (fun w hw => (qc_X2 w hw).1) (hts _ qinst_X2)
  obtain ⟨c3, i3, k3⟩ := u_known (C := RX3) (T := TX3) (N := 13) hts (fun w hw => (qc_X3 w hw).1) (hts _ qinst_X3)
  obtain ⟨c4, i4, k4⟩ := u_known (C := RX4) (T := TX4) (N := 4) hts (fun w hw => (qc_X4 w hw).1) (hts _ qinst_X4)
  obtain ⟨c5, i5, k5⟩ := u_known (C := RX5) (T := TX5) (N := 7) hts (fun w hw => (qc_X5 w hw).1) (hts _ qinst_X5)
  obtain ⟨a0, p0, r0⟩ := qArr_of (fun C h => by cases h) (hts _ qac_int)
  obtain ⟨a1, p1, r1⟩ := qArr_of (fun C h => by cases h) (hts _ qac_byte)
  obtain ⟨a2, p2, r2⟩ := qArr_ofA (hts _ qao_int)
  obtain ⟨a3, p3, r3⟩ := qArr_ofA (hts _ qao_byte)
  have hA : ∀ a : Nat, a < s.heap.size → ¬ qA s.heap.size a := fun a ha => Nat.not_le.mpr ha
  refine ⟨((fun k => [c0, c1, c2, c3, c4, c5].getD k c0, fun k => [i0, i1, i2, i3, i4, i5].getD k i0), fun k => [a0, a1, a2, a3].getD k a0), ⟨fun k q hq => ?_, fun k q hq => ?_⟩, qTW_start hts, vx_Zqof (hts _ qlays1) (hts _ qlays3) (hs _ (by decide +kernel)) hA, vx_Zqof (hts _ qlays2) (hts _ qlays3) (hs _ (by decide +kernel)) hA, Nat.le_refl _, va_Nc.of (hs _ (by decide +kernel)), va_Nc.of (hs _ (by decide +kernel)), va_Nc.of (hs _ (by decide +kernel)), va_Nc.of (hs _ (by decide +kernel)), va_Nc.of (hs _ (by decide +kernel)), va_Nc.of (hs _ (by decide +kernel))⟩
  · match k, hq with
    | 0, hq => cases hq; exact k0
    | 1, hq => cases hq; exact k1
    | 2, hq => cases hq; exact k2
    | 3, hq => cases hq; exact k3
    | 4, hq => cases hq; exact k4
    | 5, hq => cases hq; exact k5
    | k + 6, hq => cases hq
  · match k, hq with
    | 0, hq => cases hq; exact ⟨p0, r0⟩
    | 1, hq => cases hq; exact ⟨p1, r1⟩
    | 2, hq => cases hq; exact ⟨p2, r2⟩
    | 3, hq => cases hq; exact ⟨p3, r3⟩
    | k + 4, hq => cases hq
theorem whole_walk {p : Program} {e : Env} {s : State} {m : MethodId} {below : List Frame} {meth : Method} {c : Code} (l : Launch) (hflags : l.flags = flags0) {b L : Nat} {xs : Nat → Int32} (hL : L ≤ 260) (C0 : lw_At p s m meth c b L xs) (hF : fL_law L xs = some ()) : W p l e room_1 s m #[Value.ref b] below meth c s.heap [] 0 0 (lw_Z below #[Value.ref b] s) (entryFrame m ([Value.ref b] : List Value).toArray 22) := by
  obtain ⟨hx, hb, hr, hml, hown, hts, hX, hbl, hlocks, hgv⟩ := id C0
  obtain ⟨g, hK⟩ := qK_start C0
  rw [lg_entry_eq]
  refine tL_walk ⟨hx, hb, hml, hown, hK, hr, hlocks⟩ ⟨hX, hbl, hbl, Nat.le_trans hL (by decide)⟩ ?_ () hF s.heap [] _ ⟨fun k a f h => (by cases h), fun j k a f h e1 => (by cases e1)⟩ va_S.rf (qV.entry [.ref b] (nL := 22) (Nat.le_of_ble_eq_true rfl))
  unfold Launch.stackTraces
  rw [hflags]
  decide +kernel
