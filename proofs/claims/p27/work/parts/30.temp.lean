theorem qini_X0 : Cond.initialized RX0 ∈ lw_tbl := List.mem_of_getElem? (i := 44) (by decide +kernel)
theorem qinst_X0 : Cond.instantiable RX0 4 ∈ lw_tbl := List.mem_of_getElem? (i := 127) (by decide +kernel)
theorem qini_X1 : Cond.initialized RX1 ∈ lw_tbl := List.mem_of_getElem? (i := 45) (by decide +kernel)
theorem qinst_X1 : Cond.instantiable RX1 4 ∈ lw_tbl := List.mem_of_getElem? (i := 150) (by decide +kernel)
theorem qini_X2 : Cond.initialized RX2 ∈ lw_tbl := List.mem_of_getElem? (i := 56) (by decide +kernel)
theorem qinst_X2 : Cond.instantiable RX2 3 ∈ lw_tbl := List.mem_of_getElem? (i := 674) (by decide +kernel)
theorem qini_X3 : Cond.initialized RX3 ∈ lw_tbl := List.mem_of_getElem? (i := 42) (by decide +kernel)
theorem qinst_X3 : Cond.instantiable RX3 13 ∈ lw_tbl := List.mem_of_getElem? (i := 66) (by decide +kernel)
theorem qini_X4 : Cond.initialized RX4 ∈ lw_tbl := List.mem_of_getElem? (i := 55) (by decide +kernel)
theorem qinst_X4 : Cond.instantiable RX4 4 ∈ lw_tbl := List.mem_of_getElem? (i := 601) (by decide +kernel)
theorem qini_X5 : Cond.initialized RX5 ∈ lw_tbl := List.mem_of_getElem? (i := 41) (by decide +kernel)
theorem qinst_X5 : Cond.instantiable RX5 7 ∈ lw_tbl := List.mem_of_getElem? (i := 58) (by decide +kernel)
theorem qobj1 : Cond.instanceMethod objectInit ∈ lw_tbl := List.mem_of_getElem? (i := 63) (by decide +kernel)
theorem qobj2 : Cond.code objectInit ⟨#[0xb1]⟩ 1 none ∈ lw_tbl := List.mem_of_getElem? (i := 64) (by decide +kernel)
def fX4_init (p0 : Int) (p1 : Int) (p2 : Int) (p3 : Int) (σ : qSt) : Option (Int × qSt) :=
  (qb (qset σ 66 0 p0) fun (σ1 : qSt) => (qb (qset σ1 66 1 p1) fun (σ2 : qSt) => (qb (qset σ2 66 2 p2) fun (σ3 : qSt) => (qb (qset σ3 66 3 p3) fun (σ4 : qSt) => (some (0, σ4))))))
set_option maxRecDepth 100000 in
set_option maxHeartbeats 4000000 in
theorem tX4_init {l : Launch} {z0 : Nat} {g : qG} {w : qWd} {aw : Nat} (hW : w 66 = some (aw, qOb 4 qlW)) (p0 : Int) (p1 : Int) (p2 : Int) (p3 : Int) (σ : qSt) : qCT l yX4_init cX4_init 5 none qrm0 g z0 w [.ref aw, .int (qI p0), .int (qI p1), .int (qI p2), .int (qI p3)] σ (fX4_init p0 p1 p2 p3 σ) qrv := by
  refine qCTi.of [(0, some (.ref aw)), (1, some (.int (qI p0))), (2, some (.int (qI p1))), (3, some (.int (qI p2))), (4, some (.int (qI p3)))] (by decide +kernel) (Nat.le_of_ble_eq_true rfl) rfl ?_
  intro p e s m args below meth c cx hin
  unfold fX4_init
  refine r_aload_n (pc := 0) cx dX4_init_0 rfl ?_
  refine r_objInit (pc := 1) cx wm_X4_3 qobj1 qobj2 (Nat.le_of_ble_eq_true rfl) (Nat.le_of_ble_eq_true rfl) dX4_init_1 ?_
  refine r_aload_n (pc := 4) cx dX4_init_4 rfl ?_
  refine r_iload_n (pc := 5) cx dX4_init_5 rfl ?_
  refine r_putFi (pc := 6) (J := 0) cx hcl_X4 qc_X4 hW (j := 0) (by decide) tyX4_ok nmX4 wf_X4_9 rfl hin rfl (by decide +kernel) rfl (Nat.le_of_ble_eq_true rfl) (fun r => rfl) dX4_init_6 (fun σ1 => ?_)
  refine r_aload_n (pc := 9) cx dX4_init_9 rfl ?_
  refine r_iload_n (pc := 10) cx dX4_init_10 rfl ?_
  refine r_putFi (pc := 11) (J := 1) cx hcl_X4 qc_X4 hW (j := 1) (by decide) tyX4_ok nmX4 wf_X4_15 rfl hin rfl (by decide +kernel) rfl (Nat.le_of_ble_eq_true rfl) (fun r => rfl) dX4_init_11 (fun σ2 => ?_)
  refine r_aload_n (pc := 14) cx dX4_init_14 rfl ?_
  refine r_iload_n (pc := 15) cx dX4_init_15 rfl ?_
  refine r_putFi (pc := 16) (J := 2) cx hcl_X4 qc_X4 hW (j := 2) (by decide) tyX4_ok nmX4 wf_X4_18 rfl hin rfl (by decide +kernel) rfl (Nat.le_of_ble_eq_true rfl) (fun r => rfl) dX4_init_16 (fun σ3 => ?_)
  refine r_aload_n (pc := 19) cx dX4_init_19 rfl ?_
  refine r_iload (pc := 20) cx dX4_init_20 rfl ?_
  refine r_putFi (pc := 22) (J := 3) cx hcl_X4 qc_X4 hW (j := 3) (by decide) tyX4_ok nmX4 wf_X4_21 rfl hin rfl (by decide +kernel) rfl (Nat.le_of_ble_eq_true rfl) (fun r => rfl) dX4_init_22 (fun σ4 => ?_)
  exact r_return (w0 := w) (fun _ _ h => h) (Nat.zero_le _) (Nat.zero_le _) cx dX4_init_25 rfl
def fX4_holds (σ : qSt) (p0 : Int) : Option Int :=
  (qb ((qdiv p0 12) - (σ 66 0)) fun (y1 : Int) => ((fJ9_floorMod_7cf53 σ ((qrem p0 12) - (σ 66 1)) 12).bind fun (r21 : Int) => (if qI y1 < 0 then (some 0) else (if qI (σ 66 2) ≤ qI y1 then (some 0) else (if qI (σ 66 3) ≤ qI r21 then (some 0) else (some 1))))))
set_option maxRecDepth 100000 in
set_option maxHeartbeats 4000000 in
theorem tX4_holds {l : Launch} {z0 : Nat} {g : qG} {w : qWd} {aw : Nat} (hW : w 66 = some (aw, qOb 4 qlW)) (p0 : Int) (σ : qSt) : qCT l yX4_holds cX4_holds 4 (some .boolean) qrm1 g z0 w [.ref aw, .int (qI p0)] σ (qlift (fX4_holds σ p0) σ) qri := by
  refine qCTp.of [(0, some (.ref aw)), (1, some (.int (qI p0)))] (by decide +kernel) (Nat.le_of_ble_eq_true rfl) rfl ?_
  intro p e s m args below meth c cx
  unfold fX4_holds
  refine r_iload_n (pc := 0) cx dX4_holds_0 rfl ?_
  refine r_bipush (pc := 1) (v := 12) cx dX4_holds_1 (by decide +kernel) ?_
  refine r_idiv (pc := 3) cx dX4_holds_3 (by decide +kernel) ?_
  refine r_aload_n (pc := 4) cx dX4_holds_4 rfl ?_
  refine r_get (pc := 5) cx hcl_X4 qc_X4 hW (j := 0) (by decide) wf_X4_9 dX4_holds_5 (x := .int (qI (σ 66 0))) rfl ?_
  refine r_isub (pc := 8) cx dX4_holds_8 ?_
  refine r_nmi (fun y1 => ?_)
  refine r_istore_n (pc := 9) cx dX4_holds_9 (by decide) rfl ?_
  refine r_iload_n (pc := 10) cx dX4_holds_10 rfl ?_
  refine r_bipush (pc := 11) (v := 12) cx dX4_holds_11 (by decide +kernel) ?_
  refine r_irem (pc := 13) cx dX4_holds_13 (by decide +kernel) ?_
  refine r_aload_n (pc := 14) cx dX4_holds_14 rfl ?_
  refine r_get (pc := 15) cx hcl_X4 qc_X4 hW (j := 1) (by decide) wf_X4_15 dX4_holds_15 (x := .int (qI (σ 66 1))) rfl ?_
  refine r_isub (pc := 18) cx dX4_holds_18 ?_
  refine r_bipush (pc := 19) (v := 12) cx dX4_holds_19 (by decide +kernel) ?_
  refine r_pSi (pc := 21) cx (tJ9_floorMod_7cf53  ((qrem p0 12) - (σ 66 1)) 12 σ) qm_J9_floorMod_7cf53 qs_J9_floorMod_7cf53 wm_X4_24 dX4_holds_21 rfl rfl (Nat.le_of_ble_eq_true rfl) ⟨Nat.le_of_ble_eq_true rfl, Nat.le_of_ble_eq_true rfl⟩ ⟨rfl, rfl⟩ ⟨Nat.zero_le _, Nat.zero_le _⟩ (fun r21 => ?_)
  refine r_istore_n (pc := 24) cx dX4_holds_24 (by decide) rfl ?_
  refine r_iload_n (pc := 25) cx dX4_holds_25 rfl ?_
  refine r_if_lt (tgt := 49) cx dX4_holds_26 (by decide) ?_ ?_
  · refine r_iconst (pc := 49) cx dX4_holds_49 ?_
    exact r_zreturn (w0 := w) (fun _ _ h => h) (Nat.zero_le _) (Nat.zero_le _) cx (by decide +kernel) dX4_holds_50 rfl
  · refine r_iload_n (pc := 29) cx dX4_holds_29 rfl ?_
    refine r_aload_n (pc := 30) cx dX4_holds_30 rfl ?_
    refine r_get (pc := 31) cx hcl_X4 qc_X4 hW (j := 2) (by decide) wf_X4_18 dX4_holds_31 (x := .int (qI (σ 66 2))) rfl ?_
    refine r_icmp_ge (tgt := 49) cx dX4_holds_34 (by decide) ?_ ?_
    · refine r_iconst (pc := 49) cx dX4_holds_49 ?_
      exact r_zreturn (w0 := w) (fun _ _ h => h) (Nat.zero_le _) (Nat.zero_le _) cx (by decide +kernel) dX4_holds_50 rfl
    · refine r_iload_n (pc := 37) cx dX4_holds_37 rfl ?_
      refine r_aload_n (pc := 38) cx dX4_holds_38 rfl ?_
      refine r_get (pc := 39) cx hcl_X4 qc_X4 hW (j := 3) (by decide) wf_X4_21 dX4_holds_39 (x := .int (qI (σ 66 3))) rfl ?_
      refine r_icmp_ge (tgt := 49) cx dX4_holds_42 (by decide) ?_ ?_
      · refine r_iconst (pc := 49) cx dX4_holds_49 ?_
        exact r_zreturn (w0 := w) (fun _ _ h => h) (Nat.zero_le _) (Nat.zero_le _) cx (by decide +kernel) dX4_holds_50 rfl
      · refine r_iconst (pc := 45) cx dX4_holds_45 ?_
        refine r_goto (pc := 46) (tgt := 50) cx dX4_holds_46 (by decide) ?_
        exact r_zreturn (w0 := w) (fun _ _ h => h) (Nat.zero_le _) (Nat.zero_le _) cx (by decide +kernel) dX4_holds_50 rfl
def fX2_init (K : Nat) (σ : qSt) : Option (Int × qSt) :=
  (some (0, σ))
set_option maxRecDepth 100000 in
set_option maxHeartbeats 4000000 in
theorem tX2_init {l : Launch} {z0 : Nat} {g : qG} {w : qWd} {K : Nat} {at_ : Nat} (hT : w K = some (at_, qOb 2 qlT)) (σ : qSt) : qCT l yX2_init cX2_init 1 none qrm0 g z0 w [.ref at_] σ (fX2_init K σ) qrv := by
  refine qCTi.of [(0, some (.ref at_))] (by decide +kernel) (Nat.le_of_ble_eq_true rfl) rfl ?_
  intro p e s m args below meth c cx hin
  unfold fX2_init
  refine r_aload_n (pc := 0) cx dX2_init_0 rfl ?_
  refine r_objInit (pc := 1) cx wm_X2_1 qobj1 qobj2 (Nat.le_of_ble_eq_true rfl) (Nat.le_of_ble_eq_true rfl) dX2_init_1 ?_
  exact r_return (w0 := w) (fun _ _ h => h) (Nat.zero_le _) (Nat.zero_le _) cx dX2_init_4 rfl
def fX2_take (K : Nat) (p0 : Int) (σ : qSt) : Option (Int × qSt) :=
  (qb (qset σ K 0 ((σ K 0) + 1)) fun (σ1 : qSt) => (qb (qset σ1 K 1 ((σ1 K 1) + p0)) fun (σ2 : qSt) => (qb (qset σ2 K 2 ((σ2 K 2) + (p0 * p0))) fun (σ3 : qSt) => (some (0, σ3)))))
set_option maxRecDepth 100000 in
set_option maxHeartbeats 4000000 in
theorem tX2_take {l : Launch} {z0 : Nat} {g : qG} {w : qWd} {K : Nat} {at_ : Nat} (hT : w K = some (at_, qOb 2 qlT)) (p0 : Int) (σ : qSt) : qCT l yX2_take cX2_take 3 none qrm0 g z0 w [.ref at_, .long (qJ p0)] σ (fX2_take K p0 σ) qrv := by
  refine qCT.of [(0, some (.ref at_)), (1, some (.long (qJ p0)))] (by decide +kernel) (Nat.le_of_ble_eq_true rfl) rfl ?_
  intro p e s m args below meth c cx
  unfold fX2_take
  refine r_aload_n (pc := 0) cx dX2_take_0 rfl ?_
  refine r_dup (pc := 1) cx dX2_take_1 rfl ?_
  refine r_get (pc := 2) cx hcl_X2 qc_X2 hT (j := 0) (by decide) wf_X2_7 dX2_take_2 (x := .long (qJ (σ K 0))) rfl ?_
  refine r_lconst (pc := 5) (z := 1) cx dX2_take_5 (by decide +kernel) ?_
  refine r_ladd (pc := 6) cx dX2_take_6 ?_
  refine r_putl (pc := 7) (J := 0) cx hcl_X2 qc_X2 hT (j := 0) (by decide) tyX2_ok nmX2 wf_X2_7 rfl (by decide +kernel) rfl (Nat.le_of_ble_eq_true rfl) (fun r => rfl) dX2_take_7 (fun σ1 => ?_)
  refine r_aload_n (pc := 10) cx dX2_take_10 rfl ?_
  refine r_dup (pc := 11) cx dX2_take_11 rfl ?_
  refine r_get (pc := 12) cx hcl_X2 qc_X2 hT (j := 1) (by decide) wf_X2_13 dX2_take_12 (x := .long (qJ (σ1 K 1))) rfl ?_
  refine r_lload_n (pc := 15) cx dX2_take_15 rfl ?_
  refine r_ladd (pc := 16) cx dX2_take_16 ?_
  refine r_putl (pc := 17) (J := 1) cx hcl_X2 qc_X2 hT (j := 1) (by decide) tyX2_ok nmX2 wf_X2_13 rfl (by decide +kernel) rfl (Nat.le_of_ble_eq_true rfl) (fun r => rfl) dX2_take_17 (fun σ2 => ?_)
  refine r_aload_n (pc := 20) cx dX2_take_20 rfl ?_
  refine r_dup (pc := 21) cx dX2_take_21 rfl ?_
  refine r_get (pc := 22) cx hcl_X2 qc_X2 hT (j := 2) (by decide) wf_X2_16 dX2_take_22 (x := .long (qJ (σ2 K 2))) rfl ?_
  refine r_lload_n (pc := 25) cx dX2_take_25 rfl ?_
  refine r_lload_n (pc := 26) cx dX2_take_26 rfl ?_
  refine r_lmul (pc := 27) cx dX2_take_27 ?_
  refine r_ladd (pc := 28) cx dX2_take_28 ?_
  refine r_putl (pc := 29) (J := 2) cx hcl_X2 qc_X2 hT (j := 2) (by decide) tyX2_ok nmX2 wf_X2_16 rfl (by decide +kernel) rfl (Nat.le_of_ble_eq_true rfl) (fun r => rfl) dX2_take_29 (fun σ3 => ?_)
  exact r_return (w0 := w) (fun _ _ h => h) (Nat.zero_le _) (Nat.zero_le _) cx dX2_take_32 rfl
def fX5_tallyOf_c76 (K : Nat) (k12 : Int → Int → Int → qSt → Option (Int × qSt)) (x1 : Int) (x2 : Int) (x5 : Int) (σ : qSt) : Option (Int × qSt) :=
  (k12 x1 x2 (x5 + 1) σ)
set_option maxRecDepth 100000 in
set_option maxHeartbeats 4000000 in
theorem tX5_tallyOf_c76 {p : Program} {l : Launch} {e : Env} {s : State} {m : MethodId} {args : Array Value} {below : List Frame} {meth : Method} {c : Code} {z0 : Nat} {g : qG} {w : qWd} {ad : Nat → Nat} {at_ : Nat} {K : Nat} {aw : Nat} (cx : qCx p s m meth c cX5_tallyOf 6 RX5 (some (.object "Eddyhall$Tally")) g z0) (hB : qBC g ad w) (hW : w 66 = some (aw, qOb 4 qlW)) (hT : w K = some (at_, qOb 2 qlT)) (hK : 64 ≤ K ∧ 66 ≠ K) {k12 : Int → Int → Int → qSt → Option (Int × qSt)} (hk12 : ∀ (x1 : Int) (x2 : Int) (x5 : Int) (σ : qSt), qS p l e (qrk 3 1 3) s m args below meth c 6 g z0 w 1 3 (qQ below g z0 w (fun _ => some (.ref at_)) args s 1 3) (k12 x1 x2 x5 σ) σ 12 [(0, some (.ref (ad 0))), (1, some (.int (qI x1))), (2, some (.int (qI x2))), (3, some (.ref aw)), (4, some (.ref at_)), (5, some (.int (qI x5)))] []) (x1 : Int) (x2 : Int) (x5 : Int) (σ : qSt) : qS p l e (qrk 3 1 3) s m args below meth c 6 g z0 w 1 3 (qQ below g z0 w (fun _ => some (.ref at_)) args s 1 3) (fX5_tallyOf_c76 K k12 x1 x2 x5 σ) σ 76 [(0, some (.ref (ad 0))), (1, some (.int (qI x1))), (2, some (.int (qI x2))), (3, some (.ref aw)), (4, some (.ref at_)), (5, some (.int (qI x5)))] [] := by
  unfold fX5_tallyOf_c76
  refine r_iinc (pc := 76) cx dX5_tallyOf_76 rfl (by decide) rfl ?_
  refine r_goto (pc := 79) (tgt := 12) cx dX5_tallyOf_79 (by decide) ?_
  exact qS.sub (qsub_cons rfl (qsub_cons rfl (qsub_cons rfl (qsub_cons rfl (qsub_cons rfl (qsub_cons rfl (qsub_nil _))))))) (hk12 _ _ _ _)
def fX5_tallyOf_c73 (K : Nat) (k12 : Int → Int → Int → qSt → Option (Int × qSt)) (x1 : Int) (x2 : Int) (x5 : Int) (s0 : Int) (σ : qSt) : Option (Int × qSt) :=
  (qbd (fX2_take K s0 σ) fun (r73 : Int) (σ4 : qSt) => (fX5_tallyOf_c76 K k12 x1 x2 x5 σ4))
set_option maxRecDepth 100000 in
set_option maxHeartbeats 4000000 in
theorem tX5_tallyOf_c73 {p : Program} {l : Launch} {e : Env} {s : State} {m : MethodId} {args : Array Value} {below : List Frame} {meth : Method} {c : Code} {z0 : Nat} {g : qG} {w : qWd} {ad : Nat → Nat} {at_ : Nat} {K : Nat} {aw : Nat} (cx : qCx p s m meth c cX5_tallyOf 6 RX5 (some (.object "Eddyhall$Tally")) g z0) (hB : qBC g ad w) (hW : w 66 = some (aw, qOb 4 qlW)) (hT : w K = some (at_, qOb 2 qlT)) (hK : 64 ≤ K ∧ 66 ≠ K) {k12 : Int → Int → Int → qSt → Option (Int × qSt)} (hk12 : ∀ (x1 : Int) (x2 : Int) (x5 : Int) (σ : qSt), qS p l e (qrk 3 1 3) s m args below meth c 6 g z0 w 1 3 (qQ below g z0 w (fun _ => some (.ref at_)) args s 1 3) (k12 x1 x2 x5 σ) σ 12 [(0, some (.ref (ad 0))), (1, some (.int (qI x1))), (2, some (.int (qI x2))), (3, some (.ref aw)), (4, some (.ref at_)), (5, some (.int (qI x5)))] []) (x1 : Int) (x2 : Int) (x5 : Int) (s0 : Int) (σ : qSt) : qS p l e (qrk 3 1 3) s m args below meth c 6 g z0 w 1 3 (qQ below g z0 w (fun _ => some (.ref at_)) args s 1 3) (fX5_tallyOf_c73 K k12 x1 x2 x5 s0 σ) σ 73 [(0, some (.ref (ad 0))), (1, some (.int (qI x1))), (2, some (.int (qI x2))), (3, some (.ref aw)), (4, some (.ref at_)), (5, some (.int (qI x5)))] [.long (qJ s0), .ref at_] := by
  unfold fX5_tallyOf_c73
  refine r_dVNv (pc := 73) cx (tX2_take hT s0 σ) qm_X2_take qv_X2_take hcl_X2 hT wn_X5_245 dX5_tallyOf_73 rfl rfl (Nat.le_of_ble_eq_true rfl) ⟨Nat.le_of_ble_eq_true rfl, Nat.le_of_ble_eq_true rfl⟩ ⟨rfl, rfl⟩ ⟨Nat.le_of_ble_eq_true rfl, Nat.le_of_ble_eq_true rfl⟩ (fun r73 σ4 => ?_)
  exact qS.sub (qsub_cons rfl (qsub_cons rfl (qsub_cons rfl (qsub_cons rfl (qsub_cons rfl (qsub_cons rfl (qsub_nil _))))))) (tX5_tallyOf_c76 cx hB hW hT hK hk12 _ _ _ _)
def fX5_tallyOf_c12 (K : Nat) : Nat → Int → Int → Int → qSt → Option (Int × qSt)
  | 0, _, _, _, _ => none
  | f + 1, x1, x2, x5, σ => (if qI 96 ≤ qI x5 then (some (0, σ)) else (if 0 ≤ x5 ∧ x5 < 96 then (if qI (σ 2 x5) = qI 1 then (fX5_tallyOf_c76 K (fX5_tallyOf_c12 K f) x1 x2 x5 σ) else ((fX4_holds σ x5).bind fun (r36 : Int) => (if qI r36 = 0 then (fX5_tallyOf_c76 K (fX5_tallyOf_c12 K f) x1 x2 x5 σ) else (if qI x1 = 0 then ((fX3_numberAt 1 σ x5 x2).bind fun (r69 : Int) => (fX5_tallyOf_c73 K (fX5_tallyOf_c12 K f) x1 x2 x5 (qi2l r69) σ)) else ((fX0_numberAt σ x5 x2).bind fun (r55 : Int) => (fX5_tallyOf_c73 K (fX5_tallyOf_c12 K f) x1 x2 x5 (qi2l r55) σ)))))) else none))
set_option maxRecDepth 100000 in
set_option maxHeartbeats 4000000 in
theorem tX5_tallyOf_c12 {p : Program} {l : Launch} {e : Env} {s : State} {m : MethodId} {args : Array Value} {below : List Frame} {meth : Method} {c : Code} {z0 : Nat} {g : qG} {w : qWd} {ad : Nat → Nat} {at_ : Nat} {K : Nat} {aw : Nat} (cx : qCx p s m meth c cX5_tallyOf 6 RX5 (some (.object "Eddyhall$Tally")) g z0) (hB : qBC g ad w) (hW : w 66 = some (aw, qOb 4 qlW)) (hT : w K = some (at_, qOb 2 qlT)) (hK : 64 ≤ K ∧ 66 ≠ K) : ∀ (f : Nat) (x1 : Int) (x2 : Int) (x5 : Int) (σ : qSt), qS p l e (qrk 3 1 3) s m args below meth c 6 g z0 w 1 3 (qQ below g z0 w (fun _ => some (.ref at_)) args s 1 3) (fX5_tallyOf_c12 K f x1 x2 x5 σ) σ 12 [(0, some (.ref (ad 0))), (1, some (.int (qI x1))), (2, some (.int (qI x2))), (3, some (.ref aw)), (4, some (.ref at_)), (5, some (.int (qI x5)))] [] := by
  intro f
  induction f with
  | zero => exact fun _ _ _ _ => qS.fail
  | succ f ih =>
    intro x1 x2 x5 σ
    unfold fX5_tallyOf_c12
    refine r_iload (pc := 12) cx dX5_tallyOf_12 rfl ?_
    refine r_bipush (pc := 14) (v := 96) cx dX5_tallyOf_14 (by decide +kernel) ?_
    refine r_icmp_ge (tgt := 82) cx dX5_tallyOf_16 (by decide) ?_ ?_
    · refine r_aload (pc := 82) cx dX5_tallyOf_82 rfl ?_
      exact r_areturn (r := 0) (w0 := w) (mc := 1) (ms := 3) (fun _ _ h => h) (Nat.le_of_ble_eq_true rfl) (Nat.le_of_ble_eq_true rfl) cx (Or.inl ⟨_, rfl⟩) dX5_tallyOf_84 rfl
    · refine r_aload_n (pc := 19) cx dX5_tallyOf_19 rfl ?_
      refine r_get (pc := 20) cx hcl_X5 qc_X5 (lw0 hB) (j := 0) (by decide) wf_X5_10 dX5_tallyOf_20 (x := .ref (ad 1)) rfl ?_
      refine r_getN (pc := 23) cx hcl_X3 qc_X3 (lw1 hB) (j := 0) (by decide) wg_X5_57 dX5_tallyOf_23 (x := .ref (ad 2)) rfl ?_
      refine r_iload (pc := 26) cx dX5_tallyOf_26 rfl ?_
      refine r_iaload (pc := 28) cx (lw2 hB) rfl (by decide) dX5_tallyOf_28 ?_
      refine r_iconst (pc := 29) cx dX5_tallyOf_29 ?_
      refine r_icmp_eq (tgt := 76) cx dX5_tallyOf_30 (by decide) ?_ ?_
      · exact qS.sub (qsub_cons rfl (qsub_cons rfl (qsub_cons rfl (qsub_cons rfl (qsub_cons rfl (qsub_cons rfl (qsub_nil _))))))) (tX5_tallyOf_c76 cx hB hW hT hK ih _ _ _ _)
      · refine r_aload_n (pc := 33) cx dX5_tallyOf_33 rfl ?_
        refine r_iload (pc := 34) cx dX5_tallyOf_34 rfl ?_
        refine r_pVNi (pc := 36) cx (tX4_holds hW x5 σ) qm_X4_holds qv_X4_holds hcl_X4 hW wn_X5_237 dX5_tallyOf_36 rfl rfl (Nat.le_of_ble_eq_true rfl) ⟨Nat.le_of_ble_eq_true rfl, Nat.le_of_ble_eq_true rfl⟩ ⟨rfl, rfl⟩ ⟨Nat.le_of_ble_eq_true rfl, Nat.le_of_ble_eq_true rfl⟩ (fun r36 => ?_)
        refine r_if_eq (tgt := 76) cx dX5_tallyOf_39 (by decide) ?_ ?_
        · exact qS.sub (qsub_cons rfl (qsub_cons rfl (qsub_cons rfl (qsub_cons rfl (qsub_cons rfl (qsub_cons rfl (qsub_nil _))))))) (tX5_tallyOf_c76 cx hB hW hT hK ih _ _ _ _)
        · refine r_aload (pc := 42) cx dX5_tallyOf_42 rfl ?_
          refine r_iload_n (pc := 44) cx dX5_tallyOf_44 rfl ?_
          refine r_if_eq (tgt := 62) cx dX5_tallyOf_45 (by decide) ?_ ?_
          · refine r_aload_n (pc := 62) cx dX5_tallyOf_62 rfl ?_
            refine r_get (pc := 63) cx hcl_X5 qc_X5 (lw0 hB) (j := 0) (by decide) wf_X5_10 dX5_tallyOf_63 (x := .ref (ad 1)) rfl ?_
            refine r_iload (pc := 66) cx dX5_tallyOf_66 rfl ?_
            refine r_iload_n (pc := 68) cx dX5_tallyOf_68 rfl ?_
            refine r_pVNi (pc := 69) cx (tX3_numberAt hB (Or.inl rfl) x5 x2 σ) qm_X3_numberAt qv_X3_numberAt hcl_X3 (lw1 hB) wn_X5_244 dX5_tallyOf_69 rfl rfl (Nat.le_of_ble_eq_true rfl) ⟨Nat.le_of_ble_eq_true rfl, Nat.le_of_ble_eq_true rfl⟩ ⟨rfl, rfl⟩ ⟨Nat.le_of_ble_eq_true rfl, Nat.le_of_ble_eq_true rfl⟩ (fun r69 => ?_)
            refine r_i2l (pc := 72) cx dX5_tallyOf_72 ?_
            exact qS.sub (qsub_cons rfl (qsub_cons rfl (qsub_cons rfl (qsub_cons rfl (qsub_cons rfl (qsub_cons rfl (qsub_nil _))))))) (tX5_tallyOf_c73 cx hB hW hT hK ih _ _ _ _ _)
          · refine r_aload_n (pc := 48) cx dX5_tallyOf_48 rfl ?_
            refine r_get (pc := 49) cx hcl_X5 qc_X5 (lw0 hB) (j := 2) (by decide) wf_X5_22 dX5_tallyOf_49 (x := .ref (ad 27)) rfl ?_
            refine r_iload (pc := 52) cx dX5_tallyOf_52 rfl ?_
            refine r_iload_n (pc := 54) cx dX5_tallyOf_54 rfl ?_
            refine r_pVNi (pc := 55) cx (tX0_numberAt hB x5 x2 σ) qm_X0_numberAt qv_X0_numberAt hcl_X0 (lw27 hB) wn_X5_240 dX5_tallyOf_55 rfl rfl (Nat.le_of_ble_eq_true rfl) ⟨Nat.le_of_ble_eq_true rfl, Nat.le_of_ble_eq_true rfl⟩ ⟨rfl, rfl⟩ ⟨Nat.le_of_ble_eq_true rfl, Nat.le_of_ble_eq_true rfl⟩ (fun r55 => ?_)
            refine r_i2l (pc := 58) cx dX5_tallyOf_58 ?_
            refine r_goto (pc := 59) (tgt := 73) cx dX5_tallyOf_59 (by decide) ?_
            exact qS.sub (qsub_cons rfl (qsub_cons rfl (qsub_cons rfl (qsub_cons rfl (qsub_cons rfl (qsub_cons rfl (qsub_nil _))))))) (tX5_tallyOf_c73 cx hB hW hT hK ih _ _ _ _ _)
def fX5_tallyOf (K : Nat) (p0 : Int) (p1 : Int) (σ : qSt) : Option (Int × qSt) :=
  (qb (qrow σ K (fun _ => 0)) fun (σ2 : qSt) => (qbd (fX2_init K σ2) fun (r4 : Int) (σ3 : qSt) => (fX5_tallyOf_c12 K qFU p0 p1 0 σ3)))
set_option maxRecDepth 100000 in
set_option maxHeartbeats 4000000 in
theorem tX5_tallyOf {l : Launch} {z0 : Nat} {g : qG} {w : qWd} {ad : Nat → Nat} {K : Nat} {aw : Nat} (hB : qBC g ad w) (hW : w 66 = some (aw, qOb 4 qlW)) (hK : 64 ≤ K ∧ 66 ≠ K) (p0 : Int) (p1 : Int) (σ : qSt) : qCTt K l yX5_tallyOf cX5_tallyOf 6 (some (.object "Eddyhall$Tally")) (qrk 3 1 3) g z0 w [.ref (ad 0), .int (qI p0), .int (qI p1), .ref aw] σ (fX5_tallyOf K p0 p1 σ) := by
  refine qCTt.of [(0, some (.ref (ad 0))), (1, some (.int (qI p0))), (2, some (.int (qI p1))), (3, some (.ref aw))] (by decide +kernel) (Nat.le_of_ble_eq_true rfl) rfl ?_
  intro p e s m args below meth c cx
  unfold fX5_tallyOf
  refine r_new (pc := 0) cx K qlT hcl_X2 qc_X2 tyX2_ok wc_X5_186 qinst_X2 qini_X2 (fun j hj => by match j, hj with | 0, _ => rfl | 1, _ => rfl | 2, _ => rfl) (Nat.le_of_ble_eq_true rfl) (Nat.le_of_ble_eq_true rfl) dX5_tallyOf_0 (fun q1 σ2 => ?_)
  refine qS.mono (Q' := qQ below g z0 (qWput w K (q1, qOb 2 qlT)) (fun _ => some (.ref q1)) args s 1 3) (fun u t h => qTQ.mq h) ?_
  have hB := hB.put (k := K) hK.1 (q1, qOb 2 qlT)
  have hW := qWput_get (k := K) (x := (q1, qOb 2 qlT)) hW hK.2
  have hT := qWput_self w K (q1, qOb 2 qlT)
  refine r_dup (pc := 3) cx dX5_tallyOf_3 rfl ?_
  refine r_callIN (pc := 4) cx (tX2_init hT  σ2) qm_X2_init rfl qi_X2_init wn_X5_236 dX5_tallyOf_4 rfl rfl (Nat.le_of_ble_eq_true rfl) ⟨Nat.le_of_ble_eq_true rfl, Nat.le_of_ble_eq_true rfl⟩ ⟨Nat.le_of_ble_eq_true rfl, Nat.le_of_ble_eq_true rfl⟩ (fun r4 σ3 => ?_)
  refine r_astore (pc := 7) cx dX5_tallyOf_7 (by decide) rfl ?_
  refine r_iconst (pc := 9) cx dX5_tallyOf_9 ?_
  refine r_istore (pc := 10) cx dX5_tallyOf_10 (by decide) rfl ?_
  exact qS.sub (qsub_cons rfl (qsub_cons rfl (qsub_cons rfl (qsub_cons rfl (qsub_cons rfl (qsub_cons rfl (qsub_nil _))))))) (tX5_tallyOf_c12 cx hB hW hT hK _ _ _ _ _)
def fX5_average (p0 : Int) (p1 : Int) (p2 : Int) (p3 : Int) (p4 : Int) (p5 : Int) (σ : qSt) : Option (Int × Int × qSt) :=
  ((fX5_isOutside σ p1 0 2).bind fun (r3 : Int) => (if qI r3 = 0 then ((fX5_isNoWindow σ p2 p3 p4 p5).bind fun (r16 : Int) => (if qI r16 = 0 then (qb (qrow σ 66 (fun _ => 0)) fun (σ2 : qSt) => (qbd (fX4_init p2 p3 p4 p5 σ2) fun (r44 : Int) (σ3 : qSt) => (qbd (fX5_tallyOf 67 p0 p1 σ3) fun (r47 : Int) (σ4 : qSt) => (if 0 < qI (qlcmp (σ4 67 0) 0) then ((fJ9_floorDiv_f86c9 σ4 (100 * (σ4 67 1)) (σ4 67 0)).bind fun (r80 : Int) => (some (0, r80, σ4))) else (some (0, 0, σ4)))))) else (some (2, 0, σ)))) else (some (2, 0, σ))))
set_option maxRecDepth 100000 in
set_option maxHeartbeats 4000000 in
theorem tX5_average {l : Launch} {z0 : Nat} {g : qG} {w : qWd} {ad : Nat → Nat} (hB : qBC g ad w) (h66 : w 66 = none) (h67 : w 67 = none) (h68 : w 68 = none) (hl : l.stackTraces = false) (p0 : Int) (p1 : Int) (p2 : Int) (p3 : Int) (p4 : Int) (p5 : Int) (σ : qSt) : qXT l yX5_average cX5_average 8 (some .long) (qrk 4 2 7) g z0 w [.ref (ad 0), .int (qI p0), .int (qI p1), .int (qI p2), .int (qI p3), .int (qI p4), .int (qI p5)] σ (fX5_average p0 p1 p2 p3 p4 p5 σ) qrj := by
  refine qXT.of [(0, some (.ref (ad 0))), (1, some (.int (qI p0))), (2, some (.int (qI p1))), (3, some (.int (qI p2))), (4, some (.int (qI p3))), (5, some (.int (qI p4))), (6, some (.int (qI p5)))] (by decide +kernel) (Nat.le_of_ble_eq_true rfl) rfl ?_
  intro p e s m args below meth c cx htab
  have hsub : ∀ j x, w j = some x → w j = some x := fun _ _ h => h
  unfold fX5_average
  refine r_iload_n (pc := 0) cx dX5_average_0 rfl ?_
  refine r_iconst (pc := 1) cx dX5_average_1 ?_
  refine r_iconst (pc := 2) cx dX5_average_2 ?_
  refine r_pSi (pc := 3) cx (tX5_isOutside  p1 0 2 σ) qm_X5_isOutside qs_X5_isOutside wm_X5_74 dX5_average_3 rfl rfl (Nat.le_of_ble_eq_true rfl) ⟨Nat.le_of_ble_eq_true rfl, Nat.le_of_ble_eq_true rfl⟩ ⟨rfl, rfl⟩ ⟨Nat.le_of_ble_eq_true rfl, Nat.le_of_ble_eq_true rfl⟩ (fun r3 => ?_)
  refine r_if_ne (tgt := 22) cx dX5_average_6 (by decide) ?_ ?_
  · exact r_throw (w0 := w) (mc := 2) (ms := 7) (rk := qrj) cx hl htab qt_qE2_71_73 (by rfl) (fun _ _ h => h) (Nat.le_of_ble_eq_true rfl) (Nat.le_of_ble_eq_true rfl) (Nat.le_of_ble_eq_true rfl) (Nat.le_of_ble_eq_true rfl) (Nat.le_of_ble_eq_true rfl) (Nat.le_of_ble_eq_true rfl) dX5_average_22 dX5_average_25 dX5_average_26 dX5_average_29 rfl
  · refine r_iload_n (pc := 9) cx dX5_average_9 rfl ?_
    refine r_iload (pc := 10) cx dX5_average_10 rfl ?_
    refine r_iload (pc := 12) cx dX5_average_12 rfl ?_
    refine r_iload (pc := 14) cx dX5_average_14 rfl ?_
    refine r_pSi (pc := 16) cx (tX5_isNoWindow  p2 p3 p4 p5 σ) qm_X5_isNoWindow qs_X5_isNoWindow wm_X5_172 dX5_average_16 rfl rfl (Nat.le_of_ble_eq_true rfl) ⟨Nat.le_of_ble_eq_true rfl, Nat.le_of_ble_eq_true rfl⟩ ⟨rfl, rfl⟩ ⟨Nat.le_of_ble_eq_true rfl, Nat.le_of_ble_eq_true rfl⟩ (fun r16 => ?_)
    refine r_if_eq (tgt := 30) cx dX5_average_19 (by decide) ?_ ?_
    · refine r_aload_n (pc := 30) cx dX5_average_30 rfl ?_
      refine r_iload_n (pc := 31) cx dX5_average_31 rfl ?_
      refine r_iload_n (pc := 32) cx dX5_average_32 rfl ?_
      refine r_new (pc := 33) cx 66 qlW hcl_X4 qc_X4 tyX4_ok wc_X5_176 qinst_X4 qini_X4 (fun j hj => by match j, hj with | 0, _ => rfl | 1, _ => rfl | 2, _ => rfl | 3, _ => rfl) (Nat.le_of_ble_eq_true rfl) (Nat.le_of_ble_eq_true rfl) dX5_average_33 (fun q1 σ2 => ?_)
      have hB := hB.put (k := 66) (by decide) (q1, qOb 4 qlW)
      have hW := qWput_self w 66 (q1, qOb 4 qlW)
      have hsub := qWsub hsub h66 (q1, qOb 4 qlW)
      refine r_dup (pc := 36) cx dX5_average_36 rfl ?_
      refine r_iload_n (pc := 37) cx dX5_average_37 rfl ?_
      refine r_iload (pc := 38) cx dX5_average_38 rfl ?_
      refine r_iload (pc := 40) cx dX5_average_40 rfl ?_
      refine r_iload (pc := 42) cx dX5_average_42 rfl ?_
      refine r_callIN (pc := 44) cx (tX4_init hW p2 p3 p4 p5 σ2) qm_X4_init rfl qi_X4_init wn_X5_178 dX5_average_44 rfl rfl (Nat.le_of_ble_eq_true rfl) ⟨Nat.le_of_ble_eq_true rfl, Nat.le_of_ble_eq_true rfl⟩ ⟨Nat.le_of_ble_eq_true rfl, Nat.le_of_ble_eq_true rfl⟩ (fun r44 σ3 => ?_)
      refine r_callT (pc := 47) cx (tX5_tallyOf (K := 67) hB hW (by decide) p0 p1 σ3) qm_X5_tallyOf qv_X5_tallyOf hcl_X5 (lw0 hB) wm_X5_181 dX5_average_47 rfl rfl (Nat.le_of_ble_eq_true rfl) ⟨Nat.le_of_ble_eq_true rfl, Nat.le_of_ble_eq_true rfl⟩ ⟨Nat.le_of_ble_eq_true rfl, Nat.le_of_ble_eq_true rfl⟩ (fun q5 r47 σ4 => ?_)
      have hB := hB.put (k := 67) (by decide) (q5, qOb 2 qlT)
      have hW := qWput_get (k := 67) (x := (q5, qOb 2 qlT)) hW (by decide)
      have hT := qWput_self (qWput w 66 (q1, qOb 4 qlW)) 67 (q5, qOb 2 qlT)
      have hsub := qWsub hsub h67 (q5, qOb 2 qlT)
      refine r_astore (pc := 50) cx dX5_average_50 (by decide) rfl ?_
      refine r_aload (pc := 52) cx dX5_average_52 rfl ?_
      refine r_getN (pc := 54) cx hcl_X2 qc_X2 hT (j := 0) (by decide) wg_X5_185 dX5_average_54 (x := .long (qJ (σ4 67 0))) rfl ?_
      refine r_lconst (pc := 57) (z := 0) cx dX5_average_57 (by decide +kernel) ?_
      refine r_lcmp (pc := 58) cx dX5_average_58 ?_
      refine r_if_gt (tgt := 66) cx dX5_average_59 (by decide) ?_ ?_
      · refine r_ldc2 (pc := 66) (v := 100) cx dX5_average_66 wq_X5_190 ?_
        refine r_aload (pc := 69) cx dX5_average_69 rfl ?_
        refine r_getN (pc := 71) cx hcl_X2 qc_X2 hT (j := 1) (by decide) wg_X5_192 dX5_average_71 (x := .long (qJ (σ4 67 1))) rfl ?_
        refine r_lmul (pc := 74) cx dX5_average_74 ?_
        refine r_aload (pc := 75) cx dX5_average_75 rfl ?_
        refine r_getN (pc := 77) cx hcl_X2 qc_X2 hT (j := 0) (by decide) wg_X5_185 dX5_average_77 (x := .long (qJ (σ4 67 0))) rfl ?_
        refine r_pSj (pc := 80) cx (tJ9_floorDiv_f86c9  (100 * (σ4 67 1)) (σ4 67 0) σ4) qm_J9_floorDiv_f86c9 qs_J9_floorDiv_f86c9 wm_X5_195 dX5_average_80 rfl rfl (Nat.le_of_ble_eq_true rfl) ⟨Nat.le_of_ble_eq_true rfl, Nat.le_of_ble_eq_true rfl⟩ ⟨rfl, rfl⟩ ⟨Nat.le_of_ble_eq_true rfl, Nat.le_of_ble_eq_true rfl⟩ (fun r80 => ?_)
        exact r_xlreturn (w0 := w) (mc := 2) (ms := 7) hsub (Nat.le_of_ble_eq_true rfl) (Nat.le_of_ble_eq_true rfl) cx dX5_average_83 rfl
      · refine r_lconst (pc := 62) (z := 0) cx dX5_average_62 (by decide +kernel) ?_
        refine r_goto (pc := 63) (tgt := 83) cx dX5_average_63 (by decide) ?_
        exact r_xlreturn (w0 := w) (mc := 2) (ms := 7) hsub (Nat.le_of_ble_eq_true rfl) (Nat.le_of_ble_eq_true rfl) cx dX5_average_83 rfl
    · exact r_throw (w0 := w) (mc := 2) (ms := 7) (rk := qrj) cx hl htab qt_qE2_71_73 (by rfl) (fun _ _ h => h) (Nat.le_of_ble_eq_true rfl) (Nat.le_of_ble_eq_true rfl) (Nat.le_of_ble_eq_true rfl) (Nat.le_of_ble_eq_true rfl) (Nat.le_of_ble_eq_true rfl) (Nat.le_of_ble_eq_true rfl) dX5_average_22 dX5_average_25 dX5_average_26 dX5_average_29 rfl
def fX5_scatter (p0 : Int) (p1 : Int) (p2 : Int) (p3 : Int) (p4 : Int) (p5 : Int) (σ : qSt) : Option (Int × Int × qSt) :=
  ((fX5_isOutside σ p1 0 2).bind fun (r3 : Int) => (if qI r3 = 0 then ((fX5_isNoWindow σ p2 p3 p4 p5).bind fun (r16 : Int) => (if qI r16 = 0 then (qb (qrow σ 66 (fun _ => 0)) fun (σ2 : qSt) => (qbd (fX4_init p2 p3 p4 p5 σ2) fun (r44 : Int) (σ3 : qSt) => (qbd (fX5_tallyOf 67 p0 p1 σ3) fun (r47 : Int) (σ4 : qSt) => (if 0 < qI (qlcmp (σ4 67 0) 0) then (qb (((σ4 67 0) * (σ4 67 2)) - ((σ4 67 1) * (σ4 67 1))) fun (y6 : Int) => ((fJ9_floorDiv_f86c9 σ4 (100 * y6) ((σ4 67 0) * (σ4 67 0))).bind fun (r106 : Int) => (some (0, r106, σ4)))) else (some (0, 0, σ4)))))) else (some (2, 0, σ)))) else (some (2, 0, σ))))
set_option maxRecDepth 100000 in
set_option maxHeartbeats 4000000 in
theorem tX5_scatter {l : Launch} {z0 : Nat} {g : qG} {w : qWd} {ad : Nat → Nat} (hB : qBC g ad w) (h66 : w 66 = none) (h67 : w 67 = none) (h68 : w 68 = none) (hl : l.stackTraces = false) (p0 : Int) (p1 : Int) (p2 : Int) (p3 : Int) (p4 : Int) (p5 : Int) (σ : qSt) : qXT l yX5_scatter cX5_scatter 10 (some .long) (qrk 4 2 7) g z0 w [.ref (ad 0), .int (qI p0), .int (qI p1), .int (qI p2), .int (qI p3), .int (qI p4), .int (qI p5)] σ (fX5_scatter p0 p1 p2 p3 p4 p5 σ) qrj := by
  refine qXT.of [(0, some (.ref (ad 0))), (1, some (.int (qI p0))), (2, some (.int (qI p1))), (3, some (.int (qI p2))), (4, some (.int (qI p3))), (5, some (.int (qI p4))), (6, some (.int (qI p5)))] (by decide +kernel) (Nat.le_of_ble_eq_true rfl) rfl ?_
  intro p e s m args below meth c cx htab
  have hsub : ∀ j x, w j = some x → w j = some x := fun _ _ h => h
  unfold fX5_scatter
  refine r_iload_n (pc := 0) cx dX5_scatter_0 rfl ?_
  refine r_iconst (pc := 1) cx dX5_scatter_1 ?_
  refine r_iconst (pc := 2) cx dX5_scatter_2 ?_
  refine r_pSi (pc := 3) cx (tX5_isOutside  p1 0 2 σ) qm_X5_isOutside qs_X5_isOutside wm_X5_74 dX5_scatter_3 rfl rfl (Nat.le_of_ble_eq_true rfl) ⟨Nat.le_of_ble_eq_true rfl, Nat.le_of_ble_eq_true rfl⟩ ⟨rfl, rfl⟩ ⟨Nat.le_of_ble_eq_true rfl, Nat.le_of_ble_eq_true rfl⟩ (fun r3 => ?_)
  refine r_if_ne (tgt := 22) cx dX5_scatter_6 (by decide) ?_ ?_
  · exact r_throw (w0 := w) (mc := 2) (ms := 7) (rk := qrj) cx hl htab qt_qE2_71_73 (by rfl) (fun _ _ h => h) (Nat.le_of_ble_eq_true rfl) (Nat.le_of_ble_eq_true rfl) (Nat.le_of_ble_eq_true rfl) (Nat.le_of_ble_eq_true rfl) (Nat.le_of_ble_eq_true rfl) (Nat.le_of_ble_eq_true rfl) dX5_scatter_22 dX5_scatter_25 dX5_scatter_26 dX5_scatter_29 rfl
  · refine r_iload_n (pc := 9) cx dX5_scatter_9 rfl ?_
    refine r_iload (pc := 10) cx dX5_scatter_10 rfl ?_
    refine r_iload (pc := 12) cx dX5_scatter_12 rfl ?_
    refine r_iload (pc := 14) cx dX5_scatter_14 rfl ?_
    refine r_pSi (pc := 16) cx (tX5_isNoWindow  p2 p3 p4 p5 σ) qm_X5_isNoWindow qs_X5_isNoWindow wm_X5_172 dX5_scatter_16 rfl rfl (Nat.le_of_ble_eq_true rfl) ⟨Nat.le_of_ble_eq_true rfl, Nat.le_of_ble_eq_true rfl⟩ ⟨rfl, rfl⟩ ⟨Nat.le_of_ble_eq_true rfl, Nat.le_of_ble_eq_true rfl⟩ (fun r16 => ?_)
    refine r_if_eq (tgt := 30) cx dX5_scatter_19 (by decide) ?_ ?_
    · refine r_aload_n (pc := 30) cx dX5_scatter_30 rfl ?_
      refine r_iload_n (pc := 31) cx dX5_scatter_31 rfl ?_
      refine r_iload_n (pc := 32) cx dX5_scatter_32 rfl ?_
      refine r_new (pc := 33) cx 66 qlW hcl_X4 qc_X4 tyX4_ok wc_X5_176 qinst_X4 qini_X4 (fun j hj => by match j, hj with | 0, _ => rfl | 1, _ => rfl | 2, _ => rfl | 3, _ => rfl) (Nat.le_of_ble_eq_true rfl) (Nat.le_of_ble_eq_true rfl) dX5_scatter_33 (fun q1 σ2 => ?_)
      have hB := hB.put (k := 66) (by decide) (q1, qOb 4 qlW)
      have hW := qWput_self w 66 (q1, qOb 4 qlW)
      have hsub := qWsub hsub h66 (q1, qOb 4 qlW)
      refine r_dup (pc := 36) cx dX5_scatter_36 rfl ?_
      refine r_iload_n (pc := 37) cx dX5_scatter_37 rfl ?_
      refine r_iload (pc := 38) cx dX5_scatter_38 rfl ?_
      refine r_iload (pc := 40) cx dX5_scatter_40 rfl ?_
      refine r_iload (pc := 42) cx dX5_scatter_42 rfl ?_
      refine r_callIN (pc := 44) cx (tX4_init hW p2 p3 p4 p5 σ2) qm_X4_init rfl qi_X4_init wn_X5_178 dX5_scatter_44 rfl rfl (Nat.le_of_ble_eq_true rfl) ⟨Nat.le_of_ble_eq_true rfl, Nat.le_of_ble_eq_true rfl⟩ ⟨Nat.le_of_ble_eq_true rfl, Nat.le_of_ble_eq_true rfl⟩ (fun r44 σ3 => ?_)
      refine r_callT (pc := 47) cx (tX5_tallyOf (K := 67) hB hW (by decide) p0 p1 σ3) qm_X5_tallyOf qv_X5_tallyOf hcl_X5 (lw0 hB) wm_X5_181 dX5_scatter_47 rfl rfl (Nat.le_of_ble_eq_true rfl) ⟨Nat.le_of_ble_eq_true rfl, Nat.le_of_ble_eq_true rfl⟩ ⟨Nat.le_of_ble_eq_true rfl, Nat.le_of_ble_eq_true rfl⟩ (fun q5 r47 σ4 => ?_)
      have hB := hB.put (k := 67) (by decide) (q5, qOb 2 qlT)
      have hW := qWput_get (k := 67) (x := (q5, qOb 2 qlT)) hW (by decide)
      have hT := qWput_self (qWput w 66 (q1, qOb 4 qlW)) 67 (q5, qOb 2 qlT)
      have hsub := qWsub hsub h67 (q5, qOb 2 qlT)
      refine r_astore (pc := 50) cx dX5_scatter_50 (by decide) rfl ?_
      refine r_aload (pc := 52) cx dX5_scatter_52 rfl ?_
      refine r_getN (pc := 54) cx hcl_X2 qc_X2 hT (j := 0) (by decide) wg_X5_185 dX5_scatter_54 (x := .long (qJ (σ4 67 0))) rfl ?_
      refine r_lconst (pc := 57) (z := 0) cx dX5_scatter_57 (by decide +kernel) ?_
      refine r_lcmp (pc := 58) cx dX5_scatter_58 ?_
      refine r_if_gt (tgt := 64) cx dX5_scatter_59 (by decide) ?_ ?_
      · refine r_aload (pc := 64) cx dX5_scatter_64 rfl ?_
        refine r_getN (pc := 66) cx hcl_X2 qc_X2 hT (j := 0) (by decide) wg_X5_185 dX5_scatter_66 (x := .long (qJ (σ4 67 0))) rfl ?_
        refine r_aload (pc := 69) cx dX5_scatter_69 rfl ?_
        refine r_getN (pc := 71) cx hcl_X2 qc_X2 hT (j := 2) (by decide) wg_X5_201 dX5_scatter_71 (x := .long (qJ (σ4 67 2))) rfl ?_
        refine r_lmul (pc := 74) cx dX5_scatter_74 ?_
        refine r_aload (pc := 75) cx dX5_scatter_75 rfl ?_
        refine r_getN (pc := 77) cx hcl_X2 qc_X2 hT (j := 1) (by decide) wg_X5_192 dX5_scatter_77 (x := .long (qJ (σ4 67 1))) rfl ?_
        refine r_aload (pc := 80) cx dX5_scatter_80 rfl ?_
        refine r_getN (pc := 82) cx hcl_X2 qc_X2 hT (j := 1) (by decide) wg_X5_192 dX5_scatter_82 (x := .long (qJ (σ4 67 1))) rfl ?_
        refine r_lmul (pc := 85) cx dX5_scatter_85 ?_
        refine r_lsub (pc := 86) cx dX5_scatter_86 ?_
        refine r_nml (fun y6 => ?_)
        refine r_lstore (pc := 87) cx dX5_scatter_87 (by decide) rfl ?_
        refine r_ldc2 (pc := 89) (v := 100) cx dX5_scatter_89 wq_X5_190 ?_
        refine r_lload (pc := 92) cx dX5_scatter_92 rfl ?_
        refine r_lmul (pc := 94) cx dX5_scatter_94 ?_
        refine r_aload (pc := 95) cx dX5_scatter_95 rfl ?_
        refine r_getN (pc := 97) cx hcl_X2 qc_X2 hT (j := 0) (by decide) wg_X5_185 dX5_scatter_97 (x := .long (qJ (σ4 67 0))) rfl ?_
        refine r_aload (pc := 100) cx dX5_scatter_100 rfl ?_
        refine r_getN (pc := 102) cx hcl_X2 qc_X2 hT (j := 0) (by decide) wg_X5_185 dX5_scatter_102 (x := .long (qJ (σ4 67 0))) rfl ?_
        refine r_lmul (pc := 105) cx dX5_scatter_105 ?_
        refine r_pSj (pc := 106) cx (tJ9_floorDiv_f86c9  (100 * y6) ((σ4 67 0) * (σ4 67 0)) σ4) qm_J9_floorDiv_f86c9 qs_J9_floorDiv_f86c9 wm_X5_195 dX5_scatter_106 rfl rfl (Nat.le_of_ble_eq_true rfl) ⟨Nat.le_of_ble_eq_true rfl, Nat.le_of_ble_eq_true rfl⟩ ⟨rfl, rfl⟩ ⟨Nat.le_of_ble_eq_true rfl, Nat.le_of_ble_eq_true rfl⟩ (fun r106 => ?_)
        exact r_xlreturn (w0 := w) (mc := 2) (ms := 7) hsub (Nat.le_of_ble_eq_true rfl) (Nat.le_of_ble_eq_true rfl) cx dX5_scatter_109 rfl
      · refine r_lconst (pc := 62) (z := 0) cx dX5_scatter_62 (by decide +kernel) ?_
        exact r_xlreturn (w0 := w) (mc := 2) (ms := 7) hsub (Nat.le_of_ble_eq_true rfl) (Nat.le_of_ble_eq_true rfl) cx dX5_scatter_63 rfl
    · exact r_throw (w0 := w) (mc := 2) (ms := 7) (rk := qrj) cx hl htab qt_qE2_71_73 (by rfl) (fun _ _ h => h) (Nat.le_of_ble_eq_true rfl) (Nat.le_of_ble_eq_true rfl) (Nat.le_of_ble_eq_true rfl) (Nat.le_of_ble_eq_true rfl) (Nat.le_of_ble_eq_true rfl) (Nat.le_of_ble_eq_true rfl) dX5_scatter_22 dX5_scatter_25 dX5_scatter_26 dX5_scatter_29 rfl
def fX5_bitsWithin_c33 (p1 : Nat) (σ : qSt) (k4 : Int → Int → Option Int) (x2 : Int) (x3 : Int) : Option Int :=
  (k4 x2 (x3 + 1))
set_option maxRecDepth 100000 in
set_option maxHeartbeats 4000000 in
theorem tX5_bitsWithin_c33 {p : Program} {l : Launch} {e : Env} {s : State} {m : MethodId} {args : Array Value} {below : List Frame} {meth : Method} {c : Code} {z0 : Nat} {g : qG} {w : qWd} {σ : qSt} {aw : Nat} {p1 ap1 : Nat} (cx : qCx p s m meth c cX5_bitsWithin 4 RX5 (some .int) g z0) (hp1 : w p1 = some (ap1, qAI (g.2 0) 96)) (hW : w 66 = some (aw, qOb 4 qlW)) {k4 : Int → Int → Option Int} (hk4 : ∀ (x2 : Int) (x3 : Int), qS p l e qrm2 s m args below meth c 4 g z0 w 0 0 (fun r => qQ below g z0 w qri args s 0 0 (r, σ)) (k4 x2 x3) σ 4 [(0, some (.ref aw)), (1, some (.ref ap1)), (2, some (.int (qI x2))), (3, some (.int (qI x3)))] []) (x2 : Int) (x3 : Int) : qS p l e qrm2 s m args below meth c 4 g z0 w 0 0 (fun r => qQ below g z0 w qri args s 0 0 (r, σ)) (fX5_bitsWithin_c33 p1 σ k4 x2 x3) σ 33 [(0, some (.ref aw)), (1, some (.ref ap1)), (2, some (.int (qI x2))), (3, some (.int (qI x3)))] [] := by
  unfold fX5_bitsWithin_c33
  refine r_iinc (pc := 33) cx dX5_bitsWithin_33 rfl (by decide) rfl ?_
  refine r_goto (pc := 36) (tgt := 4) cx dX5_bitsWithin_36 (by decide) ?_
  exact qS.sub (qsub_cons rfl (qsub_cons rfl (qsub_cons rfl (qsub_cons rfl (qsub_nil _))))) (hk4 _ _)
def fX5_bitsWithin_c4 (p1 : Nat) (σ : qSt) : Nat → Int → Int → Option Int
  | 0, _, _ => none
  | f + 1, x2, x3 => (if qI 96 ≤ qI x3 then (some x2) else (if qI 96 ≤ qI x3 then (some x2) else ((fX4_holds σ x3).bind fun (r18 : Int) => (if qI r18 = 0 then (fX5_bitsWithin_c33 p1 σ (fX5_bitsWithin_c4 p1 σ f) x2 x3) else (if 0 ≤ x3 ∧ x3 < 96 then ((fJ6_bitCount_0f7a4 σ (σ p1 x3)).bind fun (r28 : Int) => (qb (x2 + r28) fun (y1 : Int) => (fX5_bitsWithin_c33 p1 σ (fX5_bitsWithin_c4 p1 σ f) y1 x3))) else none)))))
set_option maxRecDepth 100000 in
set_option maxHeartbeats 4000000 in
theorem tX5_bitsWithin_c4 {p : Program} {l : Launch} {e : Env} {s : State} {m : MethodId} {args : Array Value} {below : List Frame} {meth : Method} {c : Code} {z0 : Nat} {g : qG} {w : qWd} {σ : qSt} {aw : Nat} {p1 ap1 : Nat} (cx : qCx p s m meth c cX5_bitsWithin 4 RX5 (some .int) g z0) (hp1 : w p1 = some (ap1, qAI (g.2 0) 96)) (hW : w 66 = some (aw, qOb 4 qlW)) : ∀ (f : Nat) (x2 : Int) (x3 : Int), qS p l e qrm2 s m args below meth c 4 g z0 w 0 0 (fun r => qQ below g z0 w qri args s 0 0 (r, σ)) (fX5_bitsWithin_c4 p1 σ f x2 x3) σ 4 [(0, some (.ref aw)), (1, some (.ref ap1)), (2, some (.int (qI x2))), (3, some (.int (qI x3)))] [] := by
  intro f
  induction f with
  | zero => exact fun _ _ => qS.fail
  | succ f ih =>
    intro x2 x3
    unfold fX5_bitsWithin_c4
    refine r_iload_n (pc := 4) cx dX5_bitsWithin_4 rfl ?_
    refine r_bipush (pc := 5) (v := 96) cx dX5_bitsWithin_5 (by decide +kernel) ?_
    refine r_icmp_ge (tgt := 39) cx dX5_bitsWithin_7 (by decide) ?_ ?_
    · refine r_iload_n (pc := 39) cx dX5_bitsWithin_39 rfl ?_
      exact r_ireturn (w0 := w) (fun _ _ h => h) (Nat.zero_le _) (Nat.zero_le _) cx dX5_bitsWithin_40 rfl
    · refine r_iload_n (pc := 10) cx dX5_bitsWithin_10 rfl ?_
      refine r_aload_n (pc := 11) cx dX5_bitsWithin_11 rfl ?_
      refine r_alen_qAI (pc := 12) cx (t0 := 0) (ty := .int) rfl hp1 (M := 96) rfl dX5_bitsWithin_12 ?_
      refine r_icmp_ge (tgt := 39) cx dX5_bitsWithin_13 (by decide) ?_ ?_
      · refine r_iload_n (pc := 39) cx dX5_bitsWithin_39 rfl ?_
        exact r_ireturn (w0 := w) (fun _ _ h => h) (Nat.zero_le _) (Nat.zero_le _) cx dX5_bitsWithin_40 rfl
      · refine r_aload_n (pc := 16) cx dX5_bitsWithin_16 rfl ?_
        refine r_iload_n (pc := 17) cx dX5_bitsWithin_17 rfl ?_
        refine r_pVNi (pc := 18) cx (tX4_holds hW x3 σ) qm_X4_holds qv_X4_holds hcl_X4 hW wn_X5_237 dX5_bitsWithin_18 rfl rfl (Nat.le_of_ble_eq_true rfl) ⟨Nat.le_of_ble_eq_true rfl, Nat.le_of_ble_eq_true rfl⟩ ⟨rfl, rfl⟩ ⟨Nat.zero_le _, Nat.zero_le _⟩ (fun r18 => ?_)
        refine r_if_eq (tgt := 33) cx dX5_bitsWithin_21 (by decide) ?_ ?_
        · exact qS.sub (qsub_cons rfl (qsub_cons rfl (qsub_cons rfl (qsub_cons rfl (qsub_nil _))))) (tX5_bitsWithin_c33 cx hp1 hW ih _ _)
        · refine r_iload_n (pc := 24) cx dX5_bitsWithin_24 rfl ?_
          refine r_aload_n (pc := 25) cx dX5_bitsWithin_25 rfl ?_
          refine r_iload_n (pc := 26) cx dX5_bitsWithin_26 rfl ?_
          refine r_iaload (pc := 27) cx hp1 rfl (by decide) dX5_bitsWithin_27 ?_
          refine r_pSi (pc := 28) cx (tJ6_bitCount_0f7a4  (σ p1 x3) σ) qm_J6_bitCount_0f7a4 qs_J6_bitCount_0f7a4 wm_X5_92 dX5_bitsWithin_28 rfl rfl (Nat.le_of_ble_eq_true rfl) ⟨Nat.le_of_ble_eq_true rfl, Nat.le_of_ble_eq_true rfl⟩ ⟨rfl, rfl⟩ ⟨Nat.zero_le _, Nat.zero_le _⟩ (fun r28 => ?_)
          refine r_iadd (pc := 31) cx dX5_bitsWithin_31 ?_
          refine r_nmi (fun y1 => ?_)
          refine r_istore_n (pc := 32) cx dX5_bitsWithin_32 (by decide) rfl ?_
          exact qS.sub (qsub_cons rfl (qsub_cons rfl (qsub_cons rfl (qsub_cons rfl (qsub_nil _))))) (tX5_bitsWithin_c33 cx hp1 hW ih _ _)
def fX5_bitsWithin (p1 : Nat) (σ : qSt) : Option Int :=
  (fX5_bitsWithin_c4 p1 σ qFU 0 0)
set_option maxRecDepth 100000 in
set_option maxHeartbeats 4000000 in
theorem tX5_bitsWithin {l : Launch} {z0 : Nat} {g : qG} {w : qWd} {aw : Nat} {p1 ap1 : Nat} (hp1 : w p1 = some (ap1, qAI (g.2 0) 96)) (hW : w 66 = some (aw, qOb 4 qlW)) (σ : qSt) : qCT l yX5_bitsWithin cX5_bitsWithin 4 (some .int) qrm2 g z0 w [.ref aw, .ref ap1] σ (qlift (fX5_bitsWithin p1 σ) σ) qri := by
  refine qCTp.of [(0, some (.ref aw)), (1, some (.ref ap1))] (by decide +kernel) (Nat.le_of_ble_eq_true rfl) rfl ?_
  intro p e s m args below meth c cx
  unfold fX5_bitsWithin
  refine r_iconst (pc := 0) cx dX5_bitsWithin_0 ?_
  refine r_istore_n (pc := 1) cx dX5_bitsWithin_1 (by decide) rfl ?_
  refine r_iconst (pc := 2) cx dX5_bitsWithin_2 ?_
  refine r_istore_n (pc := 3) cx dX5_bitsWithin_3 (by decide) rfl ?_
  exact qS.sub (qsub_cons rfl (qsub_cons rfl (qsub_cons rfl (qsub_cons rfl (qsub_nil _))))) (tX5_bitsWithin_c4 cx hp1 hW _ _ _)
def fX5_unevenInk_c40 (k30 : Nat → Int → Int → Int → Int → qSt → Option (Int × qSt)) : Nat → Nat → Int → Int → Int → Int → Int → qSt → Option (Int × qSt)
  | 0, _, _, _, _, _, _, _ => none
  | f + 1, kc, x1, x3, x5, x7, x8, σ => (if qI 12 ≤ qI x8 then (k30 kc x1 x3 x5 (x7 + 2) σ) else (if kc + 1 ≤ 24 then (qb (qrow σ 66 (fun _ => 0)) fun (σ4 : qSt) => (qbd (fX4_init x7 x8 2 2 σ4) fun (r57 : Int) (σ5 : qSt) => ((fX5_bitsWithin 5 σ5).bind fun (r71 : Int) => (qb (qi2l r71) fun (y6 : Int) => ((fX5_bitsWithin 4 σ5).bind fun (r86 : Int) => (qb (qi2l r86) fun (y7 : Int) => ((fJ9_abs_067f4 σ5 ((y6 * x1) - (x3 * y7))).bind fun (r103 : Int) => (qb (x5 + r103) fun (y8 : Int) => (fX5_unevenInk_c40 k30 f (kc + 1) x1 x3 y8 x7 (x8 + 2) σ5))))))))) else none))
set_option maxRecDepth 100000 in
set_option maxHeartbeats 4000000 in
theorem tX5_unevenInk_c40 {p : Program} {l : Launch} {e : Env} {s : State} {m : MethodId} {args : Array Value} {below : List Frame} {meth : Method} {c : Code} {z0 : Nat} {g : qG} {w0 : qWd} {ad : Nat → Nat} (cx : qCx p s m meth c cX5_unevenInk 14 RX5 (some .long) g z0) (h66 : w0 66 = none) {k30 : Nat → Int → Int → Int → Int → qSt → Option (Int × qSt)} (hk30 : ∀ (w : qWd) (hB : qBC g ad w) (hsub : ∀ j x, w0 j = some x → w j = some x) (kc : Nat) (x1 : Int) (x3 : Int) (x5 : Int) (x7 : Int) (σ : qSt), qS p l e (qrk 3 24 96) s m args below meth c 14 g z0 w kc (4 * kc) (qQ below g z0 w0 qrj args s 24 96) (k30 kc x1 x3 x5 x7 σ) σ 30 [(0, some (.ref (ad 0))), (1, some (.long (qJ x1))), (3, some (.long (qJ x3))), (5, some (.long (qJ x5))), (7, some (.int (qI x7)))] []) : ∀ (f : Nat) (w : qWd) (hB : qBC g ad w) (hsub : ∀ j x, w0 j = some x → w j = some x) (kc : Nat) (x1 : Int) (x3 : Int) (x5 : Int) (x7 : Int) (x8 : Int) (σ : qSt), qS p l e (qrk 3 24 96) s m args below meth c 14 g z0 w kc (4 * kc) (qQ below g z0 w0 qrj args s 24 96) (fX5_unevenInk_c40 k30 f kc x1 x3 x5 x7 x8 σ) σ 40 [(0, some (.ref (ad 0))), (1, some (.long (qJ x1))), (3, some (.long (qJ x3))), (5, some (.long (qJ x5))), (7, some (.int (qI x7))), (8, some (.int (qI x8)))] [] := by
  intro f
  induction f with
  | zero => exact fun _ _ _ _ _ _ _ _ _ _ => qS.fail
  | succ f ih =>
    intro w hB hsub kc x1 x3 x5 x7 x8 σ
    unfold fX5_unevenInk_c40
    refine r_iload (pc := 40) cx dX5_unevenInk_40 rfl ?_
    refine r_bipush (pc := 42) (v := 12) cx dX5_unevenInk_42 (by decide +kernel) ?_
    refine r_icmp_ge (tgt := 115) cx dX5_unevenInk_44 (by decide) ?_ ?_
    · refine r_iinc (pc := 115) cx dX5_unevenInk_115 rfl (by decide) rfl ?_
      refine r_goto (pc := 118) (tgt := 30) cx dX5_unevenInk_118 (by decide) ?_
      exact qS.sub (qsub_cons rfl (qsub_cons rfl (qsub_cons rfl (qsub_cons rfl (qsub_cons rfl (qsub_nil _)))))) (hk30 _ hB hsub _ _ _ _ _ _)
    · refine qS.ite (fun hkc => ?_) (fun _ => qS.fail)
      refine r_new (pc := 47) cx 66 qlW hcl_X4 qc_X4 tyX4_ok wc_X5_176 qinst_X4 qini_X4 (fun j hj => by match j, hj with | 0, _ => rfl | 1, _ => rfl | 2, _ => rfl | 3, _ => rfl) hkc (by show 4 * kc + 4 ≤ 96; omega) dX5_unevenInk_47 (fun q3 σ4 => ?_)
      have hB := hB.put (k := 66) (by decide) (q3, qOb 4 qlW)
      have hW := qWput_self w 66 (q3, qOb 4 qlW)
      have hsub := qWsub hsub h66 (q3, qOb 4 qlW)
      refine qS.widen (k2 := kc + 1) (n2 := 4 * (kc + 1)) (Nat.le_refl _) (by omega) ?_
      refine r_dup (pc := 50) cx dX5_unevenInk_50 rfl ?_
      refine r_iload (pc := 51) cx dX5_unevenInk_51 rfl ?_
      refine r_iload (pc := 53) cx dX5_unevenInk_53 rfl ?_
      refine r_iconst (pc := 55) cx dX5_unevenInk_55 ?_
      refine r_iconst (pc := 56) cx dX5_unevenInk_56 ?_
      refine r_callIN (pc := 57) cx (tX4_init hW x7 x8 2 2 σ4) qm_X4_init rfl qi_X4_init wn_X5_178 dX5_unevenInk_57 rfl rfl (Nat.le_of_ble_eq_true rfl) ⟨Nat.le_of_ble_eq_true rfl, Nat.le_of_ble_eq_true rfl⟩ ⟨by show kc + 1 + 0 ≤ 24; omega, by show 4 * (kc + 1) + 0 ≤ 96; omega⟩ (fun r57 σ5 => ?_)
      refine r_astore (pc := 60) cx dX5_unevenInk_60 (by decide) rfl ?_
      refine r_aload (pc := 62) cx dX5_unevenInk_62 rfl ?_
      refine r_aload_n (pc := 64) cx dX5_unevenInk_64 rfl ?_
      refine r_get (pc := 65) cx hcl_X5 qc_X5 (lw0 hB) (j := 0) (by decide) wf_X5_10 dX5_unevenInk_65 (x := .ref (ad 1)) rfl ?_
      refine r_getN (pc := 68) cx hcl_X3 qc_X3 (lw1 hB) (j := 3) (by decide) wg_X5_89 dX5_unevenInk_68 (x := .ref (ad 5)) rfl ?_
      refine r_pSi (pc := 71) cx (tX5_bitsWithin (lw5 hB) hW  σ5) qm_X5_bitsWithin qs_X5_bitsWithin wm_X5_270 dX5_unevenInk_71 rfl rfl (Nat.le_of_ble_eq_true rfl) ⟨Nat.le_of_ble_eq_true rfl, Nat.le_of_ble_eq_true rfl⟩ ⟨rfl, rfl⟩ ⟨by show kc + 1 ≤ 24; omega, by show 4 * (kc + 1) ≤ 96; omega⟩ (fun r71 => ?_)
      refine r_i2l (pc := 74) cx dX5_unevenInk_74 ?_
      refine r_nml (fun y6 => ?_)
      refine r_lstore (pc := 75) cx dX5_unevenInk_75 (by decide) rfl ?_
      refine r_aload (pc := 77) cx dX5_unevenInk_77 rfl ?_
      refine r_aload_n (pc := 79) cx dX5_unevenInk_79 rfl ?_
      refine r_get (pc := 80) cx hcl_X5 qc_X5 (lw0 hB) (j := 0) (by decide) wf_X5_10 dX5_unevenInk_80 (x := .ref (ad 1)) rfl ?_
      refine r_getN (pc := 83) cx hcl_X3 qc_X3 (lw1 hB) (j := 2) (by decide) wg_X5_78 dX5_unevenInk_83 (x := .ref (ad 4)) rfl ?_
      refine r_pSi (pc := 86) cx (tX5_bitsWithin (lw4 hB) hW  σ5) qm_X5_bitsWithin qs_X5_bitsWithin wm_X5_270 dX5_unevenInk_86 rfl rfl (Nat.le_of_ble_eq_true rfl) ⟨Nat.le_of_ble_eq_true rfl, Nat.le_of_ble_eq_true rfl⟩ ⟨rfl, rfl⟩ ⟨by show kc + 1 ≤ 24; omega, by show 4 * (kc + 1) ≤ 96; omega⟩ (fun r86 => ?_)
      refine r_i2l (pc := 89) cx dX5_unevenInk_89 ?_
      refine r_nml (fun y7 => ?_)
      refine r_lstore (pc := 90) cx dX5_unevenInk_90 (by decide) rfl ?_
      refine r_lload (pc := 92) cx dX5_unevenInk_92 rfl ?_
      refine r_lload (pc := 94) cx dX5_unevenInk_94 rfl ?_
      refine r_lload_n (pc := 96) cx dX5_unevenInk_96 rfl ?_
      refine r_lmul (pc := 97) cx dX5_unevenInk_97 ?_
      refine r_lload_n (pc := 98) cx dX5_unevenInk_98 rfl ?_
      refine r_lload (pc := 99) cx dX5_unevenInk_99 rfl ?_
      refine r_lmul (pc := 101) cx dX5_unevenInk_101 ?_
      refine r_lsub (pc := 102) cx dX5_unevenInk_102 ?_
      refine r_pSj (pc := 103) cx (tJ9_abs_067f4  ((y6 * x1) - (x3 * y7)) σ5) qm_J9_abs_067f4 qs_J9_abs_067f4 wm_X5_274 dX5_unevenInk_103 rfl rfl (Nat.le_of_ble_eq_true rfl) ⟨Nat.le_of_ble_eq_true rfl, Nat.le_of_ble_eq_true rfl⟩ ⟨rfl, rfl⟩ ⟨by show kc + 1 ≤ 24; omega, by show 4 * (kc + 1) ≤ 96; omega⟩ (fun r103 => ?_)
      refine r_ladd (pc := 106) cx dX5_unevenInk_106 ?_
      refine r_nml (fun y8 => ?_)
      refine r_lstore (pc := 107) cx dX5_unevenInk_107 (by decide) rfl ?_
      refine r_iinc (pc := 109) cx dX5_unevenInk_109 rfl (by decide) rfl ?_
      refine r_goto (pc := 112) (tgt := 40) cx dX5_unevenInk_112 (by decide) ?_
      exact qS.sub (qsub_cons rfl (qsub_cons rfl (qsub_cons rfl (qsub_cons rfl (qsub_cons rfl (qsub_cons rfl (qsub_nil _))))))) (ih _ hB hsub _ _ _ _ _ _ _)
def fX5_unevenInk_c30 : Nat → Nat → Int → Int → Int → Int → qSt → Option (Int × qSt)
  | 0, _, _, _, _, _, _ => none
  | f + 1, kc, x1, x3, x5, x7, σ => (if qI 8 ≤ qI x7 then (if kc ≤ 24 then (some (x5, σ)) else none) else (fX5_unevenInk_c40 (fX5_unevenInk_c30 f) qFU kc x1 x3 x5 x7 0 σ))
set_option maxRecDepth 100000 in
set_option maxHeartbeats 4000000 in
theorem tX5_unevenInk_c30 {p : Program} {l : Launch} {e : Env} {s : State} {m : MethodId} {args : Array Value} {below : List Frame} {meth : Method} {c : Code} {z0 : Nat} {g : qG} {w0 : qWd} {ad : Nat → Nat} (cx : qCx p s m meth c cX5_unevenInk 14 RX5 (some .long) g z0) (h66 : w0 66 = none) : ∀ (f : Nat) (w : qWd) (hB : qBC g ad w) (hsub : ∀ j x, w0 j = some x → w j = some x) (kc : Nat) (x1 : Int) (x3 : Int) (x5 : Int) (x7 : Int) (σ : qSt), qS p l e (qrk 3 24 96) s m args below meth c 14 g z0 w kc (4 * kc) (qQ below g z0 w0 qrj args s 24 96) (fX5_unevenInk_c30 f kc x1 x3 x5 x7 σ) σ 30 [(0, some (.ref (ad 0))), (1, some (.long (qJ x1))), (3, some (.long (qJ x3))), (5, some (.long (qJ x5))), (7, some (.int (qI x7)))] [] := by
  intro f
  induction f with
  | zero => exact fun _ _ _ _ _ _ _ _ _ => qS.fail
  | succ f ih =>
    intro w hB hsub kc x1 x3 x5 x7 σ
    unfold fX5_unevenInk_c30
    refine r_iload (pc := 30) cx dX5_unevenInk_30 rfl ?_
    refine r_bipush (pc := 32) (v := 8) cx dX5_unevenInk_32 (by decide +kernel) ?_
    refine r_icmp_ge (tgt := 121) cx dX5_unevenInk_34 (by decide) ?_ ?_
    · refine r_lload (pc := 121) cx dX5_unevenInk_121 rfl ?_
      refine qS.ite (fun hkr => ?_) (fun _ => qS.fail)
      exact r_lreturn (w0 := w0) (mc := 24) (ms := 96) hsub hkr (by omega) cx dX5_unevenInk_123 rfl
    · refine r_iconst (pc := 37) cx dX5_unevenInk_37 ?_
      refine r_istore (pc := 38) cx dX5_unevenInk_38 (by decide) rfl ?_
      exact qS.sub (qsub_cons rfl (qsub_cons rfl (qsub_cons rfl (qsub_cons rfl (qsub_cons rfl (qsub_cons rfl (qsub_nil _))))))) (tX5_unevenInk_c40 cx h66 ih _ _ hB hsub _ _ _ _ _ _ _)
def fX5_unevenInk (σ : qSt) : Option (Int × qSt) :=
  ((fX5_bitsOf 4 σ).bind fun (r7 : Int) => (qb (qi2l r7) fun (y1 : Int) => ((fX5_bitsOf 5 σ).bind fun (r19 : Int) => (qb (qi2l r19) fun (y2 : Int) => (fX5_unevenInk_c30 qFU 0 y1 y2 0 0 σ)))))
set_option maxRecDepth 100000 in
set_option maxHeartbeats 4000000 in
theorem tX5_unevenInk {l : Launch} {z0 : Nat} {g : qG} {w : qWd} {ad : Nat → Nat} (hB : qBC g ad w) (h66 : w 66 = none) (h67 : w 67 = none) (h68 : w 68 = none) (σ : qSt) : qCT l yX5_unevenInk cX5_unevenInk 14 (some .long) (qrk 3 24 96) g z0 w [.ref (ad 0)] σ (fX5_unevenInk σ) qrj := by
  refine qCT.of [(0, some (.ref (ad 0)))] (by decide +kernel) (Nat.le_of_ble_eq_true rfl) rfl ?_
  intro p e s m args below meth c cx
  have hsub : ∀ j x, w j = some x → w j = some x := fun _ _ h => h
  unfold fX5_unevenInk
  refine r_aload_n (pc := 0) cx dX5_unevenInk_0 rfl ?_
  refine r_get (pc := 1) cx hcl_X5 qc_X5 (lw0 hB) (j := 0) (by decide) wf_X5_10 dX5_unevenInk_1 (x := .ref (ad 1)) rfl ?_
  refine r_getN (pc := 4) cx hcl_X3 qc_X3 (lw1 hB) (j := 2) (by decide) wg_X5_78 dX5_unevenInk_4 (x := .ref (ad 4)) rfl ?_
  refine r_pSi (pc := 7) cx (tX5_bitsOf (lw4 hB)  σ) qm_X5_bitsOf qs_X5_bitsOf wm_X5_148 dX5_unevenInk_7 rfl rfl (Nat.le_of_ble_eq_true rfl) ⟨Nat.le_of_ble_eq_true rfl, Nat.le_of_ble_eq_true rfl⟩ ⟨rfl, rfl⟩ ⟨Nat.le_of_ble_eq_true rfl, Nat.le_of_ble_eq_true rfl⟩ (fun r7 => ?_)
  refine r_i2l (pc := 10) cx dX5_unevenInk_10 ?_
  refine r_nml (fun y1 => ?_)
  refine r_lstore_n (pc := 11) cx dX5_unevenInk_11 (by decide) rfl ?_
  refine r_aload_n (pc := 12) cx dX5_unevenInk_12 rfl ?_
  refine r_get (pc := 13) cx hcl_X5 qc_X5 (lw0 hB) (j := 0) (by decide) wf_X5_10 dX5_unevenInk_13 (x := .ref (ad 1)) rfl ?_
  refine r_getN (pc := 16) cx hcl_X3 qc_X3 (lw1 hB) (j := 3) (by decide) wg_X5_89 dX5_unevenInk_16 (x := .ref (ad 5)) rfl ?_
  refine r_pSi (pc := 19) cx (tX5_bitsOf (lw5 hB)  σ) qm_X5_bitsOf qs_X5_bitsOf wm_X5_148 dX5_unevenInk_19 rfl rfl (Nat.le_of_ble_eq_true rfl) ⟨Nat.le_of_ble_eq_true rfl, Nat.le_of_ble_eq_true rfl⟩ ⟨rfl, rfl⟩ ⟨Nat.le_of_ble_eq_true rfl, Nat.le_of_ble_eq_true rfl⟩ (fun r19 => ?_)
  refine r_i2l (pc := 22) cx dX5_unevenInk_22 ?_
  refine r_nml (fun y2 => ?_)
  refine r_lstore_n (pc := 23) cx dX5_unevenInk_23 (by decide) rfl ?_
  refine r_lconst (pc := 24) (z := 0) cx dX5_unevenInk_24 (by decide +kernel) ?_
  refine r_lstore (pc := 25) cx dX5_unevenInk_25 (by decide) rfl ?_
  refine r_iconst (pc := 27) cx dX5_unevenInk_27 ?_
  refine r_istore (pc := 28) cx dX5_unevenInk_28 (by decide) rfl ?_
  exact qS.sub (qsub_cons rfl (qsub_cons rfl (qsub_cons rfl (qsub_cons rfl (qsub_cons rfl (qsub_nil _)))))) (tX5_unevenInk_c30 cx h66 _ _ hB hsub _ _ _ _ _ _)
def fX5_mixed (p0 : Int) (σ : qSt) : Option (Int × Int × qSt) :=
  (if qI p0 = qI 0 then ((fX5_edgesOfInk σ).bind fun (r29 : Int) => (some (0, (qi2l r29), σ))) else (if qI p0 = qI 1 then (qbd (fX5_unevenInk σ) fun (r35 : Int) (σ1 : qSt) => (some (0, r35, σ1))) else (some (2, 0, σ))))
set_option maxRecDepth 100000 in
set_option maxHeartbeats 4000000 in
theorem tX5_mixed {l : Launch} {z0 : Nat} {g : qG} {w : qWd} {ad : Nat → Nat} (hB : qBC g ad w) (h66 : w 66 = none) (h67 : w 67 = none) (h68 : w 68 = none) (hl : l.stackTraces = false) (p0 : Int) (σ : qSt) : qXT l yX5_mixed cX5_mixed 2 (some .long) (qrk 4 24 96) g z0 w [.ref (ad 0), .int (qI p0)] σ (fX5_mixed p0 σ) qrj := by
  refine qXT.of [(0, some (.ref (ad 0))), (1, some (.int (qI p0)))] (by decide +kernel) (Nat.le_of_ble_eq_true rfl) rfl ?_
  intro p e s m args below meth c cx htab
  have hsub : ∀ j x, w j = some x → w j = some x := fun _ _ h => h
  unfold fX5_mixed
  refine r_iload_n (pc := 0) cx dX5_mixed_0 rfl ?_
  refine qS.ite (fun hs0 => ?_) (fun hs0 => ?_)
  · refine r_lsw (off := 27) (tgt := 28) cx dX5_mixed_1 (by decide +kernel) (by first | (rw [hs0]; done) | (rw [hs0]; decide +kernel)) (by decide) ?_
    refine r_aload_n (pc := 28) cx dX5_mixed_28 rfl ?_
    refine r_pVi (pc := 29) cx (tX5_edgesOfInk hB  σ) qm_X5_edgesOfInk qv_X5_edgesOfInk hcl_X5 (lw0 hB) wm_X5_211 dX5_mixed_29 rfl rfl (Nat.le_of_ble_eq_true rfl) ⟨Nat.le_of_ble_eq_true rfl, Nat.le_of_ble_eq_true rfl⟩ ⟨rfl, rfl⟩ ⟨Nat.le_of_ble_eq_true rfl, Nat.le_of_ble_eq_true rfl⟩ (fun r29 => ?_)
    refine r_i2l (pc := 32) cx dX5_mixed_32 ?_
    exact r_xlreturn (w0 := w) (mc := 24) (ms := 96) hsub (Nat.le_of_ble_eq_true rfl) (Nat.le_of_ble_eq_true rfl) cx dX5_mixed_33 rfl
  refine qS.ite (fun hs1 => ?_) (fun hs1 => ?_)
  · refine r_lsw (off := 33) (tgt := 34) cx dX5_mixed_1 (by decide +kernel) (by first | (rw [hs1]; done) | (rw [hs1]; decide +kernel)) (by decide) ?_
    refine r_aload_n (pc := 34) cx dX5_mixed_34 rfl ?_
    refine r_eVj (pc := 35) cx (tX5_unevenInk hB h66 h67 h68  σ) qm_X5_unevenInk qv_X5_unevenInk hcl_X5 (lw0 hB) wm_X5_215 dX5_mixed_35 rfl rfl (Nat.le_of_ble_eq_true rfl) ⟨Nat.le_of_ble_eq_true rfl, Nat.le_of_ble_eq_true rfl⟩ ⟨Nat.le_of_ble_eq_true rfl, Nat.le_of_ble_eq_true rfl⟩ (fun r35 σ1 => ?_)
    exact r_xlreturn (w0 := w) (mc := 24) (ms := 96) hsub (Nat.le_of_ble_eq_true rfl) (Nat.le_of_ble_eq_true rfl) cx dX5_mixed_38 rfl
  refine r_lsw (off := 38) (tgt := 39) cx dX5_mixed_1 (by decide +kernel) (by show Op.lookupswitch.offset [(0, 27), (1, 33)] _ _ = _; first | (rw [lv_osw hs0 (by decide +kernel)]; rw [lv_osw hs1 (by decide +kernel)]; done) | (rw [lv_osw hs0 (by decide +kernel)]; rw [lv_osw hs1 (by decide +kernel)]; rfl)) (by decide) ?_
  exact r_throw (w0 := w) (mc := 24) (ms := 96) (rk := qrj) cx hl htab qt_qE2_71_73 (by rfl) (fun _ _ h => h) (Nat.le_of_ble_eq_true rfl) (Nat.le_of_ble_eq_true rfl) (Nat.le_of_ble_eq_true rfl) (Nat.le_of_ble_eq_true rfl) (Nat.le_of_ble_eq_true rfl) (Nat.le_of_ble_eq_true rfl) dX5_mixed_39 dX5_mixed_42 dX5_mixed_43 dX5_mixed_46 rfl
