def fX5_mayBeWall (σ : qSt) (p0 : Int) : Option Int :=
  (if 0 ≤ p0 ∧ p0 < 96 then (if qI (σ 2 p0) = 0 then (if 0 ≤ p0 ∧ p0 < 96 then (if qI (σ 4 p0) = 0 then ((fX0_areAt σ p0).bind fun (r29 : Int) => (if qI r29 = 0 then ((fX1_areAt σ p0).bind fun (r40 : Int) => (if qI r40 = 0 then (some 1) else (some 0))) else (some 0))) else (some 0)) else none) else (some 0)) else none)
set_option maxRecDepth 100000 in
set_option maxHeartbeats 4000000 in
theorem tX5_mayBeWall {l : Launch} {z0 : Nat} {g : qG} {w : qWd} {ad : Nat → Nat} (hB : qBC g ad w) (p0 : Int) (σ : qSt) : qCT l yX5_mayBeWall cX5_mayBeWall 2 (some .boolean) qrm1 g z0 w [.ref (ad 0), .int (qI p0)] σ (qlift (fX5_mayBeWall σ p0) σ) qri := by
  refine qCTp.of [(0, some (.ref (ad 0))), (1, some (.int (qI p0)))] (by decide +kernel) (Nat.le_of_ble_eq_true rfl) rfl ?_
  intro p e s m args below meth c cx
  unfold fX5_mayBeWall
  refine r_aload_n (pc := 0) cx dX5_mayBeWall_0 rfl ?_
  refine r_get (pc := 1) cx hcl_X5 qc_X5 (lw0 hB) (j := 0) (by decide) wf_X5_10 dX5_mayBeWall_1 (x := .ref (ad 1)) rfl ?_
  refine r_getN (pc := 4) cx hcl_X3 qc_X3 (lw1 hB) (j := 0) (by decide) wg_X5_57 dX5_mayBeWall_4 (x := .ref (ad 2)) rfl ?_
  refine r_iload_n (pc := 7) cx dX5_mayBeWall_7 rfl ?_
  refine r_iaload (pc := 8) cx (lw2 hB) rfl (by decide) dX5_mayBeWall_8 ?_
  refine r_if_ne (tgt := 50) cx dX5_mayBeWall_9 (by decide) ?_ ?_
  · refine r_iconst (pc := 50) cx dX5_mayBeWall_50 ?_
    exact r_zreturn (w0 := w) (fun _ _ h => h) (Nat.zero_le _) (Nat.zero_le _) cx (by decide +kernel) dX5_mayBeWall_51 rfl
  · refine r_aload_n (pc := 12) cx dX5_mayBeWall_12 rfl ?_
    refine r_get (pc := 13) cx hcl_X5 qc_X5 (lw0 hB) (j := 0) (by decide) wf_X5_10 dX5_mayBeWall_13 (x := .ref (ad 1)) rfl ?_
    refine r_getN (pc := 16) cx hcl_X3 qc_X3 (lw1 hB) (j := 2) (by decide) wg_X5_78 dX5_mayBeWall_16 (x := .ref (ad 4)) rfl ?_
    refine r_iload_n (pc := 19) cx dX5_mayBeWall_19 rfl ?_
    refine r_iaload (pc := 20) cx (lw4 hB) rfl (by decide) dX5_mayBeWall_20 ?_
    refine r_if_ne (tgt := 50) cx dX5_mayBeWall_21 (by decide) ?_ ?_
    · refine r_iconst (pc := 50) cx dX5_mayBeWall_50 ?_
      exact r_zreturn (w0 := w) (fun _ _ h => h) (Nat.zero_le _) (Nat.zero_le _) cx (by decide +kernel) dX5_mayBeWall_51 rfl
    · refine r_aload_n (pc := 24) cx dX5_mayBeWall_24 rfl ?_
      refine r_get (pc := 25) cx hcl_X5 qc_X5 (lw0 hB) (j := 2) (by decide) wf_X5_22 dX5_mayBeWall_25 (x := .ref (ad 27)) rfl ?_
      refine r_iload_n (pc := 28) cx dX5_mayBeWall_28 rfl ?_
      refine r_pVNi (pc := 29) cx (tX0_areAt hB p0 σ) qm_X0_areAt qv_X0_areAt hcl_X0 (lw27 hB) wn_X5_232 dX5_mayBeWall_29 rfl rfl (Nat.le_of_ble_eq_true rfl) ⟨Nat.le_of_ble_eq_true rfl, Nat.le_of_ble_eq_true rfl⟩ ⟨rfl, rfl⟩ ⟨Nat.zero_le _, Nat.zero_le _⟩ (fun r29 => ?_)
      refine r_if_ne (tgt := 50) cx dX5_mayBeWall_32 (by decide) ?_ ?_
      · refine r_iconst (pc := 50) cx dX5_mayBeWall_50 ?_
        exact r_zreturn (w0 := w) (fun _ _ h => h) (Nat.zero_le _) (Nat.zero_le _) cx (by decide +kernel) dX5_mayBeWall_51 rfl
      · refine r_aload_n (pc := 35) cx dX5_mayBeWall_35 rfl ?_
        refine r_get (pc := 36) cx hcl_X5 qc_X5 (lw0 hB) (j := 3) (by decide) wf_X5_29 dX5_mayBeWall_36 (x := .ref (ad 38)) rfl ?_
        refine r_iload_n (pc := 39) cx dX5_mayBeWall_39 rfl ?_
        refine r_pVNi (pc := 40) cx (tX1_areAt hB p0 σ) qm_X1_areAt qv_X1_areAt hcl_X1 (lw38 hB) wn_X5_235 dX5_mayBeWall_40 rfl rfl (Nat.le_of_ble_eq_true rfl) ⟨Nat.le_of_ble_eq_true rfl, Nat.le_of_ble_eq_true rfl⟩ ⟨rfl, rfl⟩ ⟨Nat.zero_le _, Nat.zero_le _⟩ (fun r40 => ?_)
        refine r_if_ne (tgt := 50) cx dX5_mayBeWall_43 (by decide) ?_ ?_
        · refine r_iconst (pc := 50) cx dX5_mayBeWall_50 ?_
          exact r_zreturn (w0 := w) (fun _ _ h => h) (Nat.zero_le _) (Nat.zero_le _) cx (by decide +kernel) dX5_mayBeWall_51 rfl
        · refine r_iconst (pc := 46) cx dX5_mayBeWall_46 ?_
          refine r_goto (pc := 47) (tgt := 51) cx dX5_mayBeWall_47 (by decide) ?_
          exact r_zreturn (w0 := w) (fun _ _ h => h) (Nat.zero_le _) (Nat.zero_le _) cx (by decide +kernel) dX5_mayBeWall_51 rfl
def fX5_wall_c61 (x1 : Int) (x2 : Int) (σ : qSt) : Option (Int × Int × qSt) :=
  (if 0 ≤ x1 ∧ x1 < 96 then (qb (qset σ 2 x1 1) fun (σ1 : qSt) => (if 0 ≤ x1 ∧ x1 < 96 then (qb (qset σ1 3 x1 x2) fun (σ2 : qSt) => (qb (qset σ2 0 6 0) fun (σ3 : qSt) => (some (0, 0, σ3)))) else none)) else none)
set_option maxRecDepth 100000 in
set_option maxHeartbeats 4000000 in
theorem tX5_wall_c61 {p : Program} {l : Launch} {e : Env} {s : State} {m : MethodId} {args : Array Value} {below : List Frame} {meth : Method} {c : Code} {z0 : Nat} {g : qG} {w : qWd} {ad : Nat → Nat} (cx : qCx p s m meth c cX5_wall 3 RX5 none g z0) (hB : qBC g ad w) (hl : l.stackTraces = false) (htab : ∀ x, x ∈ c.exceptionTable.toList → False) (x1 : Int) (x2 : Int) (σ : qSt) : qS p l e qrx2 s m args below meth c 3 g z0 w 0 0 (qXQ below g z0 w qrv args s 1 6) (fX5_wall_c61 x1 x2 σ) σ 61 [(0, some (.ref (ad 0))), (1, some (.int (qI x1))), (2, some (.int (qI x2)))] [] := by
  unfold fX5_wall_c61
  refine r_aload_n (pc := 61) cx dX5_wall_61 rfl ?_
  refine r_get (pc := 62) cx hcl_X5 qc_X5 (lw0 hB) (j := 0) (by decide) wf_X5_10 dX5_wall_62 (x := .ref (ad 1)) rfl ?_
  refine r_getN (pc := 65) cx hcl_X3 qc_X3 (lw1 hB) (j := 0) (by decide) wg_X5_57 dX5_wall_65 (x := .ref (ad 2)) rfl ?_
  refine r_iload_n (pc := 68) cx dX5_wall_68 rfl ?_
  refine r_iconst (pc := 69) cx dX5_wall_69 ?_
  refine r_iastore (pc := 70) cx (lw2 hB) rfl (by decide) dX5_wall_70 (fun σ1 => ?_)
  refine r_aload_n (pc := 71) cx dX5_wall_71 rfl ?_
  refine r_get (pc := 72) cx hcl_X5 qc_X5 (lw0 hB) (j := 0) (by decide) wf_X5_10 dX5_wall_72 (x := .ref (ad 1)) rfl ?_
  refine r_getN (pc := 75) cx hcl_X3 qc_X3 (lw1 hB) (j := 1) (by decide) wg_X5_60 dX5_wall_75 (x := .ref (ad 3)) rfl ?_
  refine r_iload_n (pc := 78) cx dX5_wall_78 rfl ?_
  refine r_iload_n (pc := 79) cx dX5_wall_79 rfl ?_
  refine r_iastore (pc := 80) cx (lw3 hB) rfl (by decide) dX5_wall_80 (fun σ2 => ?_)
  refine r_aload_n (pc := 81) cx dX5_wall_81 rfl ?_
  refine r_iconst (pc := 82) cx dX5_wall_82 ?_
  refine r_puti (pc := 83) (J := 6) cx hcl_X5 qc_X5 (lw0 hB) (j := 6) (by decide) tyX5_ok nmX5 wf_X5_63 rfl (by decide +kernel) rfl (Nat.le_of_ble_eq_true rfl) (fun r => rfl) dX5_wall_83 (fun σ3 => ?_)
  exact r_xreturn (w0 := w) (fun _ _ h => h) (Nat.zero_le _) (Nat.zero_le _) cx dX5_wall_86 rfl
def fX5_wall_c27 (x1 : Int) (x2 : Int) (σ : qSt) : Option (Int × Int × qSt) :=
  ((fX5_mayBeWall σ x1).bind fun (r29 : Int) => (if qI r29 = 0 then (some (3, 0, σ)) else (if qI x2 = qI (-1) then (fX5_wall_c61 x1 x2 σ) else ((fX3_cellsOfBody 1 σ x2).bind fun (r45 : Int) => (if qI r45 < qI 12 then (fX5_wall_c61 x1 x2 σ) else (some (3, 0, σ)))))))
set_option maxRecDepth 100000 in
set_option maxHeartbeats 4000000 in
theorem tX5_wall_c27 {p : Program} {l : Launch} {e : Env} {s : State} {m : MethodId} {args : Array Value} {below : List Frame} {meth : Method} {c : Code} {z0 : Nat} {g : qG} {w : qWd} {ad : Nat → Nat} (cx : qCx p s m meth c cX5_wall 3 RX5 none g z0) (hB : qBC g ad w) (hl : l.stackTraces = false) (htab : ∀ x, x ∈ c.exceptionTable.toList → False) (x1 : Int) (x2 : Int) (σ : qSt) : qS p l e qrx2 s m args below meth c 3 g z0 w 0 0 (qXQ below g z0 w qrv args s 1 6) (fX5_wall_c27 x1 x2 σ) σ 27 [(0, some (.ref (ad 0))), (1, some (.int (qI x1))), (2, some (.int (qI x2)))] [] := by
  unfold fX5_wall_c27
  refine r_aload_n (pc := 27) cx dX5_wall_27 rfl ?_
  refine r_iload_n (pc := 28) cx dX5_wall_28 rfl ?_
  refine r_pVi (pc := 29) cx (tX5_mayBeWall hB x1 σ) qm_X5_mayBeWall qv_X5_mayBeWall hcl_X5 (lw0 hB) wm_X5_47 dX5_wall_29 rfl rfl (Nat.le_of_ble_eq_true rfl) ⟨Nat.le_of_ble_eq_true rfl, Nat.le_of_ble_eq_true rfl⟩ ⟨rfl, rfl⟩ ⟨Nat.zero_le _, Nat.zero_le _⟩ (fun r29 => ?_)
  refine r_if_eq (tgt := 53) cx dX5_wall_32 (by decide) ?_ ?_
  · exact r_throw (w0 := w) (mc := 1) (ms := 6) (rk := qrv) cx hl htab qt_qE3_54_56 (by rfl) (fun _ _ h => h) (Nat.le_of_ble_eq_true rfl) (Nat.le_of_ble_eq_true rfl) (Nat.le_of_ble_eq_true rfl) (Nat.le_of_ble_eq_true rfl) (Nat.le_of_ble_eq_true rfl) (Nat.le_of_ble_eq_true rfl) dX5_wall_53 dX5_wall_56 dX5_wall_57 dX5_wall_60 rfl
  · refine r_iload_n (pc := 35) cx dX5_wall_35 rfl ?_
    refine r_iconst (pc := 36) cx dX5_wall_36 ?_
    refine r_icmp_eq (tgt := 61) cx dX5_wall_37 (by decide) ?_ ?_
    · exact qS.sub (qsub_cons rfl (qsub_cons rfl (qsub_cons rfl (qsub_nil _)))) (tX5_wall_c61 cx hB hl htab _ _ _)
    · refine r_aload_n (pc := 40) cx dX5_wall_40 rfl ?_
      refine r_get (pc := 41) cx hcl_X5 qc_X5 (lw0 hB) (j := 0) (by decide) wf_X5_10 dX5_wall_41 (x := .ref (ad 1)) rfl ?_
      refine r_iload_n (pc := 44) cx dX5_wall_44 rfl ?_
      refine r_pVNi (pc := 45) cx (tX3_cellsOfBody hB (Or.inl rfl) x2 σ) qm_X3_cellsOfBody qv_X3_cellsOfBody hcl_X3 (lw1 hB) wn_X5_50 dX5_wall_45 rfl rfl (Nat.le_of_ble_eq_true rfl) ⟨Nat.le_of_ble_eq_true rfl, Nat.le_of_ble_eq_true rfl⟩ ⟨rfl, rfl⟩ ⟨Nat.zero_le _, Nat.zero_le _⟩ (fun r45 => ?_)
      refine r_bipush (pc := 48) (v := 12) cx dX5_wall_48 (by decide +kernel) ?_
      refine r_icmp_lt (tgt := 61) cx dX5_wall_50 (by decide) ?_ ?_
      · exact qS.sub (qsub_cons rfl (qsub_cons rfl (qsub_cons rfl (qsub_nil _)))) (tX5_wall_c61 cx hB hl htab _ _ _)
      · exact r_throw (w0 := w) (mc := 1) (ms := 6) (rk := qrv) cx hl htab qt_qE3_54_56 (by rfl) (fun _ _ h => h) (Nat.le_of_ble_eq_true rfl) (Nat.le_of_ble_eq_true rfl) (Nat.le_of_ble_eq_true rfl) (Nat.le_of_ble_eq_true rfl) (Nat.le_of_ble_eq_true rfl) (Nat.le_of_ble_eq_true rfl) dX5_wall_53 dX5_wall_56 dX5_wall_57 dX5_wall_60 rfl
def fX5_wall (p0 : Int) (p1 : Int) (σ : qSt) : Option (Int × Int × qSt) :=
  ((fX5_isNoCell σ p0).bind fun (r1 : Int) => (if qI r1 = 0 then (if qI p1 = qI (-1) then (fX5_wall_c27 p0 p1 σ) else ((fX5_isNoBody σ p1).bind fun (r13 : Int) => (if qI r13 = 0 then (fX5_wall_c27 p0 p1 σ) else (some (1, 0, σ))))) else (some (1, 0, σ))))
set_option maxRecDepth 100000 in
set_option maxHeartbeats 4000000 in
theorem tX5_wall {l : Launch} {z0 : Nat} {g : qG} {w : qWd} {ad : Nat → Nat} (hB : qBC g ad w) (hl : l.stackTraces = false) (p0 : Int) (p1 : Int) (σ : qSt) : qXT l yX5_wall cX5_wall 3 none qrx2 g z0 w [.ref (ad 0), .int (qI p0), .int (qI p1)] σ (fX5_wall p0 p1 σ) qrv := by
  refine qXT.of [(0, some (.ref (ad 0))), (1, some (.int (qI p0))), (2, some (.int (qI p1)))] (by decide +kernel) (Nat.le_of_ble_eq_true rfl) rfl ?_
  intro p e s m args below meth c cx htab
  unfold fX5_wall
  refine r_iload_n (pc := 0) cx dX5_wall_0 rfl ?_
  refine r_pSi (pc := 1) cx (tX5_isNoCell  p0 σ) qm_X5_isNoCell qs_X5_isNoCell wm_X5_37 dX5_wall_1 rfl rfl (Nat.le_of_ble_eq_true rfl) ⟨Nat.le_of_ble_eq_true rfl, Nat.le_of_ble_eq_true rfl⟩ ⟨rfl, rfl⟩ ⟨Nat.zero_le _, Nat.zero_le _⟩ (fun r1 => ?_)
  refine r_if_ne (tgt := 19) cx dX5_wall_4 (by decide) ?_ ?_
  · exact r_throw (w0 := w) (mc := 1) (ms := 6) (rk := qrv) cx hl htab qt_qE1_44_46 (by rfl) (fun _ _ h => h) (Nat.le_of_ble_eq_true rfl) (Nat.le_of_ble_eq_true rfl) (Nat.le_of_ble_eq_true rfl) (Nat.le_of_ble_eq_true rfl) (Nat.le_of_ble_eq_true rfl) (Nat.le_of_ble_eq_true rfl) dX5_wall_19 dX5_wall_22 dX5_wall_23 dX5_wall_26 rfl
  · refine r_iload_n (pc := 7) cx dX5_wall_7 rfl ?_
    refine r_iconst (pc := 8) cx dX5_wall_8 ?_
    refine r_icmp_eq (tgt := 27) cx dX5_wall_9 (by decide) ?_ ?_
    · exact qS.sub (qsub_cons rfl (qsub_cons rfl (qsub_cons rfl (qsub_nil _)))) (tX5_wall_c27 cx hB hl htab _ _ _)
    · refine r_iload_n (pc := 12) cx dX5_wall_12 rfl ?_
      refine r_pSi (pc := 13) cx (tX5_isNoBody  p1 σ) qm_X5_isNoBody qs_X5_isNoBody wm_X5_41 dX5_wall_13 rfl rfl (Nat.le_of_ble_eq_true rfl) ⟨Nat.le_of_ble_eq_true rfl, Nat.le_of_ble_eq_true rfl⟩ ⟨rfl, rfl⟩ ⟨Nat.zero_le _, Nat.zero_le _⟩ (fun r13 => ?_)
      refine r_if_eq (tgt := 27) cx dX5_wall_16 (by decide) ?_ ?_
      · exact qS.sub (qsub_cons rfl (qsub_cons rfl (qsub_cons rfl (qsub_nil _)))) (tX5_wall_c27 cx hB hl htab _ _ _)
      · exact r_throw (w0 := w) (mc := 1) (ms := 6) (rk := qrv) cx hl htab qt_qE1_44_46 (by rfl) (fun _ _ h => h) (Nat.le_of_ble_eq_true rfl) (Nat.le_of_ble_eq_true rfl) (Nat.le_of_ble_eq_true rfl) (Nat.le_of_ble_eq_true rfl) (Nat.le_of_ble_eq_true rfl) (Nat.le_of_ble_eq_true rfl) dX5_wall_19 dX5_wall_22 dX5_wall_23 dX5_wall_26 rfl
def fX5_clear (p0 : Int) (σ : qSt) : Option (Int × Int × qSt) :=
  ((fX5_isNoCell σ p0).bind fun (r1 : Int) => (if qI r1 = 0 then (if 0 ≤ p0 ∧ p0 < 96 then (qb (σ 2 p0) fun (y1 : Int) => (qbd (fX3_makeFree 1 p0 σ) fun (r30 : Int) (σ2 : qSt) => (qb (qset σ2 0 6 0) fun (σ3 : qSt) => (some (0, y1, σ3))))) else none) else (some (1, 0, σ))))
set_option maxRecDepth 100000 in
set_option maxHeartbeats 4000000 in
theorem tX5_clear {l : Launch} {z0 : Nat} {g : qG} {w : qWd} {ad : Nat → Nat} (hB : qBC g ad w) (hl : l.stackTraces = false) (p0 : Int) (σ : qSt) : qXT l yX5_clear cX5_clear 3 (some .int) qrx1 g z0 w [.ref (ad 0), .int (qI p0)] σ (fX5_clear p0 σ) qri := by
  refine qXT.of [(0, some (.ref (ad 0))), (1, some (.int (qI p0)))] (by decide +kernel) (Nat.le_of_ble_eq_true rfl) rfl ?_
  intro p e s m args below meth c cx htab
  unfold fX5_clear
  refine r_iload_n (pc := 0) cx dX5_clear_0 rfl ?_
  refine r_pSi (pc := 1) cx (tX5_isNoCell  p0 σ) qm_X5_isNoCell qs_X5_isNoCell wm_X5_37 dX5_clear_1 rfl rfl (Nat.le_of_ble_eq_true rfl) ⟨Nat.le_of_ble_eq_true rfl, Nat.le_of_ble_eq_true rfl⟩ ⟨rfl, rfl⟩ ⟨Nat.zero_le _, Nat.zero_le _⟩ (fun r1 => ?_)
  refine r_if_eq (tgt := 15) cx dX5_clear_4 (by decide) ?_ ?_
  · refine r_aload_n (pc := 15) cx dX5_clear_15 rfl ?_
    refine r_get (pc := 16) cx hcl_X5 qc_X5 (lw0 hB) (j := 0) (by decide) wf_X5_10 dX5_clear_16 (x := .ref (ad 1)) rfl ?_
    refine r_getN (pc := 19) cx hcl_X3 qc_X3 (lw1 hB) (j := 0) (by decide) wg_X5_57 dX5_clear_19 (x := .ref (ad 2)) rfl ?_
    refine r_iload_n (pc := 22) cx dX5_clear_22 rfl ?_
    refine r_iaload (pc := 23) cx (lw2 hB) rfl (by decide) dX5_clear_23 ?_
    refine r_nmi (fun y1 => ?_)
    refine r_istore_n (pc := 24) cx dX5_clear_24 (by decide) rfl ?_
    refine r_aload_n (pc := 25) cx dX5_clear_25 rfl ?_
    refine r_get (pc := 26) cx hcl_X5 qc_X5 (lw0 hB) (j := 0) (by decide) wf_X5_10 dX5_clear_26 (x := .ref (ad 1)) rfl ?_
    refine r_iload_n (pc := 29) cx dX5_clear_29 rfl ?_
    refine r_dVNv (pc := 30) cx (tX3_makeFree hB (Or.inl rfl) p0 σ) qm_X3_makeFree qv_X3_makeFree hcl_X3 (lw1 hB) wn_X5_67 dX5_clear_30 rfl rfl (Nat.le_of_ble_eq_true rfl) ⟨Nat.le_of_ble_eq_true rfl, Nat.le_of_ble_eq_true rfl⟩ ⟨rfl, rfl⟩ ⟨Nat.zero_le _, Nat.zero_le _⟩ (fun r30 σ2 => ?_)
    refine r_aload_n (pc := 33) cx dX5_clear_33 rfl ?_
    refine r_iconst (pc := 34) cx dX5_clear_34 ?_
    refine r_puti (pc := 35) (J := 6) cx hcl_X5 qc_X5 (lw0 hB) (j := 6) (by decide) tyX5_ok nmX5 wf_X5_63 rfl (by decide +kernel) rfl (Nat.le_of_ble_eq_true rfl) (fun r => rfl) dX5_clear_35 (fun σ3 => ?_)
    refine r_iload_n (pc := 38) cx dX5_clear_38 rfl ?_
    exact r_xireturn (w0 := w) (fun _ _ h => h) (Nat.zero_le _) (Nat.zero_le _) cx dX5_clear_39 rfl
  · exact r_throw (w0 := w) (mc := 1) (ms := 6) (rk := qri) cx hl htab qt_qE1_44_46 (by rfl) (fun _ _ h => h) (Nat.le_of_ble_eq_true rfl) (Nat.le_of_ble_eq_true rfl) (Nat.le_of_ble_eq_true rfl) (Nat.le_of_ble_eq_true rfl) (Nat.le_of_ble_eq_true rfl) (Nat.le_of_ble_eq_true rfl) dX5_clear_7 dX5_clear_10 dX5_clear_11 dX5_clear_14 rfl
def fX5_open_c33 (x1 : Int) (x2 : Int) (σ : qSt) : Option (Int × Int × qSt) :=
  (if 0 ≤ x1 ∧ x1 < 96 then (if qI (σ 2 x1) = 0 then (if 0 ≤ x1 ∧ x1 < 96 then (qb (qset σ 2 x1 x2) fun (σ1 : qSt) => (qb (qset σ1 0 6 0) fun (σ2 : qSt) => (some (0, 0, σ2)))) else none) else (some (3, 0, σ))) else none)
set_option maxRecDepth 100000 in
set_option maxHeartbeats 4000000 in
theorem tX5_open_c33 {p : Program} {l : Launch} {e : Env} {s : State} {m : MethodId} {args : Array Value} {below : List Frame} {meth : Method} {c : Code} {z0 : Nat} {g : qG} {w : qWd} {ad : Nat → Nat} (cx : qCx p s m meth c cX5_open 3 RX5 none g z0) (hB : qBC g ad w) (hl : l.stackTraces = false) (htab : ∀ x, x ∈ c.exceptionTable.toList → False) (x1 : Int) (x2 : Int) (σ : qSt) : qS p l e qrx1 s m args below meth c 3 g z0 w 0 0 (qXQ below g z0 w qrv args s 1 6) (fX5_open_c33 x1 x2 σ) σ 33 [(0, some (.ref (ad 0))), (1, some (.int (qI x1))), (2, some (.int (qI x2)))] [] := by
  unfold fX5_open_c33
  refine r_aload_n (pc := 33) cx dX5_open_33 rfl ?_
  refine r_get (pc := 34) cx hcl_X5 qc_X5 (lw0 hB) (j := 0) (by decide) wf_X5_10 dX5_open_34 (x := .ref (ad 1)) rfl ?_
  refine r_getN (pc := 37) cx hcl_X3 qc_X3 (lw1 hB) (j := 0) (by decide) wg_X5_57 dX5_open_37 (x := .ref (ad 2)) rfl ?_
  refine r_iload_n (pc := 40) cx dX5_open_40 rfl ?_
  refine r_iaload (pc := 41) cx (lw2 hB) rfl (by decide) dX5_open_41 ?_
  refine r_if_eq (tgt := 53) cx dX5_open_42 (by decide) ?_ ?_
  · refine r_aload_n (pc := 53) cx dX5_open_53 rfl ?_
    refine r_get (pc := 54) cx hcl_X5 qc_X5 (lw0 hB) (j := 0) (by decide) wf_X5_10 dX5_open_54 (x := .ref (ad 1)) rfl ?_
    refine r_getN (pc := 57) cx hcl_X3 qc_X3 (lw1 hB) (j := 0) (by decide) wg_X5_57 dX5_open_57 (x := .ref (ad 2)) rfl ?_
    refine r_iload_n (pc := 60) cx dX5_open_60 rfl ?_
    refine r_iload_n (pc := 61) cx dX5_open_61 rfl ?_
    refine r_iastore (pc := 62) cx (lw2 hB) rfl (by decide) dX5_open_62 (fun σ1 => ?_)
    refine r_aload_n (pc := 63) cx dX5_open_63 rfl ?_
    refine r_iconst (pc := 64) cx dX5_open_64 ?_
    refine r_puti (pc := 65) (J := 6) cx hcl_X5 qc_X5 (lw0 hB) (j := 6) (by decide) tyX5_ok nmX5 wf_X5_63 rfl (by decide +kernel) rfl (Nat.le_of_ble_eq_true rfl) (fun r => rfl) dX5_open_65 (fun σ2 => ?_)
    exact r_xreturn (w0 := w) (fun _ _ h => h) (Nat.zero_le _) (Nat.zero_le _) cx dX5_open_68 rfl
  · exact r_throw (w0 := w) (mc := 1) (ms := 6) (rk := qrv) cx hl htab qt_qE3_54_56 (by rfl) (fun _ _ h => h) (Nat.le_of_ble_eq_true rfl) (Nat.le_of_ble_eq_true rfl) (Nat.le_of_ble_eq_true rfl) (Nat.le_of_ble_eq_true rfl) (Nat.le_of_ble_eq_true rfl) (Nat.le_of_ble_eq_true rfl) dX5_open_45 dX5_open_48 dX5_open_49 dX5_open_52 rfl
def fX5_open (p0 : Int) (p1 : Int) (σ : qSt) : Option (Int × Int × qSt) :=
  ((fX5_isNoCell σ p0).bind fun (r1 : Int) => (if qI r1 = 0 then (if qI p1 = qI 2 then (fX5_open_c33 p0 p1 σ) else (if qI p1 = qI 3 then (fX5_open_c33 p0 p1 σ) else (some (2, 0, σ)))) else (some (1, 0, σ))))
set_option maxRecDepth 100000 in
set_option maxHeartbeats 4000000 in
theorem tX5_open {l : Launch} {z0 : Nat} {g : qG} {w : qWd} {ad : Nat → Nat} (hB : qBC g ad w) (hl : l.stackTraces = false) (p0 : Int) (p1 : Int) (σ : qSt) : qXT l yX5_open cX5_open 3 none qrx1 g z0 w [.ref (ad 0), .int (qI p0), .int (qI p1)] σ (fX5_open p0 p1 σ) qrv := by
  refine qXT.of [(0, some (.ref (ad 0))), (1, some (.int (qI p0))), (2, some (.int (qI p1)))] (by decide +kernel) (Nat.le_of_ble_eq_true rfl) rfl ?_
  intro p e s m args below meth c cx htab
  unfold fX5_open
  refine r_iload_n (pc := 0) cx dX5_open_0 rfl ?_
  refine r_pSi (pc := 1) cx (tX5_isNoCell  p0 σ) qm_X5_isNoCell qs_X5_isNoCell wm_X5_37 dX5_open_1 rfl rfl (Nat.le_of_ble_eq_true rfl) ⟨Nat.le_of_ble_eq_true rfl, Nat.le_of_ble_eq_true rfl⟩ ⟨rfl, rfl⟩ ⟨Nat.zero_le _, Nat.zero_le _⟩ (fun r1 => ?_)
  refine r_if_eq (tgt := 15) cx dX5_open_4 (by decide) ?_ ?_
  · refine r_iload_n (pc := 15) cx dX5_open_15 rfl ?_
    refine r_iconst (pc := 16) cx dX5_open_16 ?_
    refine r_icmp_eq (tgt := 33) cx dX5_open_17 (by decide) ?_ ?_
    · exact qS.sub (qsub_cons rfl (qsub_cons rfl (qsub_cons rfl (qsub_nil _)))) (tX5_open_c33 cx hB hl htab _ _ _)
    · refine r_iload_n (pc := 20) cx dX5_open_20 rfl ?_
      refine r_iconst (pc := 21) cx dX5_open_21 ?_
      refine r_icmp_eq (tgt := 33) cx dX5_open_22 (by decide) ?_ ?_
      · exact qS.sub (qsub_cons rfl (qsub_cons rfl (qsub_cons rfl (qsub_nil _)))) (tX5_open_c33 cx hB hl htab _ _ _)
      · exact r_throw (w0 := w) (mc := 1) (ms := 6) (rk := qrv) cx hl htab qt_qE2_71_73 (by rfl) (fun _ _ h => h) (Nat.le_of_ble_eq_true rfl) (Nat.le_of_ble_eq_true rfl) (Nat.le_of_ble_eq_true rfl) (Nat.le_of_ble_eq_true rfl) (Nat.le_of_ble_eq_true rfl) (Nat.le_of_ble_eq_true rfl) dX5_open_25 dX5_open_28 dX5_open_29 dX5_open_32 rfl
  · exact r_throw (w0 := w) (mc := 1) (ms := 6) (rk := qrv) cx hl htab qt_qE1_44_46 (by rfl) (fun _ _ h => h) (Nat.le_of_ble_eq_true rfl) (Nat.le_of_ble_eq_true rfl) (Nat.le_of_ble_eq_true rfl) (Nat.le_of_ble_eq_true rfl) (Nat.le_of_ble_eq_true rfl) (Nat.le_of_ble_eq_true rfl) dX5_open_7 dX5_open_10 dX5_open_11 dX5_open_14 rfl
def fX5_particle (p0 : Int) (p1 : Int) (σ : qSt) : Option (Int × Int × qSt) :=
  ((fX5_isNoCell σ p0).bind fun (r1 : Int) => (if qI r1 = 0 then ((fX5_isOutside σ p1 0 3).bind fun (r18 : Int) => (if qI r18 = 0 then (if 0 ≤ p0 ∧ p0 < 96 then (if qI (σ 2 p0) = qI 1 then (some (3, 0, σ)) else (if 0 ≤ p0 ∧ p0 < 96 then ((fX5_has σ (σ 4 p0) p1).bind fun (r55 : Int) => (if qI r55 = 0 then (qbd (fX3_letIn 1 p0 p1 σ) fun (r75 : Int) (σ1 : qSt) => (qb (qset σ1 0 6 0) fun (σ2 : qSt) => (if 0 ≤ p0 ∧ p0 < 96 then (some (0, (σ2 4 p0), σ2)) else none))) else (some (3, 0, σ)))) else none)) else none) else (some (2, 0, σ)))) else (some (1, 0, σ))))
set_option maxRecDepth 100000 in
set_option maxHeartbeats 4000000 in
theorem tX5_particle {l : Launch} {z0 : Nat} {g : qG} {w : qWd} {ad : Nat → Nat} (hB : qBC g ad w) (hl : l.stackTraces = false) (p0 : Int) (p1 : Int) (σ : qSt) : qXT l yX5_particle cX5_particle 3 (some .int) qrx1 g z0 w [.ref (ad 0), .int (qI p0), .int (qI p1)] σ (fX5_particle p0 p1 σ) qri := by
  refine qXT.of [(0, some (.ref (ad 0))), (1, some (.int (qI p0))), (2, some (.int (qI p1)))] (by decide +kernel) (Nat.le_of_ble_eq_true rfl) rfl ?_
  intro p e s m args below meth c cx htab
  unfold fX5_particle
  refine r_iload_n (pc := 0) cx dX5_particle_0 rfl ?_
  refine r_pSi (pc := 1) cx (tX5_isNoCell  p0 σ) qm_X5_isNoCell qs_X5_isNoCell wm_X5_37 dX5_particle_1 rfl rfl (Nat.le_of_ble_eq_true rfl) ⟨Nat.le_of_ble_eq_true rfl, Nat.le_of_ble_eq_true rfl⟩ ⟨rfl, rfl⟩ ⟨Nat.zero_le _, Nat.zero_le _⟩ (fun r1 => ?_)
  refine r_if_eq (tgt := 15) cx dX5_particle_4 (by decide) ?_ ?_
  · refine r_iload_n (pc := 15) cx dX5_particle_15 rfl ?_
    refine r_iconst (pc := 16) cx dX5_particle_16 ?_
    refine r_iconst (pc := 17) cx dX5_particle_17 ?_
    refine r_pSi (pc := 18) cx (tX5_isOutside  p1 0 3 σ) qm_X5_isOutside qs_X5_isOutside wm_X5_74 dX5_particle_18 rfl rfl (Nat.le_of_ble_eq_true rfl) ⟨Nat.le_of_ble_eq_true rfl, Nat.le_of_ble_eq_true rfl⟩ ⟨rfl, rfl⟩ ⟨Nat.zero_le _, Nat.zero_le _⟩ (fun r18 => ?_)
    refine r_if_eq (tgt := 32) cx dX5_particle_21 (by decide) ?_ ?_
    · refine r_aload_n (pc := 32) cx dX5_particle_32 rfl ?_
      refine r_get (pc := 33) cx hcl_X5 qc_X5 (lw0 hB) (j := 0) (by decide) wf_X5_10 dX5_particle_33 (x := .ref (ad 1)) rfl ?_
      refine r_getN (pc := 36) cx hcl_X3 qc_X3 (lw1 hB) (j := 0) (by decide) wg_X5_57 dX5_particle_36 (x := .ref (ad 2)) rfl ?_
      refine r_iload_n (pc := 39) cx dX5_particle_39 rfl ?_
      refine r_iaload (pc := 40) cx (lw2 hB) rfl (by decide) dX5_particle_40 ?_
      refine r_iconst (pc := 41) cx dX5_particle_41 ?_
      refine r_icmp_eq (tgt := 61) cx dX5_particle_42 (by decide) ?_ ?_
      · exact r_throw (w0 := w) (mc := 1) (ms := 6) (rk := qri) cx hl htab qt_qE3_54_56 (by rfl) (fun _ _ h => h) (Nat.le_of_ble_eq_true rfl) (Nat.le_of_ble_eq_true rfl) (Nat.le_of_ble_eq_true rfl) (Nat.le_of_ble_eq_true rfl) (Nat.le_of_ble_eq_true rfl) (Nat.le_of_ble_eq_true rfl) dX5_particle_61 dX5_particle_64 dX5_particle_65 dX5_particle_68 rfl
      · refine r_aload_n (pc := 45) cx dX5_particle_45 rfl ?_
        refine r_get (pc := 46) cx hcl_X5 qc_X5 (lw0 hB) (j := 0) (by decide) wf_X5_10 dX5_particle_46 (x := .ref (ad 1)) rfl ?_
        refine r_getN (pc := 49) cx hcl_X3 qc_X3 (lw1 hB) (j := 2) (by decide) wg_X5_78 dX5_particle_49 (x := .ref (ad 4)) rfl ?_
        refine r_iload_n (pc := 52) cx dX5_particle_52 rfl ?_
        refine r_iaload (pc := 53) cx (lw4 hB) rfl (by decide) dX5_particle_53 ?_
        refine r_iload_n (pc := 54) cx dX5_particle_54 rfl ?_
        refine r_pSi (pc := 55) cx (tX5_has  (σ 4 p0) p1 σ) qm_X5_has qs_X5_has wm_X5_81 dX5_particle_55 rfl rfl (Nat.le_of_ble_eq_true rfl) ⟨Nat.le_of_ble_eq_true rfl, Nat.le_of_ble_eq_true rfl⟩ ⟨rfl, rfl⟩ ⟨Nat.zero_le _, Nat.zero_le _⟩ (fun r55 => ?_)
        refine r_if_eq (tgt := 69) cx dX5_particle_58 (by decide) ?_ ?_
        · refine r_aload_n (pc := 69) cx dX5_particle_69 rfl ?_
          refine r_get (pc := 70) cx hcl_X5 qc_X5 (lw0 hB) (j := 0) (by decide) wf_X5_10 dX5_particle_70 (x := .ref (ad 1)) rfl ?_
          refine r_iload_n (pc := 73) cx dX5_particle_73 rfl ?_
          refine r_iload_n (pc := 74) cx dX5_particle_74 rfl ?_
          refine r_dVNv (pc := 75) cx (tX3_letIn hB (Or.inl rfl) p0 p1 σ) qm_X3_letIn qv_X3_letIn hcl_X3 (lw1 hB) wn_X5_85 dX5_particle_75 rfl rfl (Nat.le_of_ble_eq_true rfl) ⟨Nat.le_of_ble_eq_true rfl, Nat.le_of_ble_eq_true rfl⟩ ⟨rfl, rfl⟩ ⟨Nat.zero_le _, Nat.zero_le _⟩ (fun r75 σ1 => ?_)
          refine r_aload_n (pc := 78) cx dX5_particle_78 rfl ?_
          refine r_iconst (pc := 79) cx dX5_particle_79 ?_
          refine r_puti (pc := 80) (J := 6) cx hcl_X5 qc_X5 (lw0 hB) (j := 6) (by decide) tyX5_ok nmX5 wf_X5_63 rfl (by decide +kernel) rfl (Nat.le_of_ble_eq_true rfl) (fun r => rfl) dX5_particle_80 (fun σ2 => ?_)
          refine r_aload_n (pc := 83) cx dX5_particle_83 rfl ?_
          refine r_get (pc := 84) cx hcl_X5 qc_X5 (lw0 hB) (j := 0) (by decide) wf_X5_10 dX5_particle_84 (x := .ref (ad 1)) rfl ?_
          refine r_getN (pc := 87) cx hcl_X3 qc_X3 (lw1 hB) (j := 2) (by decide) wg_X5_78 dX5_particle_87 (x := .ref (ad 4)) rfl ?_
          refine r_iload_n (pc := 90) cx dX5_particle_90 rfl ?_
          refine r_iaload (pc := 91) cx (lw4 hB) rfl (by decide) dX5_particle_91 ?_
          exact r_xireturn (w0 := w) (fun _ _ h => h) (Nat.zero_le _) (Nat.zero_le _) cx dX5_particle_92 rfl
        · exact r_throw (w0 := w) (mc := 1) (ms := 6) (rk := qri) cx hl htab qt_qE3_54_56 (by rfl) (fun _ _ h => h) (Nat.le_of_ble_eq_true rfl) (Nat.le_of_ble_eq_true rfl) (Nat.le_of_ble_eq_true rfl) (Nat.le_of_ble_eq_true rfl) (Nat.le_of_ble_eq_true rfl) (Nat.le_of_ble_eq_true rfl) dX5_particle_61 dX5_particle_64 dX5_particle_65 dX5_particle_68 rfl
    · exact r_throw (w0 := w) (mc := 1) (ms := 6) (rk := qri) cx hl htab qt_qE2_71_73 (by rfl) (fun _ _ h => h) (Nat.le_of_ble_eq_true rfl) (Nat.le_of_ble_eq_true rfl) (Nat.le_of_ble_eq_true rfl) (Nat.le_of_ble_eq_true rfl) (Nat.le_of_ble_eq_true rfl) (Nat.le_of_ble_eq_true rfl) dX5_particle_24 dX5_particle_27 dX5_particle_28 dX5_particle_31 rfl
  · exact r_throw (w0 := w) (mc := 1) (ms := 6) (rk := qri) cx hl htab qt_qE1_44_46 (by rfl) (fun _ _ h => h) (Nat.le_of_ble_eq_true rfl) (Nat.le_of_ble_eq_true rfl) (Nat.le_of_ble_eq_true rfl) (Nat.le_of_ble_eq_true rfl) (Nat.le_of_ble_eq_true rfl) (Nat.le_of_ble_eq_true rfl) dX5_particle_7 dX5_particle_10 dX5_particle_11 dX5_particle_14 rfl
def fX5_ink (p0 : Int) (σ : qSt) : Option (Int × Int × qSt) :=
  ((fX5_isNoCell σ p0).bind fun (r1 : Int) => (if qI r1 = 0 then (if 0 ≤ p0 ∧ p0 < 96 then (if 0 ≤ p0 ∧ p0 < 96 then (qb (qand (σ 4 p0) (qxor (σ 5 p0) (-1))) fun (y1 : Int) => (if 0 ≤ p0 ∧ p0 < 96 then (if 0 ≤ p0 ∧ p0 < 96 then (qb (qset σ 5 p0 (σ 4 p0)) fun (σ2 : qSt) => (qb (qset σ2 0 6 0) fun (σ3 : qSt) => ((fJ6_bitCount_0f7a4 σ3 y1).bind fun (r61 : Int) => (some (0, r61, σ3))))) else none) else none)) else none) else none) else (some (1, 0, σ))))
set_option maxRecDepth 100000 in
set_option maxHeartbeats 4000000 in
theorem tX5_ink {l : Launch} {z0 : Nat} {g : qG} {w : qWd} {ad : Nat → Nat} (hB : qBC g ad w) (hl : l.stackTraces = false) (p0 : Int) (σ : qSt) : qXT l yX5_ink cX5_ink 3 (some .int) qrx1 g z0 w [.ref (ad 0), .int (qI p0)] σ (fX5_ink p0 σ) qri := by
  refine qXT.of [(0, some (.ref (ad 0))), (1, some (.int (qI p0)))] (by decide +kernel) (Nat.le_of_ble_eq_true rfl) rfl ?_
  intro p e s m args below meth c cx htab
  unfold fX5_ink
  refine r_iload_n (pc := 0) cx dX5_ink_0 rfl ?_
  refine r_pSi (pc := 1) cx (tX5_isNoCell  p0 σ) qm_X5_isNoCell qs_X5_isNoCell wm_X5_37 dX5_ink_1 rfl rfl (Nat.le_of_ble_eq_true rfl) ⟨Nat.le_of_ble_eq_true rfl, Nat.le_of_ble_eq_true rfl⟩ ⟨rfl, rfl⟩ ⟨Nat.zero_le _, Nat.zero_le _⟩ (fun r1 => ?_)
  refine r_if_eq (tgt := 15) cx dX5_ink_4 (by decide) ?_ ?_
  · refine r_aload_n (pc := 15) cx dX5_ink_15 rfl ?_
    refine r_get (pc := 16) cx hcl_X5 qc_X5 (lw0 hB) (j := 0) (by decide) wf_X5_10 dX5_ink_16 (x := .ref (ad 1)) rfl ?_
    refine r_getN (pc := 19) cx hcl_X3 qc_X3 (lw1 hB) (j := 2) (by decide) wg_X5_78 dX5_ink_19 (x := .ref (ad 4)) rfl ?_
    refine r_iload_n (pc := 22) cx dX5_ink_22 rfl ?_
    refine r_iaload (pc := 23) cx (lw4 hB) rfl (by decide) dX5_ink_23 ?_
    refine r_aload_n (pc := 24) cx dX5_ink_24 rfl ?_
    refine r_get (pc := 25) cx hcl_X5 qc_X5 (lw0 hB) (j := 0) (by decide) wf_X5_10 dX5_ink_25 (x := .ref (ad 1)) rfl ?_
    refine r_getN (pc := 28) cx hcl_X3 qc_X3 (lw1 hB) (j := 3) (by decide) wg_X5_89 dX5_ink_28 (x := .ref (ad 5)) rfl ?_
    refine r_iload_n (pc := 31) cx dX5_ink_31 rfl ?_
    refine r_iaload (pc := 32) cx (lw5 hB) rfl (by decide) dX5_ink_32 ?_
    refine r_iconst (pc := 33) cx dX5_ink_33 ?_
    refine r_ixor (pc := 34) cx dX5_ink_34 ?_
    refine r_iand (pc := 35) cx dX5_ink_35 ?_
    refine r_nmi (fun y1 => ?_)
    refine r_istore_n (pc := 36) cx dX5_ink_36 (by decide) rfl ?_
    refine r_aload_n (pc := 37) cx dX5_ink_37 rfl ?_
    refine r_get (pc := 38) cx hcl_X5 qc_X5 (lw0 hB) (j := 0) (by decide) wf_X5_10 dX5_ink_38 (x := .ref (ad 1)) rfl ?_
    refine r_getN (pc := 41) cx hcl_X3 qc_X3 (lw1 hB) (j := 3) (by decide) wg_X5_89 dX5_ink_41 (x := .ref (ad 5)) rfl ?_
    refine r_iload_n (pc := 44) cx dX5_ink_44 rfl ?_
    refine r_aload_n (pc := 45) cx dX5_ink_45 rfl ?_
    refine r_get (pc := 46) cx hcl_X5 qc_X5 (lw0 hB) (j := 0) (by decide) wf_X5_10 dX5_ink_46 (x := .ref (ad 1)) rfl ?_
    refine r_getN (pc := 49) cx hcl_X3 qc_X3 (lw1 hB) (j := 2) (by decide) wg_X5_78 dX5_ink_49 (x := .ref (ad 4)) rfl ?_
    refine r_iload_n (pc := 52) cx dX5_ink_52 rfl ?_
    refine r_iaload (pc := 53) cx (lw4 hB) rfl (by decide) dX5_ink_53 ?_
    refine r_iastore (pc := 54) cx (lw5 hB) rfl (by decide) dX5_ink_54 (fun σ2 => ?_)
    refine r_aload_n (pc := 55) cx dX5_ink_55 rfl ?_
    refine r_iconst (pc := 56) cx dX5_ink_56 ?_
    refine r_puti (pc := 57) (J := 6) cx hcl_X5 qc_X5 (lw0 hB) (j := 6) (by decide) tyX5_ok nmX5 wf_X5_63 rfl (by decide +kernel) rfl (Nat.le_of_ble_eq_true rfl) (fun r => rfl) dX5_ink_57 (fun σ3 => ?_)
    refine r_iload_n (pc := 60) cx dX5_ink_60 rfl ?_
    refine r_pSi (pc := 61) cx (tJ6_bitCount_0f7a4  y1 σ3) qm_J6_bitCount_0f7a4 qs_J6_bitCount_0f7a4 wm_X5_92 dX5_ink_61 rfl rfl (Nat.le_of_ble_eq_true rfl) ⟨Nat.le_of_ble_eq_true rfl, Nat.le_of_ble_eq_true rfl⟩ ⟨rfl, rfl⟩ ⟨Nat.zero_le _, Nat.zero_le _⟩ (fun r61 => ?_)
    exact r_xireturn (w0 := w) (fun _ _ h => h) (Nat.zero_le _) (Nat.zero_le _) cx dX5_ink_64 rfl
  · exact r_throw (w0 := w) (mc := 1) (ms := 6) (rk := qri) cx hl htab qt_qE1_44_46 (by rfl) (fun _ _ h => h) (Nat.le_of_ble_eq_true rfl) (Nat.le_of_ble_eq_true rfl) (Nat.le_of_ble_eq_true rfl) (Nat.le_of_ble_eq_true rfl) (Nat.le_of_ble_eq_true rfl) (Nat.le_of_ble_eq_true rfl) dX5_ink_7 dX5_ink_10 dX5_ink_11 dX5_ink_14 rfl
def fX5_probe (p0 : Int) (σ : qSt) : Option (Int × Int × qSt) :=
  ((fX5_isNoCell σ p0).bind fun (r1 : Int) => (if qI r1 = 0 then (if 0 ≤ p0 ∧ p0 < 96 then (if qI (σ 2 p0) = qI 1 then (some (3, 0, σ)) else (if qI (σ 38 3) < qI 4 then (qb (qset σ 0 6 0) fun (σ1 : qSt) => (qbd (fX1_setInto p0 σ1) fun (r57 : Int) (σ2 : qSt) => (some (0, r57, σ2)))) else (some (3, 0, σ)))) else none) else (some (1, 0, σ))))
set_option maxRecDepth 100000 in
set_option maxHeartbeats 4000000 in
theorem tX5_probe {l : Launch} {z0 : Nat} {g : qG} {w : qWd} {ad : Nat → Nat} (hB : qBC g ad w) (hl : l.stackTraces = false) (p0 : Int) (σ : qSt) : qXT l yX5_probe cX5_probe 2 (some .int) qrx1 g z0 w [.ref (ad 0), .int (qI p0)] σ (fX5_probe p0 σ) qri := by
  refine qXT.of [(0, some (.ref (ad 0))), (1, some (.int (qI p0)))] (by decide +kernel) (Nat.le_of_ble_eq_true rfl) rfl ?_
  intro p e s m args below meth c cx htab
  unfold fX5_probe
  refine r_iload_n (pc := 0) cx dX5_probe_0 rfl ?_
  refine r_pSi (pc := 1) cx (tX5_isNoCell  p0 σ) qm_X5_isNoCell qs_X5_isNoCell wm_X5_37 dX5_probe_1 rfl rfl (Nat.le_of_ble_eq_true rfl) ⟨Nat.le_of_ble_eq_true rfl, Nat.le_of_ble_eq_true rfl⟩ ⟨rfl, rfl⟩ ⟨Nat.zero_le _, Nat.zero_le _⟩ (fun r1 => ?_)
  refine r_if_eq (tgt := 15) cx dX5_probe_4 (by decide) ?_ ?_
  · refine r_aload_n (pc := 15) cx dX5_probe_15 rfl ?_
    refine r_get (pc := 16) cx hcl_X5 qc_X5 (lw0 hB) (j := 0) (by decide) wf_X5_10 dX5_probe_16 (x := .ref (ad 1)) rfl ?_
    refine r_getN (pc := 19) cx hcl_X3 qc_X3 (lw1 hB) (j := 0) (by decide) wg_X5_57 dX5_probe_19 (x := .ref (ad 2)) rfl ?_
    refine r_iload_n (pc := 22) cx dX5_probe_22 rfl ?_
    refine r_iaload (pc := 23) cx (lw2 hB) rfl (by decide) dX5_probe_23 ?_
    refine r_iconst (pc := 24) cx dX5_probe_24 ?_
    refine r_icmp_eq (tgt := 39) cx dX5_probe_25 (by decide) ?_ ?_
    · exact r_throw (w0 := w) (mc := 1) (ms := 6) (rk := qri) cx hl htab qt_qE3_54_56 (by rfl) (fun _ _ h => h) (Nat.le_of_ble_eq_true rfl) (Nat.le_of_ble_eq_true rfl) (Nat.le_of_ble_eq_true rfl) (Nat.le_of_ble_eq_true rfl) (Nat.le_of_ble_eq_true rfl) (Nat.le_of_ble_eq_true rfl) dX5_probe_39 dX5_probe_42 dX5_probe_43 dX5_probe_46 rfl
    · refine r_aload_n (pc := 28) cx dX5_probe_28 rfl ?_
      refine r_get (pc := 29) cx hcl_X5 qc_X5 (lw0 hB) (j := 3) (by decide) wf_X5_29 dX5_probe_29 (x := .ref (ad 38)) rfl ?_
      refine r_getN (pc := 32) cx hcl_X1 qc_X1 (lw38 hB) (j := 3) (by decide) wg_X5_97 dX5_probe_32 (x := .int (qI (σ 38 3))) rfl ?_
      refine r_iconst (pc := 35) cx dX5_probe_35 ?_
      refine r_icmp_lt (tgt := 47) cx dX5_probe_36 (by decide) ?_ ?_
      · refine r_aload_n (pc := 47) cx dX5_probe_47 rfl ?_
        refine r_iconst (pc := 48) cx dX5_probe_48 ?_
        refine r_puti (pc := 49) (J := 6) cx hcl_X5 qc_X5 (lw0 hB) (j := 6) (by decide) tyX5_ok nmX5 wf_X5_63 rfl (by decide +kernel) rfl (Nat.le_of_ble_eq_true rfl) (fun r => rfl) dX5_probe_49 (fun σ1 => ?_)
        refine r_aload_n (pc := 52) cx dX5_probe_52 rfl ?_
        refine r_get (pc := 53) cx hcl_X5 qc_X5 (lw0 hB) (j := 3) (by decide) wf_X5_29 dX5_probe_53 (x := .ref (ad 38)) rfl ?_
        refine r_iload_n (pc := 56) cx dX5_probe_56 rfl ?_
        refine r_dVNi (pc := 57) cx (tX1_setInto hB p0 σ1) qm_X1_setInto qv_X1_setInto hcl_X1 (lw38 hB) wn_X5_100 dX5_probe_57 rfl rfl (Nat.le_of_ble_eq_true rfl) ⟨Nat.le_of_ble_eq_true rfl, Nat.le_of_ble_eq_true rfl⟩ ⟨rfl, rfl⟩ ⟨Nat.zero_le _, Nat.zero_le _⟩ (fun r57 σ2 => ?_)
        exact r_xireturn (w0 := w) (fun _ _ h => h) (Nat.zero_le _) (Nat.zero_le _) cx dX5_probe_60 rfl
      · exact r_throw (w0 := w) (mc := 1) (ms := 6) (rk := qri) cx hl htab qt_qE3_54_56 (by rfl) (fun _ _ h => h) (Nat.le_of_ble_eq_true rfl) (Nat.le_of_ble_eq_true rfl) (Nat.le_of_ble_eq_true rfl) (Nat.le_of_ble_eq_true rfl) (Nat.le_of_ble_eq_true rfl) (Nat.le_of_ble_eq_true rfl) dX5_probe_39 dX5_probe_42 dX5_probe_43 dX5_probe_46 rfl
  · exact r_throw (w0 := w) (mc := 1) (ms := 6) (rk := qri) cx hl htab qt_qE1_44_46 (by rfl) (fun _ _ h => h) (Nat.le_of_ble_eq_true rfl) (Nat.le_of_ble_eq_true rfl) (Nat.le_of_ble_eq_true rfl) (Nat.le_of_ble_eq_true rfl) (Nat.le_of_ble_eq_true rfl) (Nat.le_of_ble_eq_true rfl) dX5_probe_7 dX5_probe_10 dX5_probe_11 dX5_probe_14 rfl
def fX5_fault (p0 : Int) (p1 : Int) (σ : qSt) : Option (Int × Int × qSt) :=
  ((fX5_isNoBody σ p0).bind fun (r1 : Int) => (if qI r1 = 0 then ((fX5_isOutside σ p1 (-5) 5).bind fun (r19 : Int) => (if qI r19 = 0 then (if 0 ≤ p0 ∧ p0 < 4 then (qb (σ 46 p0) fun (y1 : Int) => (if 0 ≤ p0 ∧ p0 < 4 then (qb (qset σ 46 p0 p1) fun (σ2 : qSt) => (some (0, y1, σ2))) else none)) else none) else (some (2, 0, σ)))) else (some (1, 0, σ))))
set_option maxRecDepth 100000 in
set_option maxHeartbeats 4000000 in
theorem tX5_fault {l : Launch} {z0 : Nat} {g : qG} {w : qWd} {ad : Nat → Nat} (hB : qBC g ad w) (hl : l.stackTraces = false) (p0 : Int) (p1 : Int) (σ : qSt) : qXT l yX5_fault cX5_fault 4 (some .int) qrx1 g z0 w [.ref (ad 0), .int (qI p0), .int (qI p1)] σ (fX5_fault p0 p1 σ) qri := by
  refine qXT.of [(0, some (.ref (ad 0))), (1, some (.int (qI p0))), (2, some (.int (qI p1)))] (by decide +kernel) (Nat.le_of_ble_eq_true rfl) rfl ?_
  intro p e s m args below meth c cx htab
  unfold fX5_fault
  refine r_iload_n (pc := 0) cx dX5_fault_0 rfl ?_
  refine r_pSi (pc := 1) cx (tX5_isNoBody  p0 σ) qm_X5_isNoBody qs_X5_isNoBody wm_X5_41 dX5_fault_1 rfl rfl (Nat.le_of_ble_eq_true rfl) ⟨Nat.le_of_ble_eq_true rfl, Nat.le_of_ble_eq_true rfl⟩ ⟨rfl, rfl⟩ ⟨Nat.zero_le _, Nat.zero_le _⟩ (fun r1 => ?_)
  refine r_if_eq (tgt := 15) cx dX5_fault_4 (by decide) ?_ ?_
  · refine r_iload_n (pc := 15) cx dX5_fault_15 rfl ?_
    refine r_bipush (pc := 16) (v := (-5)) cx dX5_fault_16 (by decide +kernel) ?_
    refine r_iconst (pc := 18) cx dX5_fault_18 ?_
    refine r_pSi (pc := 19) cx (tX5_isOutside  p1 (-5) 5 σ) qm_X5_isOutside qs_X5_isOutside wm_X5_74 dX5_fault_19 rfl rfl (Nat.le_of_ble_eq_true rfl) ⟨Nat.le_of_ble_eq_true rfl, Nat.le_of_ble_eq_true rfl⟩ ⟨rfl, rfl⟩ ⟨Nat.zero_le _, Nat.zero_le _⟩ (fun r19 => ?_)
    refine r_if_eq (tgt := 33) cx dX5_fault_22 (by decide) ?_ ?_
    · refine r_aload_n (pc := 33) cx dX5_fault_33 rfl ?_
      refine r_get (pc := 34) cx hcl_X5 qc_X5 (lw0 hB) (j := 4) (by decide) wf_X5_33 dX5_fault_34 (x := .ref (ad 46)) rfl ?_
      refine r_iload_n (pc := 37) cx dX5_fault_37 rfl ?_
      refine r_iaload (pc := 38) cx (lw46 hB) rfl (by decide) dX5_fault_38 ?_
      refine r_nmi (fun y1 => ?_)
      refine r_istore_n (pc := 39) cx dX5_fault_39 (by decide) rfl ?_
      refine r_aload_n (pc := 40) cx dX5_fault_40 rfl ?_
      refine r_get (pc := 41) cx hcl_X5 qc_X5 (lw0 hB) (j := 4) (by decide) wf_X5_33 dX5_fault_41 (x := .ref (ad 46)) rfl ?_
      refine r_iload_n (pc := 44) cx dX5_fault_44 rfl ?_
      refine r_iload_n (pc := 45) cx dX5_fault_45 rfl ?_
      refine r_iastore (pc := 46) cx (lw46 hB) rfl (by decide) dX5_fault_46 (fun σ2 => ?_)
      refine r_iload_n (pc := 47) cx dX5_fault_47 rfl ?_
      exact r_xireturn (w0 := w) (fun _ _ h => h) (Nat.zero_le _) (Nat.zero_le _) cx dX5_fault_48 rfl
    · exact r_throw (w0 := w) (mc := 1) (ms := 6) (rk := qri) cx hl htab qt_qE2_71_73 (by rfl) (fun _ _ h => h) (Nat.le_of_ble_eq_true rfl) (Nat.le_of_ble_eq_true rfl) (Nat.le_of_ble_eq_true rfl) (Nat.le_of_ble_eq_true rfl) (Nat.le_of_ble_eq_true rfl) (Nat.le_of_ble_eq_true rfl) dX5_fault_25 dX5_fault_28 dX5_fault_29 dX5_fault_32 rfl
  · exact r_throw (w0 := w) (mc := 1) (ms := 6) (rk := qri) cx hl htab qt_qE1_44_46 (by rfl) (fun _ _ h => h) (Nat.le_of_ble_eq_true rfl) (Nat.le_of_ble_eq_true rfl) (Nat.le_of_ble_eq_true rfl) (Nat.le_of_ble_eq_true rfl) (Nat.le_of_ble_eq_true rfl) (Nat.le_of_ble_eq_true rfl) dX5_fault_7 dX5_fault_10 dX5_fault_11 dX5_fault_14 rfl
def fX5_bring (p0 : Int) (p1 : Int) (p2 : Int) (σ : qSt) : Option (Int × Int × qSt) :=
  ((fX5_isNoCell σ p0).bind fun (r1 : Int) => (if qI r1 = 0 then ((fX5_isOutside σ p1 0 3).bind fun (r18 : Int) => (if qI r18 = 0 then ((fX5_isOutside σ p2 1 100000).bind fun (r28 : Int) => (if qI r28 = 0 then (if 0 ≤ p0 ∧ p0 < 96 then (if qI (σ 2 p0) = qI 1 then (some (3, 0, σ)) else (if qI ((σ 27 2) + p2) ≤ qI 1000000 then (qb (qset σ 27 2 ((σ 27 2) + p2)) fun (σ1 : qSt) => (if 0 ≤ p1 ∧ p1 < 4 then (if 0 ≤ p0 ∧ p0 < 96 then (if 0 ≤ p0 ∧ p0 < 96 then (qb (qset σ1 (30 + Int.toNat p1) p0 ((σ1 (30 + Int.toNat p1) p0) + p2)) fun (σ2 : qSt) => (if 0 ≤ p1 ∧ p1 < 4 then (if 0 ≤ p0 ∧ p0 < 96 then (some (0, (σ2 (30 + Int.toNat p1) p0), σ2)) else none) else none)) else none) else none) else none)) else (some (3, 0, σ)))) else none) else (some (2, 0, σ)))) else (some (2, 0, σ)))) else (some (1, 0, σ))))
set_option maxRecDepth 100000 in
set_option maxHeartbeats 4000000 in
theorem tX5_bring {l : Launch} {z0 : Nat} {g : qG} {w : qWd} {ad : Nat → Nat} (hB : qBC g ad w) (hl : l.stackTraces = false) (p0 : Int) (p1 : Int) (p2 : Int) (σ : qSt) : qXT l yX5_bring cX5_bring 4 (some .int) qrx1 g z0 w [.ref (ad 0), .int (qI p0), .int (qI p1), .int (qI p2)] σ (fX5_bring p0 p1 p2 σ) qri := by
  refine qXT.of [(0, some (.ref (ad 0))), (1, some (.int (qI p0))), (2, some (.int (qI p1))), (3, some (.int (qI p2)))] (by decide +kernel) (Nat.le_of_ble_eq_true rfl) rfl ?_
  intro p e s m args below meth c cx htab
  unfold fX5_bring
  refine r_iload_n (pc := 0) cx dX5_bring_0 rfl ?_
  refine r_pSi (pc := 1) cx (tX5_isNoCell  p0 σ) qm_X5_isNoCell qs_X5_isNoCell wm_X5_37 dX5_bring_1 rfl rfl (Nat.le_of_ble_eq_true rfl) ⟨Nat.le_of_ble_eq_true rfl, Nat.le_of_ble_eq_true rfl⟩ ⟨rfl, rfl⟩ ⟨Nat.zero_le _, Nat.zero_le _⟩ (fun r1 => ?_)
  refine r_if_eq (tgt := 15) cx dX5_bring_4 (by decide) ?_ ?_
  · refine r_iload_n (pc := 15) cx dX5_bring_15 rfl ?_
    refine r_iconst (pc := 16) cx dX5_bring_16 ?_
    refine r_iconst (pc := 17) cx dX5_bring_17 ?_
    refine r_pSi (pc := 18) cx (tX5_isOutside  p1 0 3 σ) qm_X5_isOutside qs_X5_isOutside wm_X5_74 dX5_bring_18 rfl rfl (Nat.le_of_ble_eq_true rfl) ⟨Nat.le_of_ble_eq_true rfl, Nat.le_of_ble_eq_true rfl⟩ ⟨rfl, rfl⟩ ⟨Nat.zero_le _, Nat.zero_le _⟩ (fun r18 => ?_)
    refine r_if_ne (tgt := 34) cx dX5_bring_21 (by decide) ?_ ?_
    · exact r_throw (w0 := w) (mc := 1) (ms := 6) (rk := qri) cx hl htab qt_qE2_71_73 (by rfl) (fun _ _ h => h) (Nat.le_of_ble_eq_true rfl) (Nat.le_of_ble_eq_true rfl) (Nat.le_of_ble_eq_true rfl) (Nat.le_of_ble_eq_true rfl) (Nat.le_of_ble_eq_true rfl) (Nat.le_of_ble_eq_true rfl) dX5_bring_34 dX5_bring_37 dX5_bring_38 dX5_bring_41 rfl
    · refine r_iload_n (pc := 24) cx dX5_bring_24 rfl ?_
      refine r_iconst (pc := 25) cx dX5_bring_25 ?_
      refine r_ldc (pc := 26) (v := 100000) cx dX5_bring_26 wk_X5_103 ?_
      refine r_pSi (pc := 28) cx (tX5_isOutside  p2 1 100000 σ) qm_X5_isOutside qs_X5_isOutside wm_X5_74 dX5_bring_28 rfl rfl (Nat.le_of_ble_eq_true rfl) ⟨Nat.le_of_ble_eq_true rfl, Nat.le_of_ble_eq_true rfl⟩ ⟨rfl, rfl⟩ ⟨Nat.zero_le _, Nat.zero_le _⟩ (fun r28 => ?_)
      refine r_if_eq (tgt := 42) cx dX5_bring_31 (by decide) ?_ ?_
      · refine r_aload_n (pc := 42) cx dX5_bring_42 rfl ?_
        refine r_get (pc := 43) cx hcl_X5 qc_X5 (lw0 hB) (j := 0) (by decide) wf_X5_10 dX5_bring_43 (x := .ref (ad 1)) rfl ?_
        refine r_getN (pc := 46) cx hcl_X3 qc_X3 (lw1 hB) (j := 0) (by decide) wg_X5_57 dX5_bring_46 (x := .ref (ad 2)) rfl ?_
        refine r_iload_n (pc := 49) cx dX5_bring_49 rfl ?_
        refine r_iaload (pc := 50) cx (lw2 hB) rfl (by decide) dX5_bring_50 ?_
        refine r_iconst (pc := 51) cx dX5_bring_51 ?_
        refine r_icmp_eq (tgt := 69) cx dX5_bring_52 (by decide) ?_ ?_
        · exact r_throw (w0 := w) (mc := 1) (ms := 6) (rk := qri) cx hl htab qt_qE3_54_56 (by rfl) (fun _ _ h => h) (Nat.le_of_ble_eq_true rfl) (Nat.le_of_ble_eq_true rfl) (Nat.le_of_ble_eq_true rfl) (Nat.le_of_ble_eq_true rfl) (Nat.le_of_ble_eq_true rfl) (Nat.le_of_ble_eq_true rfl) dX5_bring_69 dX5_bring_72 dX5_bring_73 dX5_bring_76 rfl
        · refine r_aload_n (pc := 55) cx dX5_bring_55 rfl ?_
          refine r_get (pc := 56) cx hcl_X5 qc_X5 (lw0 hB) (j := 2) (by decide) wf_X5_22 dX5_bring_56 (x := .ref (ad 27)) rfl ?_
          refine r_getN (pc := 59) cx hcl_X0 qc_X0 (lw27 hB) (j := 2) (by decide) wg_X5_104 dX5_bring_59 (x := .int (qI (σ 27 2))) rfl ?_
          refine r_iload_n (pc := 62) cx dX5_bring_62 rfl ?_
          refine r_iadd (pc := 63) cx dX5_bring_63 ?_
          refine r_ldc (pc := 64) (v := 1000000) cx dX5_bring_64 wk_X5_107 ?_
          refine r_icmp_le (tgt := 77) cx dX5_bring_66 (by decide) ?_ ?_
          · refine r_aload_n (pc := 77) cx dX5_bring_77 rfl ?_
            refine r_get (pc := 78) cx hcl_X5 qc_X5 (lw0 hB) (j := 2) (by decide) wf_X5_22 dX5_bring_78 (x := .ref (ad 27)) rfl ?_
            refine r_dup (pc := 81) cx dX5_bring_81 rfl ?_
            refine r_getN (pc := 82) cx hcl_X0 qc_X0 (lw27 hB) (j := 2) (by decide) wg_X5_104 dX5_bring_82 (x := .int (qI (σ 27 2))) rfl ?_
            refine r_iload_n (pc := 85) cx dX5_bring_85 rfl ?_
            refine r_iadd (pc := 86) cx dX5_bring_86 ?_
            refine r_putiN (pc := 87) (J := 2) cx hcl_X0 qc_X0 (lw27 hB) (j := 2) (by decide) tyX0_ok nmX0 wg_X5_104 rfl (by decide +kernel) rfl (Nat.le_of_ble_eq_true rfl) (fun r => rfl) dX5_bring_87 (fun σ1 => ?_)
            refine r_aload_n (pc := 90) cx dX5_bring_90 rfl ?_
            refine r_get (pc := 91) cx hcl_X5 qc_X5 (lw0 hB) (j := 2) (by decide) wf_X5_22 dX5_bring_91 (x := .ref (ad 27)) rfl ?_
            refine r_getN (pc := 94) cx hcl_X0 qc_X0 (lw27 hB) (j := 0) (by decide) wg_X5_108 dX5_bring_94 (x := .ref (ad 28)) rfl ?_
            refine r_iload_n (pc := 97) cx dX5_bring_97 rfl ?_
            refine r_aaload2 (pc := 98) cx (lw28 hB) rfl (by decide) dX5_bring_98 (fun h98 => ?_)
            refine r_iload_n (pc := 99) cx dX5_bring_99 rfl ?_
            refine r_dup2 (pc := 100) cx dX5_bring_100 rfl rfl ?_
            refine r_iaload (pc := 101) cx (lw_rows hB h98) rfl (by decide) dX5_bring_101 ?_
            refine r_iload_n (pc := 102) cx dX5_bring_102 rfl ?_
            refine r_iadd (pc := 103) cx dX5_bring_103 ?_
            refine r_iastore (pc := 104) cx (lw_rows hB h98) rfl (by decide) dX5_bring_104 (fun σ2 => ?_)
            refine r_aload_n (pc := 105) cx dX5_bring_105 rfl ?_
            refine r_get (pc := 106) cx hcl_X5 qc_X5 (lw0 hB) (j := 2) (by decide) wf_X5_22 dX5_bring_106 (x := .ref (ad 27)) rfl ?_
            refine r_getN (pc := 109) cx hcl_X0 qc_X0 (lw27 hB) (j := 0) (by decide) wg_X5_108 dX5_bring_109 (x := .ref (ad 28)) rfl ?_
            refine r_iload_n (pc := 112) cx dX5_bring_112 rfl ?_
            refine r_aaload2 (pc := 113) cx (lw28 hB) rfl (by decide) dX5_bring_113 (fun h113 => ?_)
            refine r_iload_n (pc := 114) cx dX5_bring_114 rfl ?_
            refine r_iaload (pc := 115) cx (lw_rows hB h113) rfl (by decide) dX5_bring_115 ?_
            exact r_xireturn (w0 := w) (fun _ _ h => h) (Nat.zero_le _) (Nat.zero_le _) cx dX5_bring_116 rfl
          · exact r_throw (w0 := w) (mc := 1) (ms := 6) (rk := qri) cx hl htab qt_qE3_54_56 (by rfl) (fun _ _ h => h) (Nat.le_of_ble_eq_true rfl) (Nat.le_of_ble_eq_true rfl) (Nat.le_of_ble_eq_true rfl) (Nat.le_of_ble_eq_true rfl) (Nat.le_of_ble_eq_true rfl) (Nat.le_of_ble_eq_true rfl) dX5_bring_69 dX5_bring_72 dX5_bring_73 dX5_bring_76 rfl
      · exact r_throw (w0 := w) (mc := 1) (ms := 6) (rk := qri) cx hl htab qt_qE2_71_73 (by rfl) (fun _ _ h => h) (Nat.le_of_ble_eq_true rfl) (Nat.le_of_ble_eq_true rfl) (Nat.le_of_ble_eq_true rfl) (Nat.le_of_ble_eq_true rfl) (Nat.le_of_ble_eq_true rfl) (Nat.le_of_ble_eq_true rfl) dX5_bring_34 dX5_bring_37 dX5_bring_38 dX5_bring_41 rfl
  · exact r_throw (w0 := w) (mc := 1) (ms := 6) (rk := qri) cx hl htab qt_qE1_44_46 (by rfl) (fun _ _ h => h) (Nat.le_of_ble_eq_true rfl) (Nat.le_of_ble_eq_true rfl) (Nat.le_of_ble_eq_true rfl) (Nat.le_of_ble_eq_true rfl) (Nat.le_of_ble_eq_true rfl) (Nat.le_of_ble_eq_true rfl) dX5_bring_7 dX5_bring_10 dX5_bring_11 dX5_bring_14 rfl
def fX5_step_c97 (k49 : Int → Int → Int → qSt → Option (Int × Int × qSt)) (x1 : Int) (x2 : Int) (x3 : Int) (s0 : Int) (σ : qSt) : Option (Int × Int × qSt) :=
  (qb (qset σ 0 6 s0) fun (σ4 : qSt) => (k49 x1 x2 (x3 + 1) σ4))
set_option maxRecDepth 100000 in
set_option maxHeartbeats 4000000 in
theorem tX5_step_c97 {p : Program} {l : Launch} {e : Env} {s : State} {m : MethodId} {args : Array Value} {below : List Frame} {meth : Method} {c : Code} {z0 : Nat} {g : qG} {w : qWd} {ad : Nat → Nat} (cx : qCx p s m meth c cX5_step 4 RX5 (some .int) g z0) (hB : qBC g ad w) (hl : l.stackTraces = false) (htab : ∀ x, x ∈ c.exceptionTable.toList → False) {k49 : Int → Int → Int → qSt → Option (Int × Int × qSt)} (hk49 : ∀ (x1 : Int) (x2 : Int) (x3 : Int) (σ : qSt), qS p l e qrx5 s m args below meth c 4 g z0 w 0 0 (qXQ below g z0 w qri args s 1 6) (k49 x1 x2 x3 σ) σ 49 [(0, some (.ref (ad 0))), (1, some (.int (qI x1))), (2, some (.int (qI x2))), (3, some (.int (qI x3)))] []) (x1 : Int) (x2 : Int) (x3 : Int) (s0 : Int) (σ : qSt) : qS p l e qrx5 s m args below meth c 4 g z0 w 0 0 (qXQ below g z0 w qri args s 1 6) (fX5_step_c97 k49 x1 x2 x3 s0 σ) σ 97 [(0, some (.ref (ad 0))), (1, some (.int (qI x1))), (2, some (.int (qI x2))), (3, some (.int (qI x3)))] [.int (qI s0), .ref (ad 0)] := by
  unfold fX5_step_c97
  refine r_puti (pc := 97) (J := 6) cx hcl_X5 qc_X5 (lw0 hB) (j := 6) (by decide) tyX5_ok nmX5 wf_X5_63 rfl (by decide +kernel) rfl (Nat.le_of_ble_eq_true rfl) (fun r => rfl) dX5_step_97 (fun σ4 => ?_)
  refine r_iinc (pc := 100) cx dX5_step_100 rfl (by decide) rfl ?_
  refine r_goto (pc := 103) (tgt := 49) cx dX5_step_103 (by decide) ?_
  exact qS.sub (qsub_cons rfl (qsub_cons rfl (qsub_cons rfl (qsub_cons rfl (qsub_nil _))))) (hk49 _ _ _ _)
def fX5_step_c49 : Nat → Int → Int → Int → qSt → Option (Int × Int × qSt)
  | 0, _, _, _, _ => none
  | f + 1, x1, x2, x3, σ => (if qI x1 ≤ qI x3 then (some (0, (σ 0 5), σ)) else (qbd (fX3_passStep 1 σ) fun (r58 : Int) (σ1 : qSt) => (qbd (fX1_recordAll σ1) fun (r69 : Int) (σ2 : qSt) => (qb (qset σ2 0 5 ((σ2 0 5) + 1)) fun (σ3 : qSt) => (if qI x2 = 0 then (fX5_step_c97 (fX5_step_c49 f) x1 x2 x3 0 σ3) else (fX5_step_c97 (fX5_step_c49 f) x1 x2 x3 ((σ3 0 6) + 1) σ3))))))
set_option maxRecDepth 100000 in
set_option maxHeartbeats 4000000 in
theorem tX5_step_c49 {p : Program} {l : Launch} {e : Env} {s : State} {m : MethodId} {args : Array Value} {below : List Frame} {meth : Method} {c : Code} {z0 : Nat} {g : qG} {w : qWd} {ad : Nat → Nat} (cx : qCx p s m meth c cX5_step 4 RX5 (some .int) g z0) (hB : qBC g ad w) (hl : l.stackTraces = false) (htab : ∀ x, x ∈ c.exceptionTable.toList → False) : ∀ (f : Nat) (x1 : Int) (x2 : Int) (x3 : Int) (σ : qSt), qS p l e qrx5 s m args below meth c 4 g z0 w 0 0 (qXQ below g z0 w qri args s 1 6) (fX5_step_c49 f x1 x2 x3 σ) σ 49 [(0, some (.ref (ad 0))), (1, some (.int (qI x1))), (2, some (.int (qI x2))), (3, some (.int (qI x3)))] [] := by
  intro f
  induction f with
  | zero => exact fun _ _ _ _ => qS.fail
  | succ f ih =>
    intro x1 x2 x3 σ
    unfold fX5_step_c49
    refine r_iload_n (pc := 49) cx dX5_step_49 rfl ?_
    refine r_iload_n (pc := 50) cx dX5_step_50 rfl ?_
    refine r_icmp_ge (tgt := 106) cx dX5_step_51 (by decide) ?_ ?_
    · refine r_aload_n (pc := 106) cx dX5_step_106 rfl ?_
      refine r_get (pc := 107) cx hcl_X5 qc_X5 (lw0 hB) (j := 5) (by decide) wf_X5_112 dX5_step_107 (x := .int (qI (σ 0 5))) rfl ?_
      exact r_xireturn (w0 := w) (fun _ _ h => h) (Nat.zero_le _) (Nat.zero_le _) cx dX5_step_110 rfl
    · refine r_aload_n (pc := 54) cx dX5_step_54 rfl ?_
      refine r_get (pc := 55) cx hcl_X5 qc_X5 (lw0 hB) (j := 0) (by decide) wf_X5_10 dX5_step_55 (x := .ref (ad 1)) rfl ?_
      refine r_dVNv (pc := 58) cx (tX3_passStep hB (Or.inl rfl)  σ) qm_X3_passStep qv_X3_passStep hcl_X3 (lw1 hB) wn_X5_119 dX5_step_58 rfl rfl (Nat.le_of_ble_eq_true rfl) ⟨Nat.le_of_ble_eq_true rfl, Nat.le_of_ble_eq_true rfl⟩ ⟨rfl, rfl⟩ ⟨Nat.zero_le _, Nat.zero_le _⟩ (fun r58 σ1 => ?_)
      refine r_aload_n (pc := 61) cx dX5_step_61 rfl ?_
      refine r_get (pc := 62) cx hcl_X5 qc_X5 (lw0 hB) (j := 3) (by decide) wf_X5_29 dX5_step_62 (x := .ref (ad 38)) rfl ?_
      refine r_aload_n (pc := 65) cx dX5_step_65 rfl ?_
      refine r_get (pc := 66) cx hcl_X5 qc_X5 (lw0 hB) (j := 0) (by decide) wf_X5_10 dX5_step_66 (x := .ref (ad 1)) rfl ?_
      refine r_dVNv (pc := 69) cx (tX1_recordAll hB  σ1) qm_X1_recordAll qv_X1_recordAll hcl_X1 (lw38 hB) wn_X5_122 dX5_step_69 rfl rfl (Nat.le_of_ble_eq_true rfl) ⟨Nat.le_of_ble_eq_true rfl, Nat.le_of_ble_eq_true rfl⟩ ⟨rfl, rfl⟩ ⟨Nat.zero_le _, Nat.zero_le _⟩ (fun r69 σ2 => ?_)
      refine r_aload_n (pc := 72) cx dX5_step_72 rfl ?_
      refine r_dup (pc := 73) cx dX5_step_73 rfl ?_
      refine r_get (pc := 74) cx hcl_X5 qc_X5 (lw0 hB) (j := 5) (by decide) wf_X5_112 dX5_step_74 (x := .int (qI (σ2 0 5))) rfl ?_
      refine r_iconst (pc := 77) cx dX5_step_77 ?_
      refine r_iadd (pc := 78) cx dX5_step_78 ?_
      refine r_puti (pc := 79) (J := 5) cx hcl_X5 qc_X5 (lw0 hB) (j := 5) (by decide) tyX5_ok nmX5 wf_X5_112 rfl (by decide +kernel) rfl (Nat.le_of_ble_eq_true rfl) (fun r => rfl) dX5_step_79 (fun σ3 => ?_)
      refine r_aload_n (pc := 82) cx dX5_step_82 rfl ?_
      refine r_iload_n (pc := 83) cx dX5_step_83 rfl ?_
      refine r_if_eq (tgt := 96) cx dX5_step_84 (by decide) ?_ ?_
      · refine r_iconst (pc := 96) cx dX5_step_96 ?_
        exact qS.sub (qsub_cons rfl (qsub_cons rfl (qsub_cons rfl (qsub_cons rfl (qsub_nil _))))) (tX5_step_c97 cx hB hl htab ih _ _ _ _ _)
      · refine r_aload_n (pc := 87) cx dX5_step_87 rfl ?_
        refine r_get (pc := 88) cx hcl_X5 qc_X5 (lw0 hB) (j := 6) (by decide) wf_X5_63 dX5_step_88 (x := .int (qI (σ3 0 6))) rfl ?_
        refine r_iconst (pc := 91) cx dX5_step_91 ?_
        refine r_iadd (pc := 92) cx dX5_step_92 ?_
        refine r_goto (pc := 93) (tgt := 97) cx dX5_step_93 (by decide) ?_
        exact qS.sub (qsub_cons rfl (qsub_cons rfl (qsub_cons rfl (qsub_cons rfl (qsub_nil _))))) (tX5_step_c97 cx hB hl htab ih _ _ _ _ _)
def fX5_step (p0 : Int) (σ : qSt) : Option (Int × Int × qSt) :=
  ((fX5_isOutside σ p0 1 200).bind fun (r5 : Int) => (if qI r5 = 0 then (if qI ((σ 0 5) + p0) ≤ qI 5000 then ((fX3_isClosed 1 σ).bind fun (r43 : Int) => (fX5_step_c49 qFU p0 r43 0 σ)) else (some (3, 0, σ))) else (some (2, 0, σ))))
set_option maxRecDepth 100000 in
set_option maxHeartbeats 4000000 in
theorem tX5_step {l : Launch} {z0 : Nat} {g : qG} {w : qWd} {ad : Nat → Nat} (hB : qBC g ad w) (hl : l.stackTraces = false) (p0 : Int) (σ : qSt) : qXT l yX5_step cX5_step 4 (some .int) qrx5 g z0 w [.ref (ad 0), .int (qI p0)] σ (fX5_step p0 σ) qri := by
  refine qXT.of [(0, some (.ref (ad 0))), (1, some (.int (qI p0)))] (by decide +kernel) (Nat.le_of_ble_eq_true rfl) rfl ?_
  intro p e s m args below meth c cx htab
  unfold fX5_step
  refine r_iload_n (pc := 0) cx dX5_step_0 rfl ?_
  refine r_iconst (pc := 1) cx dX5_step_1 ?_
  refine r_sipush (pc := 2) (v := 200) cx dX5_step_2 (by decide +kernel) ?_
  refine r_pSi (pc := 5) cx (tX5_isOutside  p0 1 200 σ) qm_X5_isOutside qs_X5_isOutside wm_X5_74 dX5_step_5 rfl rfl (Nat.le_of_ble_eq_true rfl) ⟨Nat.le_of_ble_eq_true rfl, Nat.le_of_ble_eq_true rfl⟩ ⟨rfl, rfl⟩ ⟨Nat.zero_le _, Nat.zero_le _⟩ (fun r5 => ?_)
  refine r_if_eq (tgt := 19) cx dX5_step_8 (by decide) ?_ ?_
  · refine r_aload_n (pc := 19) cx dX5_step_19 rfl ?_
    refine r_get (pc := 20) cx hcl_X5 qc_X5 (lw0 hB) (j := 5) (by decide) wf_X5_112 dX5_step_20 (x := .int (qI (σ 0 5))) rfl ?_
    refine r_iload_n (pc := 23) cx dX5_step_23 rfl ?_
    refine r_iadd (pc := 24) cx dX5_step_24 ?_
    refine r_sipush (pc := 25) (v := 5000) cx dX5_step_25 (by decide +kernel) ?_
    refine r_icmp_le (tgt := 39) cx dX5_step_28 (by decide) ?_ ?_
    · refine r_aload_n (pc := 39) cx dX5_step_39 rfl ?_
      refine r_get (pc := 40) cx hcl_X5 qc_X5 (lw0 hB) (j := 0) (by decide) wf_X5_10 dX5_step_40 (x := .ref (ad 1)) rfl ?_
      refine r_pVNi (pc := 43) cx (tX3_isClosed hB (Or.inl rfl)  σ) qm_X3_isClosed qv_X3_isClosed hcl_X3 (lw1 hB) wn_X5_115 dX5_step_43 rfl rfl (Nat.le_of_ble_eq_true rfl) ⟨Nat.le_of_ble_eq_true rfl, Nat.le_of_ble_eq_true rfl⟩ ⟨rfl, rfl⟩ ⟨Nat.zero_le _, Nat.zero_le _⟩ (fun r43 => ?_)
      refine r_istore_n (pc := 46) cx dX5_step_46 (by decide) rfl ?_
      refine r_iconst (pc := 47) cx dX5_step_47 ?_
      refine r_istore_n (pc := 48) cx dX5_step_48 (by decide) rfl ?_
      exact qS.sub (qsub_cons rfl (qsub_cons rfl (qsub_cons rfl (qsub_cons rfl (qsub_nil _))))) (tX5_step_c49 cx hB hl htab _ _ _ _ _)
    · exact r_throw (w0 := w) (mc := 1) (ms := 6) (rk := qri) cx hl htab qt_qE3_54_56 (by rfl) (fun _ _ h => h) (Nat.le_of_ble_eq_true rfl) (Nat.le_of_ble_eq_true rfl) (Nat.le_of_ble_eq_true rfl) (Nat.le_of_ble_eq_true rfl) (Nat.le_of_ble_eq_true rfl) (Nat.le_of_ble_eq_true rfl) dX5_step_31 dX5_step_34 dX5_step_35 dX5_step_38 rfl
  · exact r_throw (w0 := w) (mc := 1) (ms := 6) (rk := qri) cx hl htab qt_qE2_71_73 (by rfl) (fun _ _ h => h) (Nat.le_of_ble_eq_true rfl) (Nat.le_of_ble_eq_true rfl) (Nat.le_of_ble_eq_true rfl) (Nat.le_of_ble_eq_true rfl) (Nat.le_of_ble_eq_true rfl) (Nat.le_of_ble_eq_true rfl) dX5_step_11 dX5_step_14 dX5_step_15 dX5_step_18 rfl
def fX5_back_c37 : Nat → Int → Int → qSt → Option (Int × Int × qSt)
  | 0, _, _, _ => none
  | f + 1, x1, x2, σ => (if qI x1 ≤ qI x2 then (some (0, (σ 0 5), σ)) else (qbd (fX3_undoStep 1 σ) fun (r46 : Int) (σ1 : qSt) => (qbd (fX1_loseLatest σ1) fun (r53 : Int) (σ2 : qSt) => (qb (qset σ2 0 5 ((σ2 0 5) - 1)) fun (σ3 : qSt) => (qb (qset σ3 0 6 ((σ3 0 6) - 1)) fun (σ4 : qSt) => (fX5_back_c37 f x1 (x2 + 1) σ4))))))
set_option maxRecDepth 100000 in
set_option maxHeartbeats 4000000 in
theorem tX5_back_c37 {p : Program} {l : Launch} {e : Env} {s : State} {m : MethodId} {args : Array Value} {below : List Frame} {meth : Method} {c : Code} {z0 : Nat} {g : qG} {w : qWd} {ad : Nat → Nat} (cx : qCx p s m meth c cX5_back 3 RX5 (some .int) g z0) (hB : qBC g ad w) (hl : l.stackTraces = false) (htab : ∀ x, x ∈ c.exceptionTable.toList → False) : ∀ (f : Nat) (x1 : Int) (x2 : Int) (σ : qSt), qS p l e qrx5 s m args below meth c 3 g z0 w 0 0 (qXQ below g z0 w qri args s 1 6) (fX5_back_c37 f x1 x2 σ) σ 37 [(0, some (.ref (ad 0))), (1, some (.int (qI x1))), (2, some (.int (qI x2)))] [] := by
  intro f
  induction f with
  | zero => exact fun _ _ _ => qS.fail
  | succ f ih =>
    intro x1 x2 σ
    unfold fX5_back_c37
    refine r_iload_n (pc := 37) cx dX5_back_37 rfl ?_
    refine r_iload_n (pc := 38) cx dX5_back_38 rfl ?_
    refine r_icmp_ge (tgt := 82) cx dX5_back_39 (by decide) ?_ ?_
    · refine r_aload_n (pc := 82) cx dX5_back_82 rfl ?_
      refine r_get (pc := 83) cx hcl_X5 qc_X5 (lw0 hB) (j := 5) (by decide) wf_X5_112 dX5_back_83 (x := .int (qI (σ 0 5))) rfl ?_
      exact r_xireturn (w0 := w) (fun _ _ h => h) (Nat.zero_le _) (Nat.zero_le _) cx dX5_back_86 rfl
    · refine r_aload_n (pc := 42) cx dX5_back_42 rfl ?_
      refine r_get (pc := 43) cx hcl_X5 qc_X5 (lw0 hB) (j := 0) (by decide) wf_X5_10 dX5_back_43 (x := .ref (ad 1)) rfl ?_
      refine r_dVNv (pc := 46) cx (tX3_undoStep hB (Or.inl rfl)  σ) qm_X3_undoStep qv_X3_undoStep hcl_X3 (lw1 hB) wn_X5_126 dX5_back_46 rfl rfl (Nat.le_of_ble_eq_true rfl) ⟨Nat.le_of_ble_eq_true rfl, Nat.le_of_ble_eq_true rfl⟩ ⟨rfl, rfl⟩ ⟨Nat.zero_le _, Nat.zero_le _⟩ (fun r46 σ1 => ?_)
      refine r_aload_n (pc := 49) cx dX5_back_49 rfl ?_
      refine r_get (pc := 50) cx hcl_X5 qc_X5 (lw0 hB) (j := 3) (by decide) wf_X5_29 dX5_back_50 (x := .ref (ad 38)) rfl ?_
      refine r_dVNv (pc := 53) cx (tX1_loseLatest hB  σ1) qm_X1_loseLatest qv_X1_loseLatest hcl_X1 (lw38 hB) wn_X5_129 dX5_back_53 rfl rfl (Nat.le_of_ble_eq_true rfl) ⟨Nat.le_of_ble_eq_true rfl, Nat.le_of_ble_eq_true rfl⟩ ⟨rfl, rfl⟩ ⟨Nat.zero_le _, Nat.zero_le _⟩ (fun r53 σ2 => ?_)
      refine r_aload_n (pc := 56) cx dX5_back_56 rfl ?_
      refine r_dup (pc := 57) cx dX5_back_57 rfl ?_
      refine r_get (pc := 58) cx hcl_X5 qc_X5 (lw0 hB) (j := 5) (by decide) wf_X5_112 dX5_back_58 (x := .int (qI (σ2 0 5))) rfl ?_
      refine r_iconst (pc := 61) cx dX5_back_61 ?_
      refine r_isub (pc := 62) cx dX5_back_62 ?_
      refine r_puti (pc := 63) (J := 5) cx hcl_X5 qc_X5 (lw0 hB) (j := 5) (by decide) tyX5_ok nmX5 wf_X5_112 rfl (by decide +kernel) rfl (Nat.le_of_ble_eq_true rfl) (fun r => rfl) dX5_back_63 (fun σ3 => ?_)
      refine r_aload_n (pc := 66) cx dX5_back_66 rfl ?_
      refine r_dup (pc := 67) cx dX5_back_67 rfl ?_
      refine r_get (pc := 68) cx hcl_X5 qc_X5 (lw0 hB) (j := 6) (by decide) wf_X5_63 dX5_back_68 (x := .int (qI (σ3 0 6))) rfl ?_
      refine r_iconst (pc := 71) cx dX5_back_71 ?_
      refine r_isub (pc := 72) cx dX5_back_72 ?_
      refine r_puti (pc := 73) (J := 6) cx hcl_X5 qc_X5 (lw0 hB) (j := 6) (by decide) tyX5_ok nmX5 wf_X5_63 rfl (by decide +kernel) rfl (Nat.le_of_ble_eq_true rfl) (fun r => rfl) dX5_back_73 (fun σ4 => ?_)
      refine r_iinc (pc := 76) cx dX5_back_76 rfl (by decide) rfl ?_
      refine r_goto (pc := 79) (tgt := 37) cx dX5_back_79 (by decide) ?_
      exact qS.sub (qsub_cons rfl (qsub_cons rfl (qsub_cons rfl (qsub_nil _)))) (ih _ _ _)
def fX5_back (p0 : Int) (σ : qSt) : Option (Int × Int × qSt) :=
  ((fX5_isOutside σ p0 1 200).bind fun (r5 : Int) => (if qI r5 = 0 then (if qI p0 ≤ qI (σ 0 6) then (fX5_back_c37 qFU p0 0 σ) else (some (3, 0, σ))) else (some (2, 0, σ))))
set_option maxRecDepth 100000 in
set_option maxHeartbeats 4000000 in
theorem tX5_back {l : Launch} {z0 : Nat} {g : qG} {w : qWd} {ad : Nat → Nat} (hB : qBC g ad w) (hl : l.stackTraces = false) (p0 : Int) (σ : qSt) : qXT l yX5_back cX5_back 3 (some .int) qrx5 g z0 w [.ref (ad 0), .int (qI p0)] σ (fX5_back p0 σ) qri := by
  refine qXT.of [(0, some (.ref (ad 0))), (1, some (.int (qI p0)))] (by decide +kernel) (Nat.le_of_ble_eq_true rfl) rfl ?_
  intro p e s m args below meth c cx htab
  unfold fX5_back
  refine r_iload_n (pc := 0) cx dX5_back_0 rfl ?_
  refine r_iconst (pc := 1) cx dX5_back_1 ?_
  refine r_sipush (pc := 2) (v := 200) cx dX5_back_2 (by decide +kernel) ?_
  refine r_pSi (pc := 5) cx (tX5_isOutside  p0 1 200 σ) qm_X5_isOutside qs_X5_isOutside wm_X5_74 dX5_back_5 rfl rfl (Nat.le_of_ble_eq_true rfl) ⟨Nat.le_of_ble_eq_true rfl, Nat.le_of_ble_eq_true rfl⟩ ⟨rfl, rfl⟩ ⟨Nat.zero_le _, Nat.zero_le _⟩ (fun r5 => ?_)
  refine r_if_eq (tgt := 19) cx dX5_back_8 (by decide) ?_ ?_
  · refine r_aload_n (pc := 19) cx dX5_back_19 rfl ?_
    refine r_get (pc := 20) cx hcl_X5 qc_X5 (lw0 hB) (j := 6) (by decide) wf_X5_63 dX5_back_20 (x := .int (qI (σ 0 6))) rfl ?_
    refine r_iload_n (pc := 23) cx dX5_back_23 rfl ?_
    refine r_icmp_ge (tgt := 35) cx dX5_back_24 (by decide) ?_ ?_
    · refine r_iconst (pc := 35) cx dX5_back_35 ?_
      refine r_istore_n (pc := 36) cx dX5_back_36 (by decide) rfl ?_
      exact qS.sub (qsub_cons rfl (qsub_cons rfl (qsub_cons rfl (qsub_nil _)))) (tX5_back_c37 cx hB hl htab _ _ _ _)
    · exact r_throw (w0 := w) (mc := 1) (ms := 6) (rk := qri) cx hl htab qt_qE3_54_56 (by rfl) (fun _ _ h => h) (Nat.le_of_ble_eq_true rfl) (Nat.le_of_ble_eq_true rfl) (Nat.le_of_ble_eq_true rfl) (Nat.le_of_ble_eq_true rfl) (Nat.le_of_ble_eq_true rfl) (Nat.le_of_ble_eq_true rfl) dX5_back_27 dX5_back_30 dX5_back_31 dX5_back_34 rfl
  · exact r_throw (w0 := w) (mc := 1) (ms := 6) (rk := qri) cx hl htab qt_qE2_71_73 (by rfl) (fun _ _ h => h) (Nat.le_of_ble_eq_true rfl) (Nat.le_of_ble_eq_true rfl) (Nat.le_of_ble_eq_true rfl) (Nat.le_of_ble_eq_true rfl) (Nat.le_of_ble_eq_true rfl) (Nat.le_of_ble_eq_true rfl) dX5_back_11 dX5_back_14 dX5_back_15 dX5_back_18 rfl
def fX5_flow_c20 : Nat → Int → Int → qSt → Option (Int × Int × qSt)
  | 0, _, _, _ => none
  | f + 1, x1, x2, σ => (if qI x1 ≤ qI x2 then (some (0, (σ 27 3), σ)) else (qbd (fX0_passRound σ) fun (r33 : Int) (σ1 : qSt) => (fX5_flow_c20 f x1 (x2 + 1) σ1)))
set_option maxRecDepth 100000 in
set_option maxHeartbeats 4000000 in
theorem tX5_flow_c20 {p : Program} {l : Launch} {e : Env} {s : State} {m : MethodId} {args : Array Value} {below : List Frame} {meth : Method} {c : Code} {z0 : Nat} {g : qG} {w : qWd} {ad : Nat → Nat} (cx : qCx p s m meth c cX5_flow 3 RX5 (some .long) g z0) (hB : qBC g ad w) (hl : l.stackTraces = false) (htab : ∀ x, x ∈ c.exceptionTable.toList → False) : ∀ (f : Nat) (x1 : Int) (x2 : Int) (σ : qSt), qS p l e qrx4 s m args below meth c 3 g z0 w 0 0 (qXQ below g z0 w qrj args s 1 6) (fX5_flow_c20 f x1 x2 σ) σ 20 [(0, some (.ref (ad 0))), (1, some (.int (qI x1))), (2, some (.int (qI x2)))] [] := by
  intro f
  induction f with
  | zero => exact fun _ _ _ => qS.fail
  | succ f ih =>
    intro x1 x2 σ
    unfold fX5_flow_c20
    refine r_iload_n (pc := 20) cx dX5_flow_20 rfl ?_
    refine r_iload_n (pc := 21) cx dX5_flow_21 rfl ?_
    refine r_icmp_ge (tgt := 42) cx dX5_flow_22 (by decide) ?_ ?_
    · refine r_aload_n (pc := 42) cx dX5_flow_42 rfl ?_
      refine r_get (pc := 43) cx hcl_X5 qc_X5 (lw0 hB) (j := 2) (by decide) wf_X5_22 dX5_flow_43 (x := .ref (ad 27)) rfl ?_
      refine r_getN (pc := 46) cx hcl_X0 qc_X0 (lw27 hB) (j := 3) (by decide) wg_X5_135 dX5_flow_46 (x := .long (qJ (σ 27 3))) rfl ?_
      exact r_xlreturn (w0 := w) (fun _ _ h => h) (Nat.zero_le _) (Nat.zero_le _) cx dX5_flow_49 rfl
    · refine r_aload_n (pc := 25) cx dX5_flow_25 rfl ?_
      refine r_get (pc := 26) cx hcl_X5 qc_X5 (lw0 hB) (j := 2) (by decide) wf_X5_22 dX5_flow_26 (x := .ref (ad 27)) rfl ?_
      refine r_aload_n (pc := 29) cx dX5_flow_29 rfl ?_
      refine r_get (pc := 30) cx hcl_X5 qc_X5 (lw0 hB) (j := 0) (by decide) wf_X5_10 dX5_flow_30 (x := .ref (ad 1)) rfl ?_
      refine r_dVNv (pc := 33) cx (tX0_passRound hB  σ) qm_X0_passRound qv_X0_passRound hcl_X0 (lw27 hB) wn_X5_132 dX5_flow_33 rfl rfl (Nat.le_of_ble_eq_true rfl) ⟨Nat.le_of_ble_eq_true rfl, Nat.le_of_ble_eq_true rfl⟩ ⟨rfl, rfl⟩ ⟨Nat.zero_le _, Nat.zero_le _⟩ (fun r33 σ1 => ?_)
      refine r_iinc (pc := 36) cx dX5_flow_36 rfl (by decide) rfl ?_
      refine r_goto (pc := 39) (tgt := 20) cx dX5_flow_39 (by decide) ?_
      exact qS.sub (qsub_cons rfl (qsub_cons rfl (qsub_cons rfl (qsub_nil _)))) (ih _ _ _)
def fX5_flow (p0 : Int) (σ : qSt) : Option (Int × Int × qSt) :=
  ((fX5_isOutside σ p0 1 100).bind fun (r4 : Int) => (if qI r4 = 0 then (fX5_flow_c20 qFU p0 0 σ) else (some (2, 0, σ))))
set_option maxRecDepth 100000 in
set_option maxHeartbeats 4000000 in
theorem tX5_flow {l : Launch} {z0 : Nat} {g : qG} {w : qWd} {ad : Nat → Nat} (hB : qBC g ad w) (hl : l.stackTraces = false) (p0 : Int) (σ : qSt) : qXT l yX5_flow cX5_flow 3 (some .long) qrx4 g z0 w [.ref (ad 0), .int (qI p0)] σ (fX5_flow p0 σ) qrj := by
  refine qXT.of [(0, some (.ref (ad 0))), (1, some (.int (qI p0)))] (by decide +kernel) (Nat.le_of_ble_eq_true rfl) rfl ?_
  intro p e s m args below meth c cx htab
  unfold fX5_flow
  refine r_iload_n (pc := 0) cx dX5_flow_0 rfl ?_
  refine r_iconst (pc := 1) cx dX5_flow_1 ?_
  refine r_bipush (pc := 2) (v := 100) cx dX5_flow_2 (by decide +kernel) ?_
  refine r_pSi (pc := 4) cx (tX5_isOutside  p0 1 100 σ) qm_X5_isOutside qs_X5_isOutside wm_X5_74 dX5_flow_4 rfl rfl (Nat.le_of_ble_eq_true rfl) ⟨Nat.le_of_ble_eq_true rfl, Nat.le_of_ble_eq_true rfl⟩ ⟨rfl, rfl⟩ ⟨Nat.zero_le _, Nat.zero_le _⟩ (fun r4 => ?_)
  refine r_if_eq (tgt := 18) cx dX5_flow_7 (by decide) ?_ ?_
  · refine r_iconst (pc := 18) cx dX5_flow_18 ?_
    refine r_istore_n (pc := 19) cx dX5_flow_19 (by decide) rfl ?_
    exact qS.sub (qsub_cons rfl (qsub_cons rfl (qsub_cons rfl (qsub_nil _)))) (tX5_flow_c20 cx hB hl htab _ _ _ _)
  · exact r_throw (w0 := w) (mc := 1) (ms := 6) (rk := qrj) cx hl htab qt_qE2_71_73 (by rfl) (fun _ _ h => h) (Nat.le_of_ble_eq_true rfl) (Nat.le_of_ble_eq_true rfl) (Nat.le_of_ble_eq_true rfl) (Nat.le_of_ble_eq_true rfl) (Nat.le_of_ble_eq_true rfl) (Nat.le_of_ble_eq_true rfl) dX5_flow_10 dX5_flow_13 dX5_flow_14 dX5_flow_17 rfl
def fX5_cellOf (p0 : Int) (p1 : Int) (σ : qSt) : Option (Int × Int × qSt) :=
  ((fX5_isNoCell σ p0).bind fun (r1 : Int) => (if qI r1 = 0 then (if qI p1 = qI 0 then (if 0 ≤ p0 ∧ p0 < 96 then (some (0, (σ 2 p0), σ)) else none) else (if qI p1 = qI 1 then (if 0 ≤ p0 ∧ p0 < 96 then (some (0, (σ 3 p0), σ)) else none) else (if qI p1 = qI 2 then (if 0 ≤ p0 ∧ p0 < 96 then (some (0, (σ 4 p0), σ)) else none) else (if qI p1 = qI 3 then (if 0 ≤ p0 ∧ p0 < 96 then (some (0, (σ 5 p0), σ)) else none) else (if qI p1 = qI 4 then (if 0 ≤ (p1 - 4) ∧ (p1 - 4) < 4 then (if 0 ≤ p0 ∧ p0 < 96 then (some (0, (σ (30 + Int.toNat (p1 - 4)) p0), σ)) else none) else none) else (if qI p1 = qI 5 then (if 0 ≤ (p1 - 4) ∧ (p1 - 4) < 4 then (if 0 ≤ p0 ∧ p0 < 96 then (some (0, (σ (30 + Int.toNat (p1 - 4)) p0), σ)) else none) else none) else (if qI p1 = qI 6 then (if 0 ≤ (p1 - 4) ∧ (p1 - 4) < 4 then (if 0 ≤ p0 ∧ p0 < 96 then (some (0, (σ (30 + Int.toNat (p1 - 4)) p0), σ)) else none) else none) else (if qI p1 = qI 7 then (if 0 ≤ (p1 - 4) ∧ (p1 - 4) < 4 then (if 0 ≤ p0 ∧ p0 < 96 then (some (0, (σ (30 + Int.toNat (p1 - 4)) p0), σ)) else none) else none) else (some (2, 0, σ)))))))))) else (some (1, 0, σ))))
set_option maxRecDepth 100000 in
set_option maxHeartbeats 4000000 in
theorem tX5_cellOf {l : Launch} {z0 : Nat} {g : qG} {w : qWd} {ad : Nat → Nat} (hB : qBC g ad w) (hl : l.stackTraces = false) (p0 : Int) (p1 : Int) (σ : qSt) : qXT l yX5_cellOf cX5_cellOf 3 (some .int) qrx1 g z0 w [.ref (ad 0), .int (qI p0), .int (qI p1)] σ (fX5_cellOf p0 p1 σ) qri := by
  refine qXT.of [(0, some (.ref (ad 0))), (1, some (.int (qI p0))), (2, some (.int (qI p1)))] (by decide +kernel) (Nat.le_of_ble_eq_true rfl) rfl ?_
  intro p e s m args below meth c cx htab
  unfold fX5_cellOf
  refine r_iload_n (pc := 0) cx dX5_cellOf_0 rfl ?_
  refine r_pSi (pc := 1) cx (tX5_isNoCell  p0 σ) qm_X5_isNoCell qs_X5_isNoCell wm_X5_37 dX5_cellOf_1 rfl rfl (Nat.le_of_ble_eq_true rfl) ⟨Nat.le_of_ble_eq_true rfl, Nat.le_of_ble_eq_true rfl⟩ ⟨rfl, rfl⟩ ⟨Nat.zero_le _, Nat.zero_le _⟩ (fun r1 => ?_)
  refine r_if_eq (tgt := 15) cx dX5_cellOf_4 (by decide) ?_ ?_
  · refine r_iload_n (pc := 15) cx dX5_cellOf_15 rfl ?_
    refine qS.ite (fun hs0 => ?_) (fun hs0 => ?_)
    · refine r_tsw (lo0 := 0) (j := 0) (tgt := 64) cx hs0 dX5_cellOf_16 (by decide +kernel) (by decide) rfl (by decide) ?_
      refine r_aload_n (pc := 64) cx dX5_cellOf_64 rfl ?_
      refine r_get (pc := 65) cx hcl_X5 qc_X5 (lw0 hB) (j := 0) (by decide) wf_X5_10 dX5_cellOf_65 (x := .ref (ad 1)) rfl ?_
      refine r_getN (pc := 68) cx hcl_X3 qc_X3 (lw1 hB) (j := 0) (by decide) wg_X5_57 dX5_cellOf_68 (x := .ref (ad 2)) rfl ?_
      refine r_iload_n (pc := 71) cx dX5_cellOf_71 rfl ?_
      refine r_iaload (pc := 72) cx (lw2 hB) rfl (by decide) dX5_cellOf_72 ?_
      exact r_xireturn (w0 := w) (fun _ _ h => h) (Nat.zero_le _) (Nat.zero_le _) cx dX5_cellOf_73 rfl
    refine qS.ite (fun hs1 => ?_) (fun hs1 => ?_)
    · refine r_tsw (lo0 := 0) (j := 1) (tgt := 74) cx hs1 dX5_cellOf_16 (by decide +kernel) (by decide) rfl (by decide) ?_
      refine r_aload_n (pc := 74) cx dX5_cellOf_74 rfl ?_
      refine r_get (pc := 75) cx hcl_X5 qc_X5 (lw0 hB) (j := 0) (by decide) wf_X5_10 dX5_cellOf_75 (x := .ref (ad 1)) rfl ?_
      refine r_getN (pc := 78) cx hcl_X3 qc_X3 (lw1 hB) (j := 1) (by decide) wg_X5_60 dX5_cellOf_78 (x := .ref (ad 3)) rfl ?_
      refine r_iload_n (pc := 81) cx dX5_cellOf_81 rfl ?_
      refine r_iaload (pc := 82) cx (lw3 hB) rfl (by decide) dX5_cellOf_82 ?_
      exact r_xireturn (w0 := w) (fun _ _ h => h) (Nat.zero_le _) (Nat.zero_le _) cx dX5_cellOf_83 rfl
    refine qS.ite (fun hs2 => ?_) (fun hs2 => ?_)
    · refine r_tsw (lo0 := 0) (j := 2) (tgt := 84) cx hs2 dX5_cellOf_16 (by decide +kernel) (by decide) rfl (by decide) ?_
      refine r_aload_n (pc := 84) cx dX5_cellOf_84 rfl ?_
      refine r_get (pc := 85) cx hcl_X5 qc_X5 (lw0 hB) (j := 0) (by decide) wf_X5_10 dX5_cellOf_85 (x := .ref (ad 1)) rfl ?_
      refine r_getN (pc := 88) cx hcl_X3 qc_X3 (lw1 hB) (j := 2) (by decide) wg_X5_78 dX5_cellOf_88 (x := .ref (ad 4)) rfl ?_
      refine r_iload_n (pc := 91) cx dX5_cellOf_91 rfl ?_
      refine r_iaload (pc := 92) cx (lw4 hB) rfl (by decide) dX5_cellOf_92 ?_
      exact r_xireturn (w0 := w) (fun _ _ h => h) (Nat.zero_le _) (Nat.zero_le _) cx dX5_cellOf_93 rfl
    refine qS.ite (fun hs3 => ?_) (fun hs3 => ?_)
    · refine r_tsw (lo0 := 0) (j := 3) (tgt := 94) cx hs3 dX5_cellOf_16 (by decide +kernel) (by decide) rfl (by decide) ?_
      refine r_aload_n (pc := 94) cx dX5_cellOf_94 rfl ?_
      refine r_get (pc := 95) cx hcl_X5 qc_X5 (lw0 hB) (j := 0) (by decide) wf_X5_10 dX5_cellOf_95 (x := .ref (ad 1)) rfl ?_
      refine r_getN (pc := 98) cx hcl_X3 qc_X3 (lw1 hB) (j := 3) (by decide) wg_X5_89 dX5_cellOf_98 (x := .ref (ad 5)) rfl ?_
      refine r_iload_n (pc := 101) cx dX5_cellOf_101 rfl ?_
      refine r_iaload (pc := 102) cx (lw5 hB) rfl (by decide) dX5_cellOf_102 ?_
      exact r_xireturn (w0 := w) (fun _ _ h => h) (Nat.zero_le _) (Nat.zero_le _) cx dX5_cellOf_103 rfl
    refine qS.ite (fun hs4 => ?_) (fun hs4 => ?_)
    · refine r_tsw (lo0 := 0) (j := 4) (tgt := 104) cx hs4 dX5_cellOf_16 (by decide +kernel) (by decide) rfl (by decide) ?_
      refine r_aload_n (pc := 104) cx dX5_cellOf_104 rfl ?_
      refine r_get (pc := 105) cx hcl_X5 qc_X5 (lw0 hB) (j := 2) (by decide) wf_X5_22 dX5_cellOf_105 (x := .ref (ad 27)) rfl ?_
      refine r_getN (pc := 108) cx hcl_X0 qc_X0 (lw27 hB) (j := 0) (by decide) wg_X5_108 dX5_cellOf_108 (x := .ref (ad 28)) rfl ?_
      refine r_iload_n (pc := 111) cx dX5_cellOf_111 rfl ?_
      refine r_iconst (pc := 112) cx dX5_cellOf_112 ?_
      refine r_isub (pc := 113) cx dX5_cellOf_113 ?_
      refine r_aaload2 (pc := 114) cx (lw28 hB) rfl (by decide) dX5_cellOf_114 (fun h114 => ?_)
      refine r_iload_n (pc := 115) cx dX5_cellOf_115 rfl ?_
      refine r_iaload (pc := 116) cx (lw_rows hB h114) rfl (by decide) dX5_cellOf_116 ?_
      exact r_xireturn (w0 := w) (fun _ _ h => h) (Nat.zero_le _) (Nat.zero_le _) cx dX5_cellOf_117 rfl
    refine qS.ite (fun hs5 => ?_) (fun hs5 => ?_)
    · refine r_tsw (lo0 := 0) (j := 5) (tgt := 104) cx hs5 dX5_cellOf_16 (by decide +kernel) (by decide) rfl (by decide) ?_
      refine r_aload_n (pc := 104) cx dX5_cellOf_104 rfl ?_
      refine r_get (pc := 105) cx hcl_X5 qc_X5 (lw0 hB) (j := 2) (by decide) wf_X5_22 dX5_cellOf_105 (x := .ref (ad 27)) rfl ?_
      refine r_getN (pc := 108) cx hcl_X0 qc_X0 (lw27 hB) (j := 0) (by decide) wg_X5_108 dX5_cellOf_108 (x := .ref (ad 28)) rfl ?_
      refine r_iload_n (pc := 111) cx dX5_cellOf_111 rfl ?_
      refine r_iconst (pc := 112) cx dX5_cellOf_112 ?_
      refine r_isub (pc := 113) cx dX5_cellOf_113 ?_
      refine r_aaload2 (pc := 114) cx (lw28 hB) rfl (by decide) dX5_cellOf_114 (fun h114 => ?_)
      refine r_iload_n (pc := 115) cx dX5_cellOf_115 rfl ?_
      refine r_iaload (pc := 116) cx (lw_rows hB h114) rfl (by decide) dX5_cellOf_116 ?_
      exact r_xireturn (w0 := w) (fun _ _ h => h) (Nat.zero_le _) (Nat.zero_le _) cx dX5_cellOf_117 rfl
    refine qS.ite (fun hs6 => ?_) (fun hs6 => ?_)
    · refine r_tsw (lo0 := 0) (j := 6) (tgt := 104) cx hs6 dX5_cellOf_16 (by decide +kernel) (by decide) rfl (by decide) ?_
      refine r_aload_n (pc := 104) cx dX5_cellOf_104 rfl ?_
      refine r_get (pc := 105) cx hcl_X5 qc_X5 (lw0 hB) (j := 2) (by decide) wf_X5_22 dX5_cellOf_105 (x := .ref (ad 27)) rfl ?_
      refine r_getN (pc := 108) cx hcl_X0 qc_X0 (lw27 hB) (j := 0) (by decide) wg_X5_108 dX5_cellOf_108 (x := .ref (ad 28)) rfl ?_
      refine r_iload_n (pc := 111) cx dX5_cellOf_111 rfl ?_
      refine r_iconst (pc := 112) cx dX5_cellOf_112 ?_
      refine r_isub (pc := 113) cx dX5_cellOf_113 ?_
      refine r_aaload2 (pc := 114) cx (lw28 hB) rfl (by decide) dX5_cellOf_114 (fun h114 => ?_)
      refine r_iload_n (pc := 115) cx dX5_cellOf_115 rfl ?_
      refine r_iaload (pc := 116) cx (lw_rows hB h114) rfl (by decide) dX5_cellOf_116 ?_
      exact r_xireturn (w0 := w) (fun _ _ h => h) (Nat.zero_le _) (Nat.zero_le _) cx dX5_cellOf_117 rfl
    refine qS.ite (fun hs7 => ?_) (fun hs7 => ?_)
    · refine r_tsw (lo0 := 0) (j := 7) (tgt := 104) cx hs7 dX5_cellOf_16 (by decide +kernel) (by decide) rfl (by decide) ?_
      refine r_aload_n (pc := 104) cx dX5_cellOf_104 rfl ?_
      refine r_get (pc := 105) cx hcl_X5 qc_X5 (lw0 hB) (j := 2) (by decide) wf_X5_22 dX5_cellOf_105 (x := .ref (ad 27)) rfl ?_
      refine r_getN (pc := 108) cx hcl_X0 qc_X0 (lw27 hB) (j := 0) (by decide) wg_X5_108 dX5_cellOf_108 (x := .ref (ad 28)) rfl ?_
      refine r_iload_n (pc := 111) cx dX5_cellOf_111 rfl ?_
      refine r_iconst (pc := 112) cx dX5_cellOf_112 ?_
      refine r_isub (pc := 113) cx dX5_cellOf_113 ?_
      refine r_aaload2 (pc := 114) cx (lw28 hB) rfl (by decide) dX5_cellOf_114 (fun h114 => ?_)
      refine r_iload_n (pc := 115) cx dX5_cellOf_115 rfl ?_
      refine r_iaload (pc := 116) cx (lw_rows hB h114) rfl (by decide) dX5_cellOf_116 ?_
      exact r_xireturn (w0 := w) (fun _ _ h => h) (Nat.zero_le _) (Nat.zero_le _) cx dX5_cellOf_117 rfl
    refine r_tswd (tgt := 118) cx dX5_cellOf_16 (q_nsw (N := 8) (by decide) (fun j hj => by match j, hj with | 0, _ => exact hs0 | 1, _ => exact hs1 | 2, _ => exact hs2 | 3, _ => exact hs3 | 4, _ => exact hs4 | 5, _ => exact hs5 | 6, _ => exact hs6 | 7, _ => exact hs7)) (by decide) ?_
    exact r_throw (w0 := w) (mc := 1) (ms := 6) (rk := qri) cx hl htab qt_qE2_71_73 (by rfl) (fun _ _ h => h) (Nat.le_of_ble_eq_true rfl) (Nat.le_of_ble_eq_true rfl) (Nat.le_of_ble_eq_true rfl) (Nat.le_of_ble_eq_true rfl) (Nat.le_of_ble_eq_true rfl) (Nat.le_of_ble_eq_true rfl) dX5_cellOf_118 dX5_cellOf_121 dX5_cellOf_122 dX5_cellOf_125 rfl
  · exact r_throw (w0 := w) (mc := 1) (ms := 6) (rk := qri) cx hl htab qt_qE1_44_46 (by rfl) (fun _ _ h => h) (Nat.le_of_ble_eq_true rfl) (Nat.le_of_ble_eq_true rfl) (Nat.le_of_ble_eq_true rfl) (Nat.le_of_ble_eq_true rfl) (Nat.le_of_ble_eq_true rfl) (Nat.le_of_ble_eq_true rfl) dX5_cellOf_7 dX5_cellOf_10 dX5_cellOf_11 dX5_cellOf_14 rfl
def fX5_bodyOf (p0 : Int) (p1 : Int) (σ : qSt) : Option (Int × Int × qSt) :=
  ((fX5_isNoBody σ p0).bind fun (r1 : Int) => (if qI r1 = 0 then (if qI p1 = qI 0 then ((fX3_cellsOfBody 1 σ p0).bind fun (r61 : Int) => (some (0, r61, σ))) else (if qI p1 = qI 1 then (if 0 ≤ p0 ∧ p0 < 4 then (some (0, (σ 8 p0), σ)) else none) else (if qI p1 = qI 2 then (if 0 ≤ p0 ∧ p0 < 4 then (some (0, (σ 9 p0), σ)) else none) else (if qI p1 = qI 3 then (if 0 ≤ p0 ∧ p0 < 4 then (some (0, (σ 10 p0), σ)) else none) else (if qI p1 = qI 4 then (if 0 ≤ p0 ∧ p0 < 4 then (if 0 ≤ p0 ∧ p0 < 4 then (if 0 ≤ p0 ∧ p0 < 4 then (some (0, ((σ 9 p0) + ((σ 46 p0) * (σ 8 p0))), σ)) else none) else none) else none) else (if qI p1 = qI 5 then (if 0 ≤ p0 ∧ p0 < 4 then (if 0 ≤ p0 ∧ p0 < 4 then (if 0 ≤ p0 ∧ p0 < 4 then (some (0, ((σ 10 p0) + ((σ 46 p0) * (σ 8 p0))), σ)) else none) else none) else none) else (some (2, 0, σ)))))))) else (some (1, 0, σ))))
set_option maxRecDepth 100000 in
set_option maxHeartbeats 4000000 in
theorem tX5_bodyOf {l : Launch} {z0 : Nat} {g : qG} {w : qWd} {ad : Nat → Nat} (hB : qBC g ad w) (hl : l.stackTraces = false) (p0 : Int) (p1 : Int) (σ : qSt) : qXT l yX5_bodyOf cX5_bodyOf 3 (some .int) qrx1 g z0 w [.ref (ad 0), .int (qI p0), .int (qI p1)] σ (fX5_bodyOf p0 p1 σ) qri := by
  refine qXT.of [(0, some (.ref (ad 0))), (1, some (.int (qI p0))), (2, some (.int (qI p1)))] (by decide +kernel) (Nat.le_of_ble_eq_true rfl) rfl ?_
  intro p e s m args below meth c cx htab
  unfold fX5_bodyOf
  refine r_iload_n (pc := 0) cx dX5_bodyOf_0 rfl ?_
  refine r_pSi (pc := 1) cx (tX5_isNoBody  p0 σ) qm_X5_isNoBody qs_X5_isNoBody wm_X5_41 dX5_bodyOf_1 rfl rfl (Nat.le_of_ble_eq_true rfl) ⟨Nat.le_of_ble_eq_true rfl, Nat.le_of_ble_eq_true rfl⟩ ⟨rfl, rfl⟩ ⟨Nat.zero_le _, Nat.zero_le _⟩ (fun r1 => ?_)
  refine r_if_eq (tgt := 15) cx dX5_bodyOf_4 (by decide) ?_ ?_
  · refine r_iload_n (pc := 15) cx dX5_bodyOf_15 rfl ?_
    refine qS.ite (fun hs0 => ?_) (fun hs0 => ?_)
    · refine r_tsw (lo0 := 0) (j := 0) (tgt := 56) cx hs0 dX5_bodyOf_16 (by decide +kernel) (by decide) rfl (by decide) ?_
      refine r_aload_n (pc := 56) cx dX5_bodyOf_56 rfl ?_
      refine r_get (pc := 57) cx hcl_X5 qc_X5 (lw0 hB) (j := 0) (by decide) wf_X5_10 dX5_bodyOf_57 (x := .ref (ad 1)) rfl ?_
      refine r_iload_n (pc := 60) cx dX5_bodyOf_60 rfl ?_
      refine r_pVNi (pc := 61) cx (tX3_cellsOfBody hB (Or.inl rfl) p0 σ) qm_X3_cellsOfBody qv_X3_cellsOfBody hcl_X3 (lw1 hB) wn_X5_50 dX5_bodyOf_61 rfl rfl (Nat.le_of_ble_eq_true rfl) ⟨Nat.le_of_ble_eq_true rfl, Nat.le_of_ble_eq_true rfl⟩ ⟨rfl, rfl⟩ ⟨Nat.zero_le _, Nat.zero_le _⟩ (fun r61 => ?_)
      exact r_xireturn (w0 := w) (fun _ _ h => h) (Nat.zero_le _) (Nat.zero_le _) cx dX5_bodyOf_64 rfl
    refine qS.ite (fun hs1 => ?_) (fun hs1 => ?_)
    · refine r_tsw (lo0 := 0) (j := 1) (tgt := 65) cx hs1 dX5_bodyOf_16 (by decide +kernel) (by decide) rfl (by decide) ?_
      refine r_aload_n (pc := 65) cx dX5_bodyOf_65 rfl ?_
      refine r_get (pc := 66) cx hcl_X5 qc_X5 (lw0 hB) (j := 0) (by decide) wf_X5_10 dX5_bodyOf_66 (x := .ref (ad 1)) rfl ?_
      refine r_getN (pc := 69) cx hcl_X3 qc_X3 (lw1 hB) (j := 6) (by decide) wg_X5_139 dX5_bodyOf_69 (x := .ref (ad 8)) rfl ?_
      refine r_iload_n (pc := 72) cx dX5_bodyOf_72 rfl ?_
      refine r_iaload (pc := 73) cx (lw8 hB) rfl (by decide) dX5_bodyOf_73 ?_
      exact r_xireturn (w0 := w) (fun _ _ h => h) (Nat.zero_le _) (Nat.zero_le _) cx dX5_bodyOf_74 rfl
    refine qS.ite (fun hs2 => ?_) (fun hs2 => ?_)
    · refine r_tsw (lo0 := 0) (j := 2) (tgt := 75) cx hs2 dX5_bodyOf_16 (by decide +kernel) (by decide) rfl (by decide) ?_
      refine r_aload_n (pc := 75) cx dX5_bodyOf_75 rfl ?_
      refine r_get (pc := 76) cx hcl_X5 qc_X5 (lw0 hB) (j := 0) (by decide) wf_X5_10 dX5_bodyOf_76 (x := .ref (ad 1)) rfl ?_
      refine r_getN (pc := 79) cx hcl_X3 qc_X3 (lw1 hB) (j := 7) (by decide) wg_X5_142 dX5_bodyOf_79 (x := .ref (ad 9)) rfl ?_
      refine r_iload_n (pc := 82) cx dX5_bodyOf_82 rfl ?_
      refine r_iaload (pc := 83) cx (lw9 hB) rfl (by decide) dX5_bodyOf_83 ?_
      exact r_xireturn (w0 := w) (fun _ _ h => h) (Nat.zero_le _) (Nat.zero_le _) cx dX5_bodyOf_84 rfl
    refine qS.ite (fun hs3 => ?_) (fun hs3 => ?_)
    · refine r_tsw (lo0 := 0) (j := 3) (tgt := 85) cx hs3 dX5_bodyOf_16 (by decide +kernel) (by decide) rfl (by decide) ?_
      refine r_aload_n (pc := 85) cx dX5_bodyOf_85 rfl ?_
      refine r_get (pc := 86) cx hcl_X5 qc_X5 (lw0 hB) (j := 0) (by decide) wf_X5_10 dX5_bodyOf_86 (x := .ref (ad 1)) rfl ?_
      refine r_getN (pc := 89) cx hcl_X3 qc_X3 (lw1 hB) (j := 8) (by decide) wg_X5_145 dX5_bodyOf_89 (x := .ref (ad 10)) rfl ?_
      refine r_iload_n (pc := 92) cx dX5_bodyOf_92 rfl ?_
      refine r_iaload (pc := 93) cx (lw10 hB) rfl (by decide) dX5_bodyOf_93 ?_
      exact r_xireturn (w0 := w) (fun _ _ h => h) (Nat.zero_le _) (Nat.zero_le _) cx dX5_bodyOf_94 rfl
    refine qS.ite (fun hs4 => ?_) (fun hs4 => ?_)
    · refine r_tsw (lo0 := 0) (j := 4) (tgt := 95) cx hs4 dX5_bodyOf_16 (by decide +kernel) (by decide) rfl (by decide) ?_
      refine r_aload_n (pc := 95) cx dX5_bodyOf_95 rfl ?_
      refine r_get (pc := 96) cx hcl_X5 qc_X5 (lw0 hB) (j := 0) (by decide) wf_X5_10 dX5_bodyOf_96 (x := .ref (ad 1)) rfl ?_
      refine r_getN (pc := 99) cx hcl_X3 qc_X3 (lw1 hB) (j := 7) (by decide) wg_X5_142 dX5_bodyOf_99 (x := .ref (ad 9)) rfl ?_
      refine r_iload_n (pc := 102) cx dX5_bodyOf_102 rfl ?_
      refine r_iaload (pc := 103) cx (lw9 hB) rfl (by decide) dX5_bodyOf_103 ?_
      refine r_aload_n (pc := 104) cx dX5_bodyOf_104 rfl ?_
      refine r_get (pc := 105) cx hcl_X5 qc_X5 (lw0 hB) (j := 4) (by decide) wf_X5_33 dX5_bodyOf_105 (x := .ref (ad 46)) rfl ?_
      refine r_iload_n (pc := 108) cx dX5_bodyOf_108 rfl ?_
      refine r_iaload (pc := 109) cx (lw46 hB) rfl (by decide) dX5_bodyOf_109 ?_
      refine r_aload_n (pc := 110) cx dX5_bodyOf_110 rfl ?_
      refine r_get (pc := 111) cx hcl_X5 qc_X5 (lw0 hB) (j := 0) (by decide) wf_X5_10 dX5_bodyOf_111 (x := .ref (ad 1)) rfl ?_
      refine r_getN (pc := 114) cx hcl_X3 qc_X3 (lw1 hB) (j := 6) (by decide) wg_X5_139 dX5_bodyOf_114 (x := .ref (ad 8)) rfl ?_
      refine r_iload_n (pc := 117) cx dX5_bodyOf_117 rfl ?_
      refine r_iaload (pc := 118) cx (lw8 hB) rfl (by decide) dX5_bodyOf_118 ?_
      refine r_imul (pc := 119) cx dX5_bodyOf_119 ?_
      refine r_iadd (pc := 120) cx dX5_bodyOf_120 ?_
      exact r_xireturn (w0 := w) (fun _ _ h => h) (Nat.zero_le _) (Nat.zero_le _) cx dX5_bodyOf_121 rfl
    refine qS.ite (fun hs5 => ?_) (fun hs5 => ?_)
    · refine r_tsw (lo0 := 0) (j := 5) (tgt := 122) cx hs5 dX5_bodyOf_16 (by decide +kernel) (by decide) rfl (by decide) ?_
      refine r_aload_n (pc := 122) cx dX5_bodyOf_122 rfl ?_
      refine r_get (pc := 123) cx hcl_X5 qc_X5 (lw0 hB) (j := 0) (by decide) wf_X5_10 dX5_bodyOf_123 (x := .ref (ad 1)) rfl ?_
      refine r_getN (pc := 126) cx hcl_X3 qc_X3 (lw1 hB) (j := 8) (by decide) wg_X5_145 dX5_bodyOf_126 (x := .ref (ad 10)) rfl ?_
      refine r_iload_n (pc := 129) cx dX5_bodyOf_129 rfl ?_
      refine r_iaload (pc := 130) cx (lw10 hB) rfl (by decide) dX5_bodyOf_130 ?_
      refine r_aload_n (pc := 131) cx dX5_bodyOf_131 rfl ?_
      refine r_get (pc := 132) cx hcl_X5 qc_X5 (lw0 hB) (j := 4) (by decide) wf_X5_33 dX5_bodyOf_132 (x := .ref (ad 46)) rfl ?_
      refine r_iload_n (pc := 135) cx dX5_bodyOf_135 rfl ?_
      refine r_iaload (pc := 136) cx (lw46 hB) rfl (by decide) dX5_bodyOf_136 ?_
      refine r_aload_n (pc := 137) cx dX5_bodyOf_137 rfl ?_
      refine r_get (pc := 138) cx hcl_X5 qc_X5 (lw0 hB) (j := 0) (by decide) wf_X5_10 dX5_bodyOf_138 (x := .ref (ad 1)) rfl ?_
      refine r_getN (pc := 141) cx hcl_X3 qc_X3 (lw1 hB) (j := 6) (by decide) wg_X5_139 dX5_bodyOf_141 (x := .ref (ad 8)) rfl ?_
      refine r_iload_n (pc := 144) cx dX5_bodyOf_144 rfl ?_
      refine r_iaload (pc := 145) cx (lw8 hB) rfl (by decide) dX5_bodyOf_145 ?_
      refine r_imul (pc := 146) cx dX5_bodyOf_146 ?_
      refine r_iadd (pc := 147) cx dX5_bodyOf_147 ?_
      exact r_xireturn (w0 := w) (fun _ _ h => h) (Nat.zero_le _) (Nat.zero_le _) cx dX5_bodyOf_148 rfl
    refine r_tswd (tgt := 149) cx dX5_bodyOf_16 (q_nsw (N := 6) (by decide) (fun j hj => by match j, hj with | 0, _ => exact hs0 | 1, _ => exact hs1 | 2, _ => exact hs2 | 3, _ => exact hs3 | 4, _ => exact hs4 | 5, _ => exact hs5)) (by decide) ?_
    exact r_throw (w0 := w) (mc := 1) (ms := 6) (rk := qri) cx hl htab qt_qE2_71_73 (by rfl) (fun _ _ h => h) (Nat.le_of_ble_eq_true rfl) (Nat.le_of_ble_eq_true rfl) (Nat.le_of_ble_eq_true rfl) (Nat.le_of_ble_eq_true rfl) (Nat.le_of_ble_eq_true rfl) (Nat.le_of_ble_eq_true rfl) dX5_bodyOf_149 dX5_bodyOf_152 dX5_bodyOf_153 dX5_bodyOf_156 rfl
  · exact r_throw (w0 := w) (mc := 1) (ms := 6) (rk := qri) cx hl htab qt_qE1_44_46 (by rfl) (fun _ _ h => h) (Nat.le_of_ble_eq_true rfl) (Nat.le_of_ble_eq_true rfl) (Nat.le_of_ble_eq_true rfl) (Nat.le_of_ble_eq_true rfl) (Nat.le_of_ble_eq_true rfl) (Nat.le_of_ble_eq_true rfl) dX5_bodyOf_7 dX5_bodyOf_10 dX5_bodyOf_11 dX5_bodyOf_14 rfl
def fX5_sum (p0 : Int) (σ : qSt) : Option (Int × Int × qSt) :=
  (if qI p0 = qI 0 then (some (0, (qi2l (σ 0 5)), σ)) else (if qI p0 = qI 1 then (some (0, (qi2l (σ 0 6)), σ)) else (if qI p0 = qI 2 then ((fX5_bitsOf 4 σ).bind fun (r67 : Int) => (some (0, (qi2l r67), σ))) else (if qI p0 = qI 3 then ((fX5_bitsOf 5 σ).bind fun (r79 : Int) => (some (0, (qi2l r79), σ))) else (if qI p0 = qI 4 then ((fX3_goingMore 1 σ 0).bind fun (r89 : Int) => (some (0, (qi2l r89), σ))) else (if qI p0 = qI 5 then ((fX3_goingMore 1 σ 1).bind fun (r99 : Int) => (some (0, (qi2l r99), σ))) else (if qI p0 = qI 6 then (some (0, (qi2l (σ 1 12)), σ)) else (if qI p0 = qI 7 then (some (0, (qi2l (σ 27 2)), σ)) else (some (2, 0, σ))))))))))
set_option maxRecDepth 100000 in
set_option maxHeartbeats 4000000 in
theorem tX5_sum {l : Launch} {z0 : Nat} {g : qG} {w : qWd} {ad : Nat → Nat} (hB : qBC g ad w) (hl : l.stackTraces = false) (p0 : Int) (σ : qSt) : qXT l yX5_sum cX5_sum 2 (some .long) qrx3 g z0 w [.ref (ad 0), .int (qI p0)] σ (fX5_sum p0 σ) qrj := by
  refine qXT.of [(0, some (.ref (ad 0))), (1, some (.int (qI p0)))] (by decide +kernel) (Nat.le_of_ble_eq_true rfl) rfl ?_
  intro p e s m args below meth c cx htab
  unfold fX5_sum
  refine r_iload_n (pc := 0) cx dX5_sum_0 rfl ?_
  refine qS.ite (fun hs0 => ?_) (fun hs0 => ?_)
  · refine r_tsw (lo0 := 0) (j := 0) (tgt := 48) cx hs0 dX5_sum_1 (by decide +kernel) (by decide) rfl (by decide) ?_
    refine r_aload_n (pc := 48) cx dX5_sum_48 rfl ?_
    refine r_get (pc := 49) cx hcl_X5 qc_X5 (lw0 hB) (j := 5) (by decide) wf_X5_112 dX5_sum_49 (x := .int (qI (σ 0 5))) rfl ?_
    refine r_i2l (pc := 52) cx dX5_sum_52 ?_
    exact r_xlreturn (w0 := w) (fun _ _ h => h) (Nat.zero_le _) (Nat.zero_le _) cx dX5_sum_53 rfl
  refine qS.ite (fun hs1 => ?_) (fun hs1 => ?_)
  · refine r_tsw (lo0 := 0) (j := 1) (tgt := 54) cx hs1 dX5_sum_1 (by decide +kernel) (by decide) rfl (by decide) ?_
    refine r_aload_n (pc := 54) cx dX5_sum_54 rfl ?_
    refine r_get (pc := 55) cx hcl_X5 qc_X5 (lw0 hB) (j := 6) (by decide) wf_X5_63 dX5_sum_55 (x := .int (qI (σ 0 6))) rfl ?_
    refine r_i2l (pc := 58) cx dX5_sum_58 ?_
    exact r_xlreturn (w0 := w) (fun _ _ h => h) (Nat.zero_le _) (Nat.zero_le _) cx dX5_sum_59 rfl
  refine qS.ite (fun hs2 => ?_) (fun hs2 => ?_)
  · refine r_tsw (lo0 := 0) (j := 2) (tgt := 60) cx hs2 dX5_sum_1 (by decide +kernel) (by decide) rfl (by decide) ?_
    refine r_aload_n (pc := 60) cx dX5_sum_60 rfl ?_
    refine r_get (pc := 61) cx hcl_X5 qc_X5 (lw0 hB) (j := 0) (by decide) wf_X5_10 dX5_sum_61 (x := .ref (ad 1)) rfl ?_
    refine r_getN (pc := 64) cx hcl_X3 qc_X3 (lw1 hB) (j := 2) (by decide) wg_X5_78 dX5_sum_64 (x := .ref (ad 4)) rfl ?_
    refine r_pSi (pc := 67) cx (tX5_bitsOf (lw4 hB)  σ) qm_X5_bitsOf qs_X5_bitsOf wm_X5_148 dX5_sum_67 rfl rfl (Nat.le_of_ble_eq_true rfl) ⟨Nat.le_of_ble_eq_true rfl, Nat.le_of_ble_eq_true rfl⟩ ⟨rfl, rfl⟩ ⟨Nat.zero_le _, Nat.zero_le _⟩ (fun r67 => ?_)
    refine r_i2l (pc := 70) cx dX5_sum_70 ?_
    exact r_xlreturn (w0 := w) (fun _ _ h => h) (Nat.zero_le _) (Nat.zero_le _) cx dX5_sum_71 rfl
  refine qS.ite (fun hs3 => ?_) (fun hs3 => ?_)
  · refine r_tsw (lo0 := 0) (j := 3) (tgt := 72) cx hs3 dX5_sum_1 (by decide +kernel) (by decide) rfl (by decide) ?_
    refine r_aload_n (pc := 72) cx dX5_sum_72 rfl ?_
    refine r_get (pc := 73) cx hcl_X5 qc_X5 (lw0 hB) (j := 0) (by decide) wf_X5_10 dX5_sum_73 (x := .ref (ad 1)) rfl ?_
    refine r_getN (pc := 76) cx hcl_X3 qc_X3 (lw1 hB) (j := 3) (by decide) wg_X5_89 dX5_sum_76 (x := .ref (ad 5)) rfl ?_
    refine r_pSi (pc := 79) cx (tX5_bitsOf (lw5 hB)  σ) qm_X5_bitsOf qs_X5_bitsOf wm_X5_148 dX5_sum_79 rfl rfl (Nat.le_of_ble_eq_true rfl) ⟨Nat.le_of_ble_eq_true rfl, Nat.le_of_ble_eq_true rfl⟩ ⟨rfl, rfl⟩ ⟨Nat.zero_le _, Nat.zero_le _⟩ (fun r79 => ?_)
    refine r_i2l (pc := 82) cx dX5_sum_82 ?_
    exact r_xlreturn (w0 := w) (fun _ _ h => h) (Nat.zero_le _) (Nat.zero_le _) cx dX5_sum_83 rfl
  refine qS.ite (fun hs4 => ?_) (fun hs4 => ?_)
  · refine r_tsw (lo0 := 0) (j := 4) (tgt := 84) cx hs4 dX5_sum_1 (by decide +kernel) (by decide) rfl (by decide) ?_
    refine r_aload_n (pc := 84) cx dX5_sum_84 rfl ?_
    refine r_get (pc := 85) cx hcl_X5 qc_X5 (lw0 hB) (j := 0) (by decide) wf_X5_10 dX5_sum_85 (x := .ref (ad 1)) rfl ?_
    refine r_iconst (pc := 88) cx dX5_sum_88 ?_
    refine r_pVNi (pc := 89) cx (tX3_goingMore hB (Or.inl rfl) 0 σ) qm_X3_goingMore qv_X3_goingMore hcl_X3 (lw1 hB) wn_X5_152 dX5_sum_89 rfl rfl (Nat.le_of_ble_eq_true rfl) ⟨Nat.le_of_ble_eq_true rfl, Nat.le_of_ble_eq_true rfl⟩ ⟨rfl, rfl⟩ ⟨Nat.zero_le _, Nat.zero_le _⟩ (fun r89 => ?_)
    refine r_i2l (pc := 92) cx dX5_sum_92 ?_
    exact r_xlreturn (w0 := w) (fun _ _ h => h) (Nat.zero_le _) (Nat.zero_le _) cx dX5_sum_93 rfl
  refine qS.ite (fun hs5 => ?_) (fun hs5 => ?_)
  · refine r_tsw (lo0 := 0) (j := 5) (tgt := 94) cx hs5 dX5_sum_1 (by decide +kernel) (by decide) rfl (by decide) ?_
    refine r_aload_n (pc := 94) cx dX5_sum_94 rfl ?_
    refine r_get (pc := 95) cx hcl_X5 qc_X5 (lw0 hB) (j := 0) (by decide) wf_X5_10 dX5_sum_95 (x := .ref (ad 1)) rfl ?_
    refine r_iconst (pc := 98) cx dX5_sum_98 ?_
    refine r_pVNi (pc := 99) cx (tX3_goingMore hB (Or.inl rfl) 1 σ) qm_X3_goingMore qv_X3_goingMore hcl_X3 (lw1 hB) wn_X5_152 dX5_sum_99 rfl rfl (Nat.le_of_ble_eq_true rfl) ⟨Nat.le_of_ble_eq_true rfl, Nat.le_of_ble_eq_true rfl⟩ ⟨rfl, rfl⟩ ⟨Nat.zero_le _, Nat.zero_le _⟩ (fun r99 => ?_)
    refine r_i2l (pc := 102) cx dX5_sum_102 ?_
    exact r_xlreturn (w0 := w) (fun _ _ h => h) (Nat.zero_le _) (Nat.zero_le _) cx dX5_sum_103 rfl
  refine qS.ite (fun hs6 => ?_) (fun hs6 => ?_)
  · refine r_tsw (lo0 := 0) (j := 6) (tgt := 104) cx hs6 dX5_sum_1 (by decide +kernel) (by decide) rfl (by decide) ?_
    refine r_aload_n (pc := 104) cx dX5_sum_104 rfl ?_
    refine r_get (pc := 105) cx hcl_X5 qc_X5 (lw0 hB) (j := 0) (by decide) wf_X5_10 dX5_sum_105 (x := .ref (ad 1)) rfl ?_
    refine r_getN (pc := 108) cx hcl_X3 qc_X3 (lw1 hB) (j := 12) (by decide) wg_X5_155 dX5_sum_108 (x := .int (qI (σ 1 12))) rfl ?_
    refine r_i2l (pc := 111) cx dX5_sum_111 ?_
    exact r_xlreturn (w0 := w) (fun _ _ h => h) (Nat.zero_le _) (Nat.zero_le _) cx dX5_sum_112 rfl
  refine qS.ite (fun hs7 => ?_) (fun hs7 => ?_)
  · refine r_tsw (lo0 := 0) (j := 7) (tgt := 113) cx hs7 dX5_sum_1 (by decide +kernel) (by decide) rfl (by decide) ?_
    refine r_aload_n (pc := 113) cx dX5_sum_113 rfl ?_
    refine r_get (pc := 114) cx hcl_X5 qc_X5 (lw0 hB) (j := 2) (by decide) wf_X5_22 dX5_sum_114 (x := .ref (ad 27)) rfl ?_
    refine r_getN (pc := 117) cx hcl_X0 qc_X0 (lw27 hB) (j := 2) (by decide) wg_X5_104 dX5_sum_117 (x := .int (qI (σ 27 2))) rfl ?_
    refine r_i2l (pc := 120) cx dX5_sum_120 ?_
    exact r_xlreturn (w0 := w) (fun _ _ h => h) (Nat.zero_le _) (Nat.zero_le _) cx dX5_sum_121 rfl
  refine r_tswd (tgt := 122) cx dX5_sum_1 (q_nsw (N := 8) (by decide) (fun j hj => by match j, hj with | 0, _ => exact hs0 | 1, _ => exact hs1 | 2, _ => exact hs2 | 3, _ => exact hs3 | 4, _ => exact hs4 | 5, _ => exact hs5 | 6, _ => exact hs6 | 7, _ => exact hs7)) (by decide) ?_
  exact r_throw (w0 := w) (mc := 1) (ms := 6) (rk := qrj) cx hl htab qt_qE2_71_73 (by rfl) (fun _ _ h => h) (Nat.le_of_ble_eq_true rfl) (Nat.le_of_ble_eq_true rfl) (Nat.le_of_ble_eq_true rfl) (Nat.le_of_ble_eq_true rfl) (Nat.le_of_ble_eq_true rfl) (Nat.le_of_ble_eq_true rfl) dX5_sum_122 dX5_sum_125 dX5_sum_126 dX5_sum_129 rfl
def fX5_left_c9 (σ : qSt) (s0 : Int) : Option Int :=
  ((fX5_opposite σ s0).bind fun (r11 : Int) => (if 0 ≤ s0 ∧ s0 < 4 then (if 0 ≤ r11 ∧ r11 < 4 then (qb (qi2l ((σ 11 s0) - (σ 11 r11))) fun (y1 : Int) => (if 0 ≤ s0 ∧ s0 < 4 then (if 0 ≤ r11 ∧ r11 < 4 then (qb (qi2l ((σ 12 s0) - (σ 12 r11))) fun (y2 : Int) => (if 0 ≤ s0 ∧ s0 < 4 then (if 0 ≤ r11 ∧ r11 < 4 then (qb (qi2l ((σ 13 s0) - (σ 13 r11))) fun (y3 : Int) => ((fX3_goingMore 1 σ s0).bind fun (r88 : Int) => (some (((y1 - (qi2l r88)) - y2) - (2 * y3))))) else none) else none)) else none) else none)) else none) else none))
set_option maxRecDepth 100000 in
set_option maxHeartbeats 4000000 in
theorem tX5_left_c9 {p : Program} {l : Launch} {e : Env} {s : State} {m : MethodId} {args : Array Value} {below : List Frame} {meth : Method} {c : Code} {z0 : Nat} {g : qG} {w : qWd} {ad : Nat → Nat} {σ : qSt} (cx : qCx p s m meth c cX5_left 10 RX5 (some .long) g z0) (hB : qBC g ad w) (s0 : Int) : qS p l e qrm3 s m args below meth c 10 g z0 w 0 0 (fun r => qQ below g z0 w qrj args s 0 0 (r, σ)) (fX5_left_c9 σ s0) σ 9 [(0, some (.ref (ad 0)))] [.int (qI s0)] := by
  unfold fX5_left_c9
  refine r_istore_n (pc := 9) cx dX5_left_9 (by decide) rfl ?_
  refine r_iload_n (pc := 10) cx dX5_left_10 rfl ?_
  refine r_pSi (pc := 11) cx (tX5_opposite  s0 σ) qm_X5_opposite qs_X5_opposite wm_X5_158 dX5_left_11 rfl rfl (Nat.le_of_ble_eq_true rfl) ⟨Nat.le_of_ble_eq_true rfl, Nat.le_of_ble_eq_true rfl⟩ ⟨rfl, rfl⟩ ⟨Nat.zero_le _, Nat.zero_le _⟩ (fun r11 => ?_)
  refine r_istore_n (pc := 14) cx dX5_left_14 (by decide) rfl ?_
  refine r_aload_n (pc := 15) cx dX5_left_15 rfl ?_
  refine r_get (pc := 16) cx hcl_X5 qc_X5 (lw0 hB) (j := 0) (by decide) wf_X5_10 dX5_left_16 (x := .ref (ad 1)) rfl ?_
  refine r_getN (pc := 19) cx hcl_X3 qc_X3 (lw1 hB) (j := 9) (by decide) wg_X5_161 dX5_left_19 (x := .ref (ad 11)) rfl ?_
  refine r_iload_n (pc := 22) cx dX5_left_22 rfl ?_
  refine r_iaload (pc := 23) cx (lw11 hB) rfl (by decide) dX5_left_23 ?_
  refine r_aload_n (pc := 24) cx dX5_left_24 rfl ?_
  refine r_get (pc := 25) cx hcl_X5 qc_X5 (lw0 hB) (j := 0) (by decide) wf_X5_10 dX5_left_25 (x := .ref (ad 1)) rfl ?_
  refine r_getN (pc := 28) cx hcl_X3 qc_X3 (lw1 hB) (j := 9) (by decide) wg_X5_161 dX5_left_28 (x := .ref (ad 11)) rfl ?_
  refine r_iload_n (pc := 31) cx dX5_left_31 rfl ?_
  refine r_iaload (pc := 32) cx (lw11 hB) rfl (by decide) dX5_left_32 ?_
  refine r_isub (pc := 33) cx dX5_left_33 ?_
  refine r_i2l (pc := 34) cx dX5_left_34 ?_
  refine r_nml (fun y1 => ?_)
  refine r_lstore (pc := 35) cx dX5_left_35 (by decide) rfl ?_
  refine r_aload_n (pc := 37) cx dX5_left_37 rfl ?_
  refine r_get (pc := 38) cx hcl_X5 qc_X5 (lw0 hB) (j := 0) (by decide) wf_X5_10 dX5_left_38 (x := .ref (ad 1)) rfl ?_
  refine r_getN (pc := 41) cx hcl_X3 qc_X3 (lw1 hB) (j := 10) (by decide) wg_X5_164 dX5_left_41 (x := .ref (ad 12)) rfl ?_
  refine r_iload_n (pc := 44) cx dX5_left_44 rfl ?_
  refine r_iaload (pc := 45) cx (lw12 hB) rfl (by decide) dX5_left_45 ?_
  refine r_aload_n (pc := 46) cx dX5_left_46 rfl ?_
  refine r_get (pc := 47) cx hcl_X5 qc_X5 (lw0 hB) (j := 0) (by decide) wf_X5_10 dX5_left_47 (x := .ref (ad 1)) rfl ?_
  refine r_getN (pc := 50) cx hcl_X3 qc_X3 (lw1 hB) (j := 10) (by decide) wg_X5_164 dX5_left_50 (x := .ref (ad 12)) rfl ?_
  refine r_iload_n (pc := 53) cx dX5_left_53 rfl ?_
  refine r_iaload (pc := 54) cx (lw12 hB) rfl (by decide) dX5_left_54 ?_
  refine r_isub (pc := 55) cx dX5_left_55 ?_
  refine r_i2l (pc := 56) cx dX5_left_56 ?_
  refine r_nml (fun y2 => ?_)
  refine r_lstore (pc := 57) cx dX5_left_57 (by decide) rfl ?_
  refine r_aload_n (pc := 59) cx dX5_left_59 rfl ?_
  refine r_get (pc := 60) cx hcl_X5 qc_X5 (lw0 hB) (j := 0) (by decide) wf_X5_10 dX5_left_60 (x := .ref (ad 1)) rfl ?_
  refine r_getN (pc := 63) cx hcl_X3 qc_X3 (lw1 hB) (j := 11) (by decide) wg_X5_167 dX5_left_63 (x := .ref (ad 13)) rfl ?_
  refine r_iload_n (pc := 66) cx dX5_left_66 rfl ?_
  refine r_iaload (pc := 67) cx (lw13 hB) rfl (by decide) dX5_left_67 ?_
  refine r_aload_n (pc := 68) cx dX5_left_68 rfl ?_
  refine r_get (pc := 69) cx hcl_X5 qc_X5 (lw0 hB) (j := 0) (by decide) wf_X5_10 dX5_left_69 (x := .ref (ad 1)) rfl ?_
  refine r_getN (pc := 72) cx hcl_X3 qc_X3 (lw1 hB) (j := 11) (by decide) wg_X5_167 dX5_left_72 (x := .ref (ad 13)) rfl ?_
  refine r_iload_n (pc := 75) cx dX5_left_75 rfl ?_
  refine r_iaload (pc := 76) cx (lw13 hB) rfl (by decide) dX5_left_76 ?_
  refine r_isub (pc := 77) cx dX5_left_77 ?_
  refine r_i2l (pc := 78) cx dX5_left_78 ?_
  refine r_nml (fun y3 => ?_)
  refine r_lstore (pc := 79) cx dX5_left_79 (by decide) rfl ?_
  refine r_lload (pc := 81) cx dX5_left_81 rfl ?_
  refine r_aload_n (pc := 83) cx dX5_left_83 rfl ?_
  refine r_get (pc := 84) cx hcl_X5 qc_X5 (lw0 hB) (j := 0) (by decide) wf_X5_10 dX5_left_84 (x := .ref (ad 1)) rfl ?_
  refine r_iload_n (pc := 87) cx dX5_left_87 rfl ?_
  refine r_pVNi (pc := 88) cx (tX3_goingMore hB (Or.inl rfl) s0 σ) qm_X3_goingMore qv_X3_goingMore hcl_X3 (lw1 hB) wn_X5_152 dX5_left_88 rfl rfl (Nat.le_of_ble_eq_true rfl) ⟨Nat.le_of_ble_eq_true rfl, Nat.le_of_ble_eq_true rfl⟩ ⟨rfl, rfl⟩ ⟨Nat.zero_le _, Nat.zero_le _⟩ (fun r88 => ?_)
  refine r_i2l (pc := 91) cx dX5_left_91 ?_
  refine r_lsub (pc := 92) cx dX5_left_92 ?_
  refine r_lload (pc := 93) cx dX5_left_93 rfl ?_
  refine r_lsub (pc := 95) cx dX5_left_95 ?_
  refine r_ldc2 (pc := 96) (v := 2) cx dX5_left_96 wq_X5_170 ?_
  refine r_lload (pc := 99) cx dX5_left_99 rfl ?_
  refine r_lmul (pc := 101) cx dX5_left_101 ?_
  refine r_lsub (pc := 102) cx dX5_left_102 ?_
  exact r_lreturn (w0 := w) (fun _ _ h => h) (Nat.zero_le _) (Nat.zero_le _) cx dX5_left_103 rfl
def fX5_left (σ : qSt) (p0 : Int) : Option Int :=
  (if qI p0 = 0 then (fX5_left_c9 σ 0) else (fX5_left_c9 σ 1))
set_option maxRecDepth 100000 in
set_option maxHeartbeats 4000000 in
theorem tX5_left {l : Launch} {z0 : Nat} {g : qG} {w : qWd} {ad : Nat → Nat} (hB : qBC g ad w) (p0 : Int) (σ : qSt) : qCT l yX5_left cX5_left 10 (some .long) qrm3 g z0 w [.ref (ad 0), .int (qI p0)] σ (qlift (fX5_left σ p0) σ) qrj := by
  refine qCTp.of [(0, some (.ref (ad 0))), (1, some (.int (qI p0)))] (by decide +kernel) (Nat.le_of_ble_eq_true rfl) rfl ?_
  intro p e s m args below meth c cx
  unfold fX5_left
  refine r_iload_n (pc := 0) cx dX5_left_0 rfl ?_
  refine r_if_eq (tgt := 8) cx dX5_left_1 (by decide) ?_ ?_
  · refine r_iconst (pc := 8) cx dX5_left_8 ?_
    exact qS.sub (qsub_cons rfl (qsub_nil _)) (tX5_left_c9 cx hB _)
  · refine r_iconst (pc := 4) cx dX5_left_4 ?_
    refine r_goto (pc := 5) (tgt := 9) cx dX5_left_5 (by decide) ?_
    exact qS.sub (qsub_cons rfl (qsub_nil _)) (tX5_left_c9 cx hB _)
def fX5_ahead_c45 : Nat → Int → Int → Int → qSt → Option (Int × Int × qSt)
  | 0, _, _, _, _ => none
  | f + 1, x1, x2, x3, σ => (if qI x2 ≤ qI x3 then (if 0 ≤ x1 ∧ x1 < 96 then (some (0, (σ 17 x1), σ)) else none) else (qbd (fX3_passStep 14 σ) fun (r54 : Int) (σ2 : qSt) => (fX5_ahead_c45 f x1 x2 (x3 + 1) σ2)))
set_option maxRecDepth 100000 in
set_option maxHeartbeats 4000000 in
theorem tX5_ahead_c45 {p : Program} {l : Launch} {e : Env} {s : State} {m : MethodId} {args : Array Value} {below : List Frame} {meth : Method} {c : Code} {z0 : Nat} {g : qG} {w : qWd} {ad : Nat → Nat} (cx : qCx p s m meth c cX5_ahead 4 RX5 (some .int) g z0) (hB : qBC g ad w) (hl : l.stackTraces = false) (htab : ∀ x, x ∈ c.exceptionTable.toList → False) : ∀ (f : Nat) (x1 : Int) (x2 : Int) (x3 : Int) (σ : qSt), qS p l e qrx5 s m args below meth c 4 g z0 w 0 0 (qXQ below g z0 w qri args s 1 6) (fX5_ahead_c45 f x1 x2 x3 σ) σ 45 [(0, some (.ref (ad 0))), (1, some (.int (qI x1))), (2, some (.int (qI x2))), (3, some (.int (qI x3)))] [] := by
  intro f
  induction f with
  | zero => exact fun _ _ _ _ => qS.fail
  | succ f ih =>
    intro x1 x2 x3 σ
    unfold fX5_ahead_c45
    refine r_iload_n (pc := 45) cx dX5_ahead_45 rfl ?_
    refine r_iload_n (pc := 46) cx dX5_ahead_46 rfl ?_
    refine r_icmp_ge (tgt := 63) cx dX5_ahead_47 (by decide) ?_ ?_
    · refine r_aload_n (pc := 63) cx dX5_ahead_63 rfl ?_
      refine r_get (pc := 64) cx hcl_X5 qc_X5 (lw0 hB) (j := 1) (by decide) wf_X5_16 dX5_ahead_64 (x := .ref (ad 14)) rfl ?_
      refine r_getN (pc := 67) cx hcl_X3 qc_X3 (lw14 hB) (j := 2) (by decide) wg_X5_78 dX5_ahead_67 (x := .ref (ad 17)) rfl ?_
      refine r_iload_n (pc := 70) cx dX5_ahead_70 rfl ?_
      refine r_iaload (pc := 71) cx (lw17 hB) rfl (by decide) dX5_ahead_71 ?_
      exact r_xireturn (w0 := w) (fun _ _ h => h) (Nat.zero_le _) (Nat.zero_le _) cx dX5_ahead_72 rfl
    · refine r_aload_n (pc := 50) cx dX5_ahead_50 rfl ?_
      refine r_get (pc := 51) cx hcl_X5 qc_X5 (lw0 hB) (j := 1) (by decide) wf_X5_16 dX5_ahead_51 (x := .ref (ad 14)) rfl ?_
      refine r_dVNv (pc := 54) cx (tX3_passStep hB (Or.inr rfl)  σ) qm_X3_passStep qv_X3_passStep hcl_X3 (lw14 hB) wn_X5_119 dX5_ahead_54 rfl rfl (Nat.le_of_ble_eq_true rfl) ⟨Nat.le_of_ble_eq_true rfl, Nat.le_of_ble_eq_true rfl⟩ ⟨rfl, rfl⟩ ⟨Nat.zero_le _, Nat.zero_le _⟩ (fun r54 σ2 => ?_)
      refine r_iinc (pc := 57) cx dX5_ahead_57 rfl (by decide) rfl ?_
      refine r_goto (pc := 60) (tgt := 45) cx dX5_ahead_60 (by decide) ?_
      exact qS.sub (qsub_cons rfl (qsub_cons rfl (qsub_cons rfl (qsub_cons rfl (qsub_nil _))))) (ih _ _ _ _)
def fX5_ahead (p0 : Int) (p1 : Int) (σ : qSt) : Option (Int × Int × qSt) :=
  ((fX5_isNoCell σ p0).bind fun (r1 : Int) => (if qI r1 = 0 then ((fX5_isOutside σ p1 0 5).bind fun (r18 : Int) => (if qI r18 = 0 then (qbd (fX3_becomeLike σ) fun (r40 : Int) (σ1 : qSt) => (fX5_ahead_c45 qFU p0 p1 0 σ1)) else (some (2, 0, σ)))) else (some (1, 0, σ))))
set_option maxRecDepth 100000 in
set_option maxHeartbeats 4000000 in
theorem tX5_ahead {l : Launch} {z0 : Nat} {g : qG} {w : qWd} {ad : Nat → Nat} (hB : qBC g ad w) (hl : l.stackTraces = false) (p0 : Int) (p1 : Int) (σ : qSt) : qXT l yX5_ahead cX5_ahead 4 (some .int) qrx5 g z0 w [.ref (ad 0), .int (qI p0), .int (qI p1)] σ (fX5_ahead p0 p1 σ) qri := by
  refine qXT.of [(0, some (.ref (ad 0))), (1, some (.int (qI p0))), (2, some (.int (qI p1)))] (by decide +kernel) (Nat.le_of_ble_eq_true rfl) rfl ?_
  intro p e s m args below meth c cx htab
  unfold fX5_ahead
  refine r_iload_n (pc := 0) cx dX5_ahead_0 rfl ?_
  refine r_pSi (pc := 1) cx (tX5_isNoCell  p0 σ) qm_X5_isNoCell qs_X5_isNoCell wm_X5_37 dX5_ahead_1 rfl rfl (Nat.le_of_ble_eq_true rfl) ⟨Nat.le_of_ble_eq_true rfl, Nat.le_of_ble_eq_true rfl⟩ ⟨rfl, rfl⟩ ⟨Nat.zero_le _, Nat.zero_le _⟩ (fun r1 => ?_)
  refine r_if_eq (tgt := 15) cx dX5_ahead_4 (by decide) ?_ ?_
  · refine r_iload_n (pc := 15) cx dX5_ahead_15 rfl ?_
    refine r_iconst (pc := 16) cx dX5_ahead_16 ?_
    refine r_iconst (pc := 17) cx dX5_ahead_17 ?_
    refine r_pSi (pc := 18) cx (tX5_isOutside  p1 0 5 σ) qm_X5_isOutside qs_X5_isOutside wm_X5_74 dX5_ahead_18 rfl rfl (Nat.le_of_ble_eq_true rfl) ⟨Nat.le_of_ble_eq_true rfl, Nat.le_of_ble_eq_true rfl⟩ ⟨rfl, rfl⟩ ⟨Nat.zero_le _, Nat.zero_le _⟩ (fun r18 => ?_)
    refine r_if_eq (tgt := 32) cx dX5_ahead_21 (by decide) ?_ ?_
    · refine r_aload_n (pc := 32) cx dX5_ahead_32 rfl ?_
      refine r_get (pc := 33) cx hcl_X5 qc_X5 (lw0 hB) (j := 1) (by decide) wf_X5_16 dX5_ahead_33 (x := .ref (ad 14)) rfl ?_
      refine r_aload_n (pc := 36) cx dX5_ahead_36 rfl ?_
      refine r_get (pc := 37) cx hcl_X5 qc_X5 (lw0 hB) (j := 0) (by decide) wf_X5_10 dX5_ahead_37 (x := .ref (ad 1)) rfl ?_
      refine r_dVNv (pc := 40) cx (tX3_becomeLike hB  σ) qm_X3_becomeLike qv_X3_becomeLike hcl_X3 (lw14 hB) wn_X5_204 dX5_ahead_40 rfl rfl (Nat.le_of_ble_eq_true rfl) ⟨Nat.le_of_ble_eq_true rfl, Nat.le_of_ble_eq_true rfl⟩ ⟨rfl, rfl⟩ ⟨Nat.zero_le _, Nat.zero_le _⟩ (fun r40 σ1 => ?_)
      refine r_iconst (pc := 43) cx dX5_ahead_43 ?_
      refine r_istore_n (pc := 44) cx dX5_ahead_44 (by decide) rfl ?_
      exact qS.sub (qsub_cons rfl (qsub_cons rfl (qsub_cons rfl (qsub_cons rfl (qsub_nil _))))) (tX5_ahead_c45 cx hB hl htab _ _ _ _ _)
    · exact r_throw (w0 := w) (mc := 1) (ms := 6) (rk := qri) cx hl htab qt_qE2_71_73 (by rfl) (fun _ _ h => h) (Nat.le_of_ble_eq_true rfl) (Nat.le_of_ble_eq_true rfl) (Nat.le_of_ble_eq_true rfl) (Nat.le_of_ble_eq_true rfl) (Nat.le_of_ble_eq_true rfl) (Nat.le_of_ble_eq_true rfl) dX5_ahead_24 dX5_ahead_27 dX5_ahead_28 dX5_ahead_31 rfl
  · exact r_throw (w0 := w) (mc := 1) (ms := 6) (rk := qri) cx hl htab qt_qE1_44_46 (by rfl) (fun _ _ h => h) (Nat.le_of_ble_eq_true rfl) (Nat.le_of_ble_eq_true rfl) (Nat.le_of_ble_eq_true rfl) (Nat.le_of_ble_eq_true rfl) (Nat.le_of_ble_eq_true rfl) (Nat.le_of_ble_eq_true rfl) dX5_ahead_7 dX5_ahead_10 dX5_ahead_11 dX5_ahead_14 rfl
def fX5_isEdgeOfInk_c38 (σ : qSt) (x1 : Int) (x2 : Int) : Option Int :=
  ((fX3_isAllPlain 1 σ x1).bind fun (r43 : Int) => (if qI r43 = 0 then (some 0) else ((fX3_isAllDyed 1 σ x2).bind fun (r54 : Int) => (if qI r54 = 0 then (some 0) else (some 1)))))
set_option maxRecDepth 100000 in
set_option maxHeartbeats 4000000 in
theorem tX5_isEdgeOfInk_c38 {p : Program} {l : Launch} {e : Env} {s : State} {m : MethodId} {args : Array Value} {below : List Frame} {meth : Method} {c : Code} {z0 : Nat} {g : qG} {w : qWd} {ad : Nat → Nat} {σ : qSt} (cx : qCx p s m meth c cX5_isEdgeOfInk 3 RX5 (some .boolean) g z0) (hB : qBC g ad w) (x1 : Int) (x2 : Int) : qS p l e qrm1 s m args below meth c 3 g z0 w 0 0 (fun r => qQ below g z0 w qri args s 0 0 (r, σ)) (fX5_isEdgeOfInk_c38 σ x1 x2) σ 38 [(0, some (.ref (ad 0))), (1, some (.int (qI x1))), (2, some (.int (qI x2)))] [] := by
  unfold fX5_isEdgeOfInk_c38
  refine r_aload_n (pc := 38) cx dX5_isEdgeOfInk_38 rfl ?_
  refine r_get (pc := 39) cx hcl_X5 qc_X5 (lw0 hB) (j := 0) (by decide) wf_X5_10 dX5_isEdgeOfInk_39 (x := .ref (ad 1)) rfl ?_
  refine r_iload_n (pc := 42) cx dX5_isEdgeOfInk_42 rfl ?_
  refine r_pVNi (pc := 43) cx (tX3_isAllPlain hB (Or.inl rfl) x1 σ) qm_X3_isAllPlain qv_X3_isAllPlain hcl_X3 (lw1 hB) wn_X5_267 dX5_isEdgeOfInk_43 rfl rfl (Nat.le_of_ble_eq_true rfl) ⟨Nat.le_of_ble_eq_true rfl, Nat.le_of_ble_eq_true rfl⟩ ⟨rfl, rfl⟩ ⟨Nat.zero_le _, Nat.zero_le _⟩ (fun r43 => ?_)
  refine r_if_eq (tgt := 64) cx dX5_isEdgeOfInk_46 (by decide) ?_ ?_
  · refine r_iconst (pc := 64) cx dX5_isEdgeOfInk_64 ?_
    exact r_zreturn (w0 := w) (fun _ _ h => h) (Nat.zero_le _) (Nat.zero_le _) cx (by decide +kernel) dX5_isEdgeOfInk_65 rfl
  · refine r_aload_n (pc := 49) cx dX5_isEdgeOfInk_49 rfl ?_
    refine r_get (pc := 50) cx hcl_X5 qc_X5 (lw0 hB) (j := 0) (by decide) wf_X5_10 dX5_isEdgeOfInk_50 (x := .ref (ad 1)) rfl ?_
    refine r_iload_n (pc := 53) cx dX5_isEdgeOfInk_53 rfl ?_
    refine r_pVNi (pc := 54) cx (tX3_isAllDyed hB (Or.inl rfl) x2 σ) qm_X3_isAllDyed qv_X3_isAllDyed hcl_X3 (lw1 hB) wn_X5_264 dX5_isEdgeOfInk_54 rfl rfl (Nat.le_of_ble_eq_true rfl) ⟨Nat.le_of_ble_eq_true rfl, Nat.le_of_ble_eq_true rfl⟩ ⟨rfl, rfl⟩ ⟨Nat.zero_le _, Nat.zero_le _⟩ (fun r54 => ?_)
    refine r_if_eq (tgt := 64) cx dX5_isEdgeOfInk_57 (by decide) ?_ ?_
    · refine r_iconst (pc := 64) cx dX5_isEdgeOfInk_64 ?_
      exact r_zreturn (w0 := w) (fun _ _ h => h) (Nat.zero_le _) (Nat.zero_le _) cx (by decide +kernel) dX5_isEdgeOfInk_65 rfl
    · refine r_iconst (pc := 60) cx dX5_isEdgeOfInk_60 ?_
      refine r_goto (pc := 61) (tgt := 65) cx dX5_isEdgeOfInk_61 (by decide) ?_
      exact r_zreturn (w0 := w) (fun _ _ h => h) (Nat.zero_le _) (Nat.zero_le _) cx (by decide +kernel) dX5_isEdgeOfInk_65 rfl
def fX5_isEdgeOfInk (σ : qSt) (p0 : Int) (p1 : Int) : Option Int :=
  ((fX5_isNoCell σ p0).bind fun (r1 : Int) => (if qI r1 = 0 then ((fX5_isNoCell σ p1).bind fun (r8 : Int) => (if qI r8 = 0 then ((fX3_isAllDyed 1 σ p0).bind fun (r21 : Int) => (if qI r21 = 0 then (fX5_isEdgeOfInk_c38 σ p0 p1) else ((fX3_isAllPlain 1 σ p1).bind fun (r32 : Int) => (if qI r32 = 0 then (fX5_isEdgeOfInk_c38 σ p0 p1) else (some 1))))) else (some 0))) else (some 0)))
set_option maxRecDepth 100000 in
set_option maxHeartbeats 4000000 in
theorem tX5_isEdgeOfInk {l : Launch} {z0 : Nat} {g : qG} {w : qWd} {ad : Nat → Nat} (hB : qBC g ad w) (p0 : Int) (p1 : Int) (σ : qSt) : qCT l yX5_isEdgeOfInk cX5_isEdgeOfInk 3 (some .boolean) qrm1 g z0 w [.ref (ad 0), .int (qI p0), .int (qI p1)] σ (qlift (fX5_isEdgeOfInk σ p0 p1) σ) qri := by
  refine qCTp.of [(0, some (.ref (ad 0))), (1, some (.int (qI p0))), (2, some (.int (qI p1)))] (by decide +kernel) (Nat.le_of_ble_eq_true rfl) rfl ?_
  intro p e s m args below meth c cx
  unfold fX5_isEdgeOfInk
  refine r_iload_n (pc := 0) cx dX5_isEdgeOfInk_0 rfl ?_
  refine r_pSi (pc := 1) cx (tX5_isNoCell  p0 σ) qm_X5_isNoCell qs_X5_isNoCell wm_X5_37 dX5_isEdgeOfInk_1 rfl rfl (Nat.le_of_ble_eq_true rfl) ⟨Nat.le_of_ble_eq_true rfl, Nat.le_of_ble_eq_true rfl⟩ ⟨rfl, rfl⟩ ⟨Nat.zero_le _, Nat.zero_le _⟩ (fun r1 => ?_)
  refine r_if_ne (tgt := 14) cx dX5_isEdgeOfInk_4 (by decide) ?_ ?_
  · refine r_iconst (pc := 14) cx dX5_isEdgeOfInk_14 ?_
    exact r_zreturn (w0 := w) (fun _ _ h => h) (Nat.zero_le _) (Nat.zero_le _) cx (by decide +kernel) dX5_isEdgeOfInk_15 rfl
  · refine r_iload_n (pc := 7) cx dX5_isEdgeOfInk_7 rfl ?_
    refine r_pSi (pc := 8) cx (tX5_isNoCell  p1 σ) qm_X5_isNoCell qs_X5_isNoCell wm_X5_37 dX5_isEdgeOfInk_8 rfl rfl (Nat.le_of_ble_eq_true rfl) ⟨Nat.le_of_ble_eq_true rfl, Nat.le_of_ble_eq_true rfl⟩ ⟨rfl, rfl⟩ ⟨Nat.zero_le _, Nat.zero_le _⟩ (fun r8 => ?_)
    refine r_if_eq (tgt := 16) cx dX5_isEdgeOfInk_11 (by decide) ?_ ?_
    · refine r_aload_n (pc := 16) cx dX5_isEdgeOfInk_16 rfl ?_
      refine r_get (pc := 17) cx hcl_X5 qc_X5 (lw0 hB) (j := 0) (by decide) wf_X5_10 dX5_isEdgeOfInk_17 (x := .ref (ad 1)) rfl ?_
      refine r_iload_n (pc := 20) cx dX5_isEdgeOfInk_20 rfl ?_
      refine r_pVNi (pc := 21) cx (tX3_isAllDyed hB (Or.inl rfl) p0 σ) qm_X3_isAllDyed qv_X3_isAllDyed hcl_X3 (lw1 hB) wn_X5_264 dX5_isEdgeOfInk_21 rfl rfl (Nat.le_of_ble_eq_true rfl) ⟨Nat.le_of_ble_eq_true rfl, Nat.le_of_ble_eq_true rfl⟩ ⟨rfl, rfl⟩ ⟨Nat.zero_le _, Nat.zero_le _⟩ (fun r21 => ?_)
      refine r_if_eq (tgt := 38) cx dX5_isEdgeOfInk_24 (by decide) ?_ ?_
      · exact qS.sub (qsub_cons rfl (qsub_cons rfl (qsub_cons rfl (qsub_nil _)))) (tX5_isEdgeOfInk_c38 cx hB _ _)
      · refine r_aload_n (pc := 27) cx dX5_isEdgeOfInk_27 rfl ?_
        refine r_get (pc := 28) cx hcl_X5 qc_X5 (lw0 hB) (j := 0) (by decide) wf_X5_10 dX5_isEdgeOfInk_28 (x := .ref (ad 1)) rfl ?_
        refine r_iload_n (pc := 31) cx dX5_isEdgeOfInk_31 rfl ?_
        refine r_pVNi (pc := 32) cx (tX3_isAllPlain hB (Or.inl rfl) p1 σ) qm_X3_isAllPlain qv_X3_isAllPlain hcl_X3 (lw1 hB) wn_X5_267 dX5_isEdgeOfInk_32 rfl rfl (Nat.le_of_ble_eq_true rfl) ⟨Nat.le_of_ble_eq_true rfl, Nat.le_of_ble_eq_true rfl⟩ ⟨rfl, rfl⟩ ⟨Nat.zero_le _, Nat.zero_le _⟩ (fun r32 => ?_)
        refine r_if_ne (tgt := 60) cx dX5_isEdgeOfInk_35 (by decide) ?_ ?_
        · refine r_iconst (pc := 60) cx dX5_isEdgeOfInk_60 ?_
          refine r_goto (pc := 61) (tgt := 65) cx dX5_isEdgeOfInk_61 (by decide) ?_
          exact r_zreturn (w0 := w) (fun _ _ h => h) (Nat.zero_le _) (Nat.zero_le _) cx (by decide +kernel) dX5_isEdgeOfInk_65 rfl
        · exact qS.sub (qsub_cons rfl (qsub_cons rfl (qsub_cons rfl (qsub_nil _)))) (tX5_isEdgeOfInk_c38 cx hB _ _)
    · refine r_iconst (pc := 14) cx dX5_isEdgeOfInk_14 ?_
      exact r_zreturn (w0 := w) (fun _ _ h => h) (Nat.zero_le _) (Nat.zero_le _) cx (by decide +kernel) dX5_isEdgeOfInk_15 rfl
def fX5_edgesOfInk_c50 (σ : qSt) (k4 : Int → Int → Option Int) (x2 : Int) (s0 : Int) (s1 : Int) : Option Int :=
  (qb (s1 + s0) fun (y2 : Int) => (k4 y2 (x2 + 1)))
set_option maxRecDepth 100000 in
set_option maxHeartbeats 4000000 in
theorem tX5_edgesOfInk_c50 {p : Program} {l : Launch} {e : Env} {s : State} {m : MethodId} {args : Array Value} {below : List Frame} {meth : Method} {c : Code} {z0 : Nat} {g : qG} {w : qWd} {ad : Nat → Nat} {σ : qSt} (cx : qCx p s m meth c cX5_edgesOfInk 3 RX5 (some .int) g z0) (hB : qBC g ad w) {k4 : Int → Int → Option Int} (hk4 : ∀ (x1 : Int) (x2 : Int), qS p l e qrm2 s m args below meth c 3 g z0 w 0 0 (fun r => qQ below g z0 w qri args s 0 0 (r, σ)) (k4 x1 x2) σ 4 [(0, some (.ref (ad 0))), (1, some (.int (qI x1))), (2, some (.int (qI x2)))] []) (x2 : Int) (s0 : Int) (s1 : Int) : qS p l e qrm2 s m args below meth c 3 g z0 w 0 0 (fun r => qQ below g z0 w qri args s 0 0 (r, σ)) (fX5_edgesOfInk_c50 σ k4 x2 s0 s1) σ 50 [(0, some (.ref (ad 0))), (2, some (.int (qI x2)))] [.int (qI s0), .int (qI s1)] := by
  unfold fX5_edgesOfInk_c50
  refine r_iadd (pc := 50) cx dX5_edgesOfInk_50 ?_
  refine r_nmi (fun y2 => ?_)
  refine r_istore_n (pc := 51) cx dX5_edgesOfInk_51 (by decide) rfl ?_
  refine r_iinc (pc := 52) cx dX5_edgesOfInk_52 rfl (by decide) rfl ?_
  refine r_goto (pc := 55) (tgt := 4) cx dX5_edgesOfInk_55 (by decide) ?_
  exact qS.sub (qsub_cons rfl (qsub_cons rfl (qsub_cons rfl (qsub_nil _)))) (hk4 _ _)
def fX5_edgesOfInk_c29 (σ : qSt) (k4 : Int → Int → Option Int) (x2 : Int) (s0 : Int) (s1 : Int) : Option Int :=
  (qb (s1 + s0) fun (y1 : Int) => ((fX5_beside σ x2 3).bind fun (r36 : Int) => ((fX5_isEdgeOfInk σ x2 r36).bind fun (r39 : Int) => (if qI r39 = 0 then (fX5_edgesOfInk_c50 σ k4 x2 0 y1) else (fX5_edgesOfInk_c50 σ k4 x2 1 y1)))))
set_option maxRecDepth 100000 in
set_option maxHeartbeats 4000000 in
theorem tX5_edgesOfInk_c29 {p : Program} {l : Launch} {e : Env} {s : State} {m : MethodId} {args : Array Value} {below : List Frame} {meth : Method} {c : Code} {z0 : Nat} {g : qG} {w : qWd} {ad : Nat → Nat} {σ : qSt} (cx : qCx p s m meth c cX5_edgesOfInk 3 RX5 (some .int) g z0) (hB : qBC g ad w) {k4 : Int → Int → Option Int} (hk4 : ∀ (x1 : Int) (x2 : Int), qS p l e qrm2 s m args below meth c 3 g z0 w 0 0 (fun r => qQ below g z0 w qri args s 0 0 (r, σ)) (k4 x1 x2) σ 4 [(0, some (.ref (ad 0))), (1, some (.int (qI x1))), (2, some (.int (qI x2)))] []) (x2 : Int) (s0 : Int) (s1 : Int) : qS p l e qrm2 s m args below meth c 3 g z0 w 0 0 (fun r => qQ below g z0 w qri args s 0 0 (r, σ)) (fX5_edgesOfInk_c29 σ k4 x2 s0 s1) σ 29 [(0, some (.ref (ad 0))), (2, some (.int (qI x2)))] [.int (qI s0), .int (qI s1)] := by
  unfold fX5_edgesOfInk_c29
  refine r_iadd (pc := 29) cx dX5_edgesOfInk_29 ?_
  refine r_nmi (fun y1 => ?_)
  refine r_istore_n (pc := 30) cx dX5_edgesOfInk_30 (by decide) rfl ?_
  refine r_iload_n (pc := 31) cx dX5_edgesOfInk_31 rfl ?_
  refine r_aload_n (pc := 32) cx dX5_edgesOfInk_32 rfl ?_
  refine r_iload_n (pc := 33) cx dX5_edgesOfInk_33 rfl ?_
  refine r_iload_n (pc := 34) cx dX5_edgesOfInk_34 rfl ?_
  refine r_iconst (pc := 35) cx dX5_edgesOfInk_35 ?_
  refine r_pSi (pc := 36) cx (tX5_beside  x2 3 σ) qm_X5_beside qs_X5_beside wm_X5_252 dX5_edgesOfInk_36 rfl rfl (Nat.le_of_ble_eq_true rfl) ⟨Nat.le_of_ble_eq_true rfl, Nat.le_of_ble_eq_true rfl⟩ ⟨rfl, rfl⟩ ⟨Nat.zero_le _, Nat.zero_le _⟩ (fun r36 => ?_)
  refine r_pVi (pc := 39) cx (tX5_isEdgeOfInk hB x2 r36 σ) qm_X5_isEdgeOfInk qv_X5_isEdgeOfInk hcl_X5 (lw0 hB) wm_X5_261 dX5_edgesOfInk_39 rfl rfl (Nat.le_of_ble_eq_true rfl) ⟨Nat.le_of_ble_eq_true rfl, Nat.le_of_ble_eq_true rfl⟩ ⟨rfl, rfl⟩ ⟨Nat.zero_le _, Nat.zero_le _⟩ (fun r39 => ?_)
  refine r_if_eq (tgt := 49) cx dX5_edgesOfInk_42 (by decide) ?_ ?_
  · refine r_iconst (pc := 49) cx dX5_edgesOfInk_49 ?_
    exact qS.sub (qsub_cons rfl (qsub_cons rfl (qsub_nil _))) (tX5_edgesOfInk_c50 cx hB hk4 _ _ _)
  · refine r_iconst (pc := 45) cx dX5_edgesOfInk_45 ?_
    refine r_goto (pc := 46) (tgt := 50) cx dX5_edgesOfInk_46 (by decide) ?_
    exact qS.sub (qsub_cons rfl (qsub_cons rfl (qsub_nil _))) (tX5_edgesOfInk_c50 cx hB hk4 _ _ _)
def fX5_edgesOfInk_c4 (σ : qSt) : Nat → Int → Int → Option Int
  | 0, _, _ => none
  | f + 1, x1, x2 => (if qI 96 ≤ qI x2 then (some x1) else ((fX5_beside σ x2 0).bind fun (r15 : Int) => ((fX5_isEdgeOfInk σ x2 r15).bind fun (r18 : Int) => (if qI r18 = 0 then (fX5_edgesOfInk_c29 σ (fX5_edgesOfInk_c4 σ f) x2 0 x1) else (fX5_edgesOfInk_c29 σ (fX5_edgesOfInk_c4 σ f) x2 1 x1)))))
set_option maxRecDepth 100000 in
set_option maxHeartbeats 4000000 in
theorem tX5_edgesOfInk_c4 {p : Program} {l : Launch} {e : Env} {s : State} {m : MethodId} {args : Array Value} {below : List Frame} {meth : Method} {c : Code} {z0 : Nat} {g : qG} {w : qWd} {ad : Nat → Nat} {σ : qSt} (cx : qCx p s m meth c cX5_edgesOfInk 3 RX5 (some .int) g z0) (hB : qBC g ad w) : ∀ (f : Nat) (x1 : Int) (x2 : Int), qS p l e qrm2 s m args below meth c 3 g z0 w 0 0 (fun r => qQ below g z0 w qri args s 0 0 (r, σ)) (fX5_edgesOfInk_c4 σ f x1 x2) σ 4 [(0, some (.ref (ad 0))), (1, some (.int (qI x1))), (2, some (.int (qI x2)))] [] := by
  intro f
  induction f with
  | zero => exact fun _ _ => qS.fail
  | succ f ih =>
    intro x1 x2
    unfold fX5_edgesOfInk_c4
    refine r_iload_n (pc := 4) cx dX5_edgesOfInk_4 rfl ?_
    refine r_bipush (pc := 5) (v := 96) cx dX5_edgesOfInk_5 (by decide +kernel) ?_
    refine r_icmp_ge (tgt := 58) cx dX5_edgesOfInk_7 (by decide) ?_ ?_
    · refine r_iload_n (pc := 58) cx dX5_edgesOfInk_58 rfl ?_
      exact r_ireturn (w0 := w) (fun _ _ h => h) (Nat.zero_le _) (Nat.zero_le _) cx dX5_edgesOfInk_59 rfl
    · refine r_iload_n (pc := 10) cx dX5_edgesOfInk_10 rfl ?_
      refine r_aload_n (pc := 11) cx dX5_edgesOfInk_11 rfl ?_
      refine r_iload_n (pc := 12) cx dX5_edgesOfInk_12 rfl ?_
      refine r_iload_n (pc := 13) cx dX5_edgesOfInk_13 rfl ?_
      refine r_iconst (pc := 14) cx dX5_edgesOfInk_14 ?_
      refine r_pSi (pc := 15) cx (tX5_beside  x2 0 σ) qm_X5_beside qs_X5_beside wm_X5_252 dX5_edgesOfInk_15 rfl rfl (Nat.le_of_ble_eq_true rfl) ⟨Nat.le_of_ble_eq_true rfl, Nat.le_of_ble_eq_true rfl⟩ ⟨rfl, rfl⟩ ⟨Nat.zero_le _, Nat.zero_le _⟩ (fun r15 => ?_)
      refine r_pVi (pc := 18) cx (tX5_isEdgeOfInk hB x2 r15 σ) qm_X5_isEdgeOfInk qv_X5_isEdgeOfInk hcl_X5 (lw0 hB) wm_X5_261 dX5_edgesOfInk_18 rfl rfl (Nat.le_of_ble_eq_true rfl) ⟨Nat.le_of_ble_eq_true rfl, Nat.le_of_ble_eq_true rfl⟩ ⟨rfl, rfl⟩ ⟨Nat.zero_le _, Nat.zero_le _⟩ (fun r18 => ?_)
      refine r_if_eq (tgt := 28) cx dX5_edgesOfInk_21 (by decide) ?_ ?_
      · refine r_iconst (pc := 28) cx dX5_edgesOfInk_28 ?_
        exact qS.sub (qsub_cons rfl (qsub_cons rfl (qsub_nil _))) (tX5_edgesOfInk_c29 cx hB ih _ _ _)
      · refine r_iconst (pc := 24) cx dX5_edgesOfInk_24 ?_
        refine r_goto (pc := 25) (tgt := 29) cx dX5_edgesOfInk_25 (by decide) ?_
        exact qS.sub (qsub_cons rfl (qsub_cons rfl (qsub_nil _))) (tX5_edgesOfInk_c29 cx hB ih _ _ _)
def fX5_edgesOfInk (σ : qSt) : Option Int :=
  (fX5_edgesOfInk_c4 σ qFU 0 0)
set_option maxRecDepth 100000 in
set_option maxHeartbeats 4000000 in
theorem tX5_edgesOfInk {l : Launch} {z0 : Nat} {g : qG} {w : qWd} {ad : Nat → Nat} (hB : qBC g ad w) (σ : qSt) : qCT l yX5_edgesOfInk cX5_edgesOfInk 3 (some .int) qrm2 g z0 w [.ref (ad 0)] σ (qlift (fX5_edgesOfInk σ) σ) qri := by
  refine qCTp.of [(0, some (.ref (ad 0)))] (by decide +kernel) (Nat.le_of_ble_eq_true rfl) rfl ?_
  intro p e s m args below meth c cx
  unfold fX5_edgesOfInk
  refine r_iconst (pc := 0) cx dX5_edgesOfInk_0 ?_
  refine r_istore_n (pc := 1) cx dX5_edgesOfInk_1 (by decide) rfl ?_
  refine r_iconst (pc := 2) cx dX5_edgesOfInk_2 ?_
  refine r_istore_n (pc := 3) cx dX5_edgesOfInk_3 (by decide) rfl ?_
  exact qS.sub (qsub_cons rfl (qsub_cons rfl (qsub_cons rfl (qsub_nil _)))) (tX5_edgesOfInk_c4 cx hB _ _ _)
def fX5_record (p0 : Int) (p1 : Int) (σ : qSt) : Option (Int × Int × qSt) :=
  ((fX5_isOutside σ p0 0 ((σ 38 3) - 1)).bind fun (r11 : Int) => (if qI r11 = 0 then (if 0 ≤ p0 ∧ p0 < 4 then ((fX5_isOutside σ p1 0 ((σ 40 p0) - 1)).bind fun (r30 : Int) => (if qI r30 = 0 then (if 0 ≤ p0 ∧ p0 < 4 then (if 0 ≤ p0 ∧ p0 < 4 then (if 0 ≤ (((σ 40 p0) - 1) - p1) ∧ (((σ 40 p0) - 1) - p1) < 5000 then (some (0, (σ (42 + Int.toNat p0) (((σ 40 p0) - 1) - p1)), σ)) else none) else none) else none) else (some (1, 0, σ)))) else none) else (some (1, 0, σ))))
set_option maxRecDepth 100000 in
set_option maxHeartbeats 4000000 in
theorem tX5_record {l : Launch} {z0 : Nat} {g : qG} {w : qWd} {ad : Nat → Nat} (hB : qBC g ad w) (hl : l.stackTraces = false) (p0 : Int) (p1 : Int) (σ : qSt) : qXT l yX5_record cX5_record 3 (some .int) qrx1 g z0 w [.ref (ad 0), .int (qI p0), .int (qI p1)] σ (fX5_record p0 p1 σ) qri := by
  refine qXT.of [(0, some (.ref (ad 0))), (1, some (.int (qI p0))), (2, some (.int (qI p1)))] (by decide +kernel) (Nat.le_of_ble_eq_true rfl) rfl ?_
  intro p e s m args below meth c cx htab
  unfold fX5_record
  refine r_iload_n (pc := 0) cx dX5_record_0 rfl ?_
  refine r_iconst (pc := 1) cx dX5_record_1 ?_
  refine r_aload_n (pc := 2) cx dX5_record_2 rfl ?_
  refine r_get (pc := 3) cx hcl_X5 qc_X5 (lw0 hB) (j := 3) (by decide) wf_X5_29 dX5_record_3 (x := .ref (ad 38)) rfl ?_
  refine r_getN (pc := 6) cx hcl_X1 qc_X1 (lw38 hB) (j := 3) (by decide) wg_X5_97 dX5_record_6 (x := .int (qI (σ 38 3))) rfl ?_
  refine r_iconst (pc := 9) cx dX5_record_9 ?_
  refine r_isub (pc := 10) cx dX5_record_10 ?_
  refine r_pSi (pc := 11) cx (tX5_isOutside  p0 0 ((σ 38 3) - 1) σ) qm_X5_isOutside qs_X5_isOutside wm_X5_74 dX5_record_11 rfl rfl (Nat.le_of_ble_eq_true rfl) ⟨Nat.le_of_ble_eq_true rfl, Nat.le_of_ble_eq_true rfl⟩ ⟨rfl, rfl⟩ ⟨Nat.zero_le _, Nat.zero_le _⟩ (fun r11 => ?_)
  refine r_if_ne (tgt := 36) cx dX5_record_14 (by decide) ?_ ?_
  · exact r_throw (w0 := w) (mc := 1) (ms := 6) (rk := qri) cx hl htab qt_qE1_44_46 (by rfl) (fun _ _ h => h) (Nat.le_of_ble_eq_true rfl) (Nat.le_of_ble_eq_true rfl) (Nat.le_of_ble_eq_true rfl) (Nat.le_of_ble_eq_true rfl) (Nat.le_of_ble_eq_true rfl) (Nat.le_of_ble_eq_true rfl) dX5_record_36 dX5_record_39 dX5_record_40 dX5_record_43 rfl
  · refine r_iload_n (pc := 17) cx dX5_record_17 rfl ?_
    refine r_iconst (pc := 18) cx dX5_record_18 ?_
    refine r_aload_n (pc := 19) cx dX5_record_19 rfl ?_
    refine r_get (pc := 20) cx hcl_X5 qc_X5 (lw0 hB) (j := 3) (by decide) wf_X5_29 dX5_record_20 (x := .ref (ad 38)) rfl ?_
    refine r_getN (pc := 23) cx hcl_X1 qc_X1 (lw38 hB) (j := 1) (by decide) wg_X5_219 dX5_record_23 (x := .ref (ad 40)) rfl ?_
    refine r_iload_n (pc := 26) cx dX5_record_26 rfl ?_
    refine r_iaload (pc := 27) cx (lw40 hB) rfl (by decide) dX5_record_27 ?_
    refine r_iconst (pc := 28) cx dX5_record_28 ?_
    refine r_isub (pc := 29) cx dX5_record_29 ?_
    refine r_pSi (pc := 30) cx (tX5_isOutside  p1 0 ((σ 40 p0) - 1) σ) qm_X5_isOutside qs_X5_isOutside wm_X5_74 dX5_record_30 rfl rfl (Nat.le_of_ble_eq_true rfl) ⟨Nat.le_of_ble_eq_true rfl, Nat.le_of_ble_eq_true rfl⟩ ⟨rfl, rfl⟩ ⟨Nat.zero_le _, Nat.zero_le _⟩ (fun r30 => ?_)
    refine r_if_eq (tgt := 44) cx dX5_record_33 (by decide) ?_ ?_
    · refine r_aload_n (pc := 44) cx dX5_record_44 rfl ?_
      refine r_get (pc := 45) cx hcl_X5 qc_X5 (lw0 hB) (j := 3) (by decide) wf_X5_29 dX5_record_45 (x := .ref (ad 38)) rfl ?_
      refine r_getN (pc := 48) cx hcl_X1 qc_X1 (lw38 hB) (j := 2) (by decide) wg_X5_222 dX5_record_48 (x := .ref (ad 41)) rfl ?_
      refine r_iload_n (pc := 51) cx dX5_record_51 rfl ?_
      refine r_aaload3 (pc := 52) cx (lw41 hB) rfl (by decide) dX5_record_52 (fun h52 => ?_)
      refine r_aload_n (pc := 53) cx dX5_record_53 rfl ?_
      refine r_get (pc := 54) cx hcl_X5 qc_X5 (lw0 hB) (j := 3) (by decide) wf_X5_29 dX5_record_54 (x := .ref (ad 38)) rfl ?_
      refine r_getN (pc := 57) cx hcl_X1 qc_X1 (lw38 hB) (j := 1) (by decide) wg_X5_219 dX5_record_57 (x := .ref (ad 40)) rfl ?_
      refine r_iload_n (pc := 60) cx dX5_record_60 rfl ?_
      refine r_iaload (pc := 61) cx (lw40 hB) rfl (by decide) dX5_record_61 ?_
      refine r_iconst (pc := 62) cx dX5_record_62 ?_
      refine r_isub (pc := 63) cx dX5_record_63 ?_
      refine r_iload_n (pc := 64) cx dX5_record_64 rfl ?_
      refine r_isub (pc := 65) cx dX5_record_65 ?_
      refine r_baload (pc := 66) cx (lw_prow hB h52) rfl (by decide) dX5_record_66 ?_
      exact r_xireturn (w0 := w) (fun _ _ h => h) (Nat.zero_le _) (Nat.zero_le _) cx dX5_record_67 rfl
    · exact r_throw (w0 := w) (mc := 1) (ms := 6) (rk := qri) cx hl htab qt_qE1_44_46 (by rfl) (fun _ _ h => h) (Nat.le_of_ble_eq_true rfl) (Nat.le_of_ble_eq_true rfl) (Nat.le_of_ble_eq_true rfl) (Nat.le_of_ble_eq_true rfl) (Nat.le_of_ble_eq_true rfl) (Nat.le_of_ble_eq_true rfl) dX5_record_36 dX5_record_39 dX5_record_40 dX5_record_43 rfl
def fX5_beat (p0 : Int) (σ : qSt) : Option (Int × Int × qSt) :=
  ((fX5_isOutside σ p0 0 ((σ 38 3) - 1)).bind fun (r11 : Int) => (if qI r11 = 0 then ((fX1_changesOfSign σ p0).bind fun (r30 : Int) => (some (0, r30, σ))) else (some (1, 0, σ))))
set_option maxRecDepth 100000 in
set_option maxHeartbeats 4000000 in
theorem tX5_beat {l : Launch} {z0 : Nat} {g : qG} {w : qWd} {ad : Nat → Nat} (hB : qBC g ad w) (hl : l.stackTraces = false) (p0 : Int) (σ : qSt) : qXT l yX5_beat cX5_beat 2 (some .int) qrx1 g z0 w [.ref (ad 0), .int (qI p0)] σ (fX5_beat p0 σ) qri := by
  refine qXT.of [(0, some (.ref (ad 0))), (1, some (.int (qI p0)))] (by decide +kernel) (Nat.le_of_ble_eq_true rfl) rfl ?_
  intro p e s m args below meth c cx htab
  unfold fX5_beat
  refine r_iload_n (pc := 0) cx dX5_beat_0 rfl ?_
  refine r_iconst (pc := 1) cx dX5_beat_1 ?_
  refine r_aload_n (pc := 2) cx dX5_beat_2 rfl ?_
  refine r_get (pc := 3) cx hcl_X5 qc_X5 (lw0 hB) (j := 3) (by decide) wf_X5_29 dX5_beat_3 (x := .ref (ad 38)) rfl ?_
  refine r_getN (pc := 6) cx hcl_X1 qc_X1 (lw38 hB) (j := 3) (by decide) wg_X5_97 dX5_beat_6 (x := .int (qI (σ 38 3))) rfl ?_
  refine r_iconst (pc := 9) cx dX5_beat_9 ?_
  refine r_isub (pc := 10) cx dX5_beat_10 ?_
  refine r_pSi (pc := 11) cx (tX5_isOutside  p0 0 ((σ 38 3) - 1) σ) qm_X5_isOutside qs_X5_isOutside wm_X5_74 dX5_beat_11 rfl rfl (Nat.le_of_ble_eq_true rfl) ⟨Nat.le_of_ble_eq_true rfl, Nat.le_of_ble_eq_true rfl⟩ ⟨rfl, rfl⟩ ⟨Nat.zero_le _, Nat.zero_le _⟩ (fun r11 => ?_)
  refine r_if_eq (tgt := 25) cx dX5_beat_14 (by decide) ?_ ?_
  · refine r_aload_n (pc := 25) cx dX5_beat_25 rfl ?_
    refine r_get (pc := 26) cx hcl_X5 qc_X5 (lw0 hB) (j := 3) (by decide) wf_X5_29 dX5_beat_26 (x := .ref (ad 38)) rfl ?_
    refine r_iload_n (pc := 29) cx dX5_beat_29 rfl ?_
    refine r_pVNi (pc := 30) cx (tX1_changesOfSign hB p0 σ) qm_X1_changesOfSign qv_X1_changesOfSign hcl_X1 (lw38 hB) wn_X5_225 dX5_beat_30 rfl rfl (Nat.le_of_ble_eq_true rfl) ⟨Nat.le_of_ble_eq_true rfl, Nat.le_of_ble_eq_true rfl⟩ ⟨rfl, rfl⟩ ⟨Nat.zero_le _, Nat.zero_le _⟩ (fun r30 => ?_)
    exact r_xireturn (w0 := w) (fun _ _ h => h) (Nat.zero_le _) (Nat.zero_le _) cx dX5_beat_33 rfl
  · exact r_throw (w0 := w) (mc := 1) (ms := 6) (rk := qri) cx hl htab qt_qE1_44_46 (by rfl) (fun _ _ h => h) (Nat.le_of_ble_eq_true rfl) (Nat.le_of_ble_eq_true rfl) (Nat.le_of_ble_eq_true rfl) (Nat.le_of_ble_eq_true rfl) (Nat.le_of_ble_eq_true rfl) (Nat.le_of_ble_eq_true rfl) dX5_beat_17 dX5_beat_20 dX5_beat_21 dX5_beat_24 rfl
def fX5_pushWithout_c29 : Nat → Int → Int → Int → qSt → Option (Int × qSt)
  | 0, _, _, _, _ => none
  | f + 1, x2, x3, x4, σ => (if qI x3 ≤ qI x4 then ((fX5_isNoBody σ x2).bind fun (r49 : Int) => (if qI r49 = 0 then (if 0 ≤ x2 ∧ x2 < 4 then (if 0 ≤ x2 ∧ x2 < 4 then (some (((σ 22 x2) - (σ 9 x2)), σ)) else none) else none) else (some (0, σ)))) else (qbd (fX3_passStep 14 σ) fun (r39 : Int) (σ3 : qSt) => (fX5_pushWithout_c29 f x2 x3 (x4 + 1) σ3)))
set_option maxRecDepth 100000 in
set_option maxHeartbeats 4000000 in
theorem tX5_pushWithout_c29 {p : Program} {l : Launch} {e : Env} {s : State} {m : MethodId} {args : Array Value} {below : List Frame} {meth : Method} {c : Code} {z0 : Nat} {g : qG} {w : qWd} {ad : Nat → Nat} (cx : qCx p s m meth c cX5_pushWithout 5 RX5 (some .int) g z0) (hB : qBC g ad w) : ∀ (f : Nat) (x2 : Int) (x3 : Int) (x4 : Int) (σ : qSt), qS p l e qrm5 s m args below meth c 5 g z0 w 0 0 (qQ below g z0 w qri args s 0 0) (fX5_pushWithout_c29 f x2 x3 x4 σ) σ 29 [(0, some (.ref (ad 0))), (2, some (.int (qI x2))), (3, some (.int (qI x3))), (4, some (.int (qI x4)))] [] := by
  intro f
  induction f with
  | zero => exact fun _ _ _ _ => qS.fail
  | succ f ih =>
    intro x2 x3 x4 σ
    unfold fX5_pushWithout_c29
    refine r_iload (pc := 29) cx dX5_pushWithout_29 rfl ?_
    refine r_iload_n (pc := 31) cx dX5_pushWithout_31 rfl ?_
    refine r_icmp_ge (tgt := 48) cx dX5_pushWithout_32 (by decide) ?_ ?_
    · refine r_iload_n (pc := 48) cx dX5_pushWithout_48 rfl ?_
      refine r_pSi (pc := 49) cx (tX5_isNoBody  x2 σ) qm_X5_isNoBody qs_X5_isNoBody wm_X5_41 dX5_pushWithout_49 rfl rfl (Nat.le_of_ble_eq_true rfl) ⟨Nat.le_of_ble_eq_true rfl, Nat.le_of_ble_eq_true rfl⟩ ⟨rfl, rfl⟩ ⟨Nat.zero_le _, Nat.zero_le _⟩ (fun r49 => ?_)
      refine r_if_eq (tgt := 59) cx dX5_pushWithout_52 (by decide) ?_ ?_
      · refine r_aload_n (pc := 59) cx dX5_pushWithout_59 rfl ?_
        refine r_get (pc := 60) cx hcl_X5 qc_X5 (lw0 hB) (j := 1) (by decide) wf_X5_16 dX5_pushWithout_60 (x := .ref (ad 14)) rfl ?_
        refine r_getN (pc := 63) cx hcl_X3 qc_X3 (lw14 hB) (j := 7) (by decide) wg_X5_142 dX5_pushWithout_63 (x := .ref (ad 22)) rfl ?_
        refine r_iload_n (pc := 66) cx dX5_pushWithout_66 rfl ?_
        refine r_iaload (pc := 67) cx (lw22 hB) rfl (by decide) dX5_pushWithout_67 ?_
        refine r_aload_n (pc := 68) cx dX5_pushWithout_68 rfl ?_
        refine r_get (pc := 69) cx hcl_X5 qc_X5 (lw0 hB) (j := 0) (by decide) wf_X5_10 dX5_pushWithout_69 (x := .ref (ad 1)) rfl ?_
        refine r_getN (pc := 72) cx hcl_X3 qc_X3 (lw1 hB) (j := 7) (by decide) wg_X5_142 dX5_pushWithout_72 (x := .ref (ad 9)) rfl ?_
        refine r_iload_n (pc := 75) cx dX5_pushWithout_75 rfl ?_
        refine r_iaload (pc := 76) cx (lw9 hB) rfl (by decide) dX5_pushWithout_76 ?_
        refine r_isub (pc := 77) cx dX5_pushWithout_77 ?_
        exact r_ireturn (w0 := w) (fun _ _ h => h) (Nat.zero_le _) (Nat.zero_le _) cx dX5_pushWithout_78 rfl
      · refine r_iconst (pc := 55) cx dX5_pushWithout_55 ?_
        refine r_goto (pc := 56) (tgt := 78) cx dX5_pushWithout_56 (by decide) ?_
        exact r_ireturn (w0 := w) (fun _ _ h => h) (Nat.zero_le _) (Nat.zero_le _) cx dX5_pushWithout_78 rfl
    · refine r_aload_n (pc := 35) cx dX5_pushWithout_35 rfl ?_
      refine r_get (pc := 36) cx hcl_X5 qc_X5 (lw0 hB) (j := 1) (by decide) wf_X5_16 dX5_pushWithout_36 (x := .ref (ad 14)) rfl ?_
      refine r_dVNv (pc := 39) cx (tX3_passStep hB (Or.inr rfl)  σ) qm_X3_passStep qv_X3_passStep hcl_X3 (lw14 hB) wn_X5_119 dX5_pushWithout_39 rfl rfl (Nat.le_of_ble_eq_true rfl) ⟨Nat.le_of_ble_eq_true rfl, Nat.le_of_ble_eq_true rfl⟩ ⟨rfl, rfl⟩ ⟨Nat.zero_le _, Nat.zero_le _⟩ (fun r39 σ3 => ?_)
      refine r_iinc (pc := 42) cx dX5_pushWithout_42 rfl (by decide) rfl ?_
      refine r_goto (pc := 45) (tgt := 29) cx dX5_pushWithout_45 (by decide) ?_
      exact qS.sub (qsub_cons rfl (qsub_cons rfl (qsub_cons rfl (qsub_cons rfl (qsub_nil _))))) (ih _ _ _ _)
def fX5_pushWithout_c26 (x2 : Int) (x3 : Int) (σ : qSt) : Option (Int × qSt) :=
  (fX5_pushWithout_c29 qFU x2 x3 0 σ)
set_option maxRecDepth 100000 in
set_option maxHeartbeats 4000000 in
theorem tX5_pushWithout_c26 {p : Program} {l : Launch} {e : Env} {s : State} {m : MethodId} {args : Array Value} {below : List Frame} {meth : Method} {c : Code} {z0 : Nat} {g : qG} {w : qWd} {ad : Nat → Nat} (cx : qCx p s m meth c cX5_pushWithout 5 RX5 (some .int) g z0) (hB : qBC g ad w) (x2 : Int) (x3 : Int) (σ : qSt) : qS p l e qrm5 s m args below meth c 5 g z0 w 0 0 (qQ below g z0 w qri args s 0 0) (fX5_pushWithout_c26 x2 x3 σ) σ 26 [(0, some (.ref (ad 0))), (2, some (.int (qI x2))), (3, some (.int (qI x3)))] [] := by
  unfold fX5_pushWithout_c26
  refine r_iconst (pc := 26) cx dX5_pushWithout_26 ?_
  refine r_istore (pc := 27) cx dX5_pushWithout_27 (by decide) rfl ?_
  exact qS.sub (qsub_cons rfl (qsub_cons rfl (qsub_cons rfl (qsub_cons rfl (qsub_nil _))))) (tX5_pushWithout_c29 cx hB _ _ _ _ _)
def fX5_pushWithout (p0 : Int) (p1 : Int) (p2 : Int) (σ : qSt) : Option (Int × qSt) :=
  (qbd (fX3_becomeLike σ) fun (r8 : Int) (σ1 : qSt) => ((fX5_isNoCell σ1 p0).bind fun (r12 : Int) => (if qI r12 = 0 then (qbd (fX3_makeFree 14 p0 σ1) fun (r23 : Int) (σ2 : qSt) => (fX5_pushWithout_c26 p1 p2 σ2)) else (fX5_pushWithout_c26 p1 p2 σ1))))
set_option maxRecDepth 100000 in
set_option maxHeartbeats 4000000 in
theorem tX5_pushWithout {l : Launch} {z0 : Nat} {g : qG} {w : qWd} {ad : Nat → Nat} (hB : qBC g ad w) (p0 : Int) (p1 : Int) (p2 : Int) (σ : qSt) : qCT l yX5_pushWithout cX5_pushWithout 5 (some .int) qrm5 g z0 w [.ref (ad 0), .int (qI p0), .int (qI p1), .int (qI p2)] σ (fX5_pushWithout p0 p1 p2 σ) qri := by
  refine qCT.of [(0, some (.ref (ad 0))), (1, some (.int (qI p0))), (2, some (.int (qI p1))), (3, some (.int (qI p2)))] (by decide +kernel) (Nat.le_of_ble_eq_true rfl) rfl ?_
  intro p e s m args below meth c cx
  unfold fX5_pushWithout
  refine r_aload_n (pc := 0) cx dX5_pushWithout_0 rfl ?_
  refine r_get (pc := 1) cx hcl_X5 qc_X5 (lw0 hB) (j := 1) (by decide) wf_X5_16 dX5_pushWithout_1 (x := .ref (ad 14)) rfl ?_
  refine r_aload_n (pc := 4) cx dX5_pushWithout_4 rfl ?_
  refine r_get (pc := 5) cx hcl_X5 qc_X5 (lw0 hB) (j := 0) (by decide) wf_X5_10 dX5_pushWithout_5 (x := .ref (ad 1)) rfl ?_
  refine r_dVNv (pc := 8) cx (tX3_becomeLike hB  σ) qm_X3_becomeLike qv_X3_becomeLike hcl_X3 (lw14 hB) wn_X5_204 dX5_pushWithout_8 rfl rfl (Nat.le_of_ble_eq_true rfl) ⟨Nat.le_of_ble_eq_true rfl, Nat.le_of_ble_eq_true rfl⟩ ⟨rfl, rfl⟩ ⟨Nat.zero_le _, Nat.zero_le _⟩ (fun r8 σ1 => ?_)
  refine r_iload_n (pc := 11) cx dX5_pushWithout_11 rfl ?_
  refine r_pSi (pc := 12) cx (tX5_isNoCell  p0 σ1) qm_X5_isNoCell qs_X5_isNoCell wm_X5_37 dX5_pushWithout_12 rfl rfl (Nat.le_of_ble_eq_true rfl) ⟨Nat.le_of_ble_eq_true rfl, Nat.le_of_ble_eq_true rfl⟩ ⟨rfl, rfl⟩ ⟨Nat.zero_le _, Nat.zero_le _⟩ (fun r12 => ?_)
  refine r_if_ne (tgt := 26) cx dX5_pushWithout_15 (by decide) ?_ ?_
  · exact qS.sub (qsub_cons rfl (qsub_cons rfl (qsub_cons rfl (qsub_nil _)))) (tX5_pushWithout_c26 cx hB _ _ _)
  · refine r_aload_n (pc := 18) cx dX5_pushWithout_18 rfl ?_
    refine r_get (pc := 19) cx hcl_X5 qc_X5 (lw0 hB) (j := 1) (by decide) wf_X5_16 dX5_pushWithout_19 (x := .ref (ad 14)) rfl ?_
    refine r_iload_n (pc := 22) cx dX5_pushWithout_22 rfl ?_
    refine r_dVNv (pc := 23) cx (tX3_makeFree hB (Or.inr rfl) p0 σ1) qm_X3_makeFree qv_X3_makeFree hcl_X3 (lw14 hB) wn_X5_67 dX5_pushWithout_23 rfl rfl (Nat.le_of_ble_eq_true rfl) ⟨Nat.le_of_ble_eq_true rfl, Nat.le_of_ble_eq_true rfl⟩ ⟨rfl, rfl⟩ ⟨Nat.zero_le _, Nat.zero_le _⟩ (fun r23 σ2 => ?_)
    exact qS.sub (qsub_cons rfl (qsub_cons rfl (qsub_cons rfl (qsub_nil _)))) (tX5_pushWithout_c26 cx hB _ _ _)
def fX5_better_c92 (k47 : Int → Int → Int → Int → Int → qSt → Option (Int × Int × qSt)) (x1 : Int) (x2 : Int) (x3 : Int) (x4 : Int) (x5 : Int) (σ : qSt) : Option (Int × Int × qSt) :=
  (k47 x1 x2 x3 x4 (x5 + 1) σ)
set_option maxRecDepth 100000 in
set_option maxHeartbeats 4000000 in
theorem tX5_better_c92 {p : Program} {l : Launch} {e : Env} {s : State} {m : MethodId} {args : Array Value} {below : List Frame} {meth : Method} {c : Code} {z0 : Nat} {g : qG} {w : qWd} {ad : Nat → Nat} (cx : qCx p s m meth c cX5_better 7 RX5 (some .int) g z0) (hB : qBC g ad w) (hl : l.stackTraces = false) (htab : ∀ x, x ∈ c.exceptionTable.toList → False) {k47 : Int → Int → Int → Int → Int → qSt → Option (Int × Int × qSt)} (hk47 : ∀ (x1 : Int) (x2 : Int) (x3 : Int) (x4 : Int) (x5 : Int) (σ : qSt), qS p l e qrx6 s m args below meth c 7 g z0 w 0 0 (qXQ below g z0 w qri args s 1 6) (k47 x1 x2 x3 x4 x5 σ) σ 47 [(0, some (.ref (ad 0))), (1, some (.int (qI x1))), (2, some (.int (qI x2))), (3, some (.int (qI x3))), (4, some (.int (qI x4))), (5, some (.int (qI x5)))] []) (x1 : Int) (x2 : Int) (x3 : Int) (x4 : Int) (x5 : Int) (σ : qSt) : qS p l e qrx6 s m args below meth c 7 g z0 w 0 0 (qXQ below g z0 w qri args s 1 6) (fX5_better_c92 k47 x1 x2 x3 x4 x5 σ) σ 92 [(0, some (.ref (ad 0))), (1, some (.int (qI x1))), (2, some (.int (qI x2))), (3, some (.int (qI x3))), (4, some (.int (qI x4))), (5, some (.int (qI x5)))] [] := by
  unfold fX5_better_c92
  refine r_iinc (pc := 92) cx dX5_better_92 rfl (by decide) rfl ?_
  refine r_goto (pc := 95) (tgt := 47) cx dX5_better_95 (by decide) ?_
  exact qS.sub (qsub_cons rfl (qsub_cons rfl (qsub_cons rfl (qsub_cons rfl (qsub_cons rfl (qsub_cons rfl (qsub_nil _))))))) (hk47 _ _ _ _ _ _)
def fX5_better_c47 : Nat → Int → Int → Int → Int → Int → qSt → Option (Int × Int × qSt)
  | 0, _, _, _, _, _, _ => none
  | f + 1, x1, x2, x3, x4, x5, σ => (if qI 96 ≤ qI x5 then (some (0, x3, σ)) else (if 0 ≤ x5 ∧ x5 < 96 then (if qI (σ 3 x5) = qI x1 then (qbd (fX5_pushWithout x5 x1 x2 σ) fun (r73 : Int) (σ2 : qSt) => (if qI x4 ≤ qI r73 then (fX5_better_c92 (fX5_better_c47 f) x1 x2 x3 x4 x5 σ2) else (fX5_better_c92 (fX5_better_c47 f) x1 x2 x5 r73 x5 σ2))) else (fX5_better_c92 (fX5_better_c47 f) x1 x2 x3 x4 x5 σ)) else none))
set_option maxRecDepth 100000 in
set_option maxHeartbeats 4000000 in
theorem tX5_better_c47 {p : Program} {l : Launch} {e : Env} {s : State} {m : MethodId} {args : Array Value} {below : List Frame} {meth : Method} {c : Code} {z0 : Nat} {g : qG} {w : qWd} {ad : Nat → Nat} (cx : qCx p s m meth c cX5_better 7 RX5 (some .int) g z0) (hB : qBC g ad w) (hl : l.stackTraces = false) (htab : ∀ x, x ∈ c.exceptionTable.toList → False) : ∀ (f : Nat) (x1 : Int) (x2 : Int) (x3 : Int) (x4 : Int) (x5 : Int) (σ : qSt), qS p l e qrx6 s m args below meth c 7 g z0 w 0 0 (qXQ below g z0 w qri args s 1 6) (fX5_better_c47 f x1 x2 x3 x4 x5 σ) σ 47 [(0, some (.ref (ad 0))), (1, some (.int (qI x1))), (2, some (.int (qI x2))), (3, some (.int (qI x3))), (4, some (.int (qI x4))), (5, some (.int (qI x5)))] [] := by
  intro f
  induction f with
  | zero => exact fun _ _ _ _ _ _ => qS.fail
  | succ f ih =>
    intro x1 x2 x3 x4 x5 σ
    unfold fX5_better_c47
    refine r_iload (pc := 47) cx dX5_better_47 rfl ?_
    refine r_bipush (pc := 49) (v := 96) cx dX5_better_49 (by decide +kernel) ?_
    refine r_icmp_ge (tgt := 98) cx dX5_better_51 (by decide) ?_ ?_
    · refine r_iload_n (pc := 98) cx dX5_better_98 rfl ?_
      exact r_xireturn (w0 := w) (fun _ _ h => h) (Nat.zero_le _) (Nat.zero_le _) cx dX5_better_99 rfl
    · refine r_aload_n (pc := 54) cx dX5_better_54 rfl ?_
      refine r_get (pc := 55) cx hcl_X5 qc_X5 (lw0 hB) (j := 0) (by decide) wf_X5_10 dX5_better_55 (x := .ref (ad 1)) rfl ?_
      refine r_getN (pc := 58) cx hcl_X3 qc_X3 (lw1 hB) (j := 1) (by decide) wg_X5_60 dX5_better_58 (x := .ref (ad 3)) rfl ?_
      refine r_iload (pc := 61) cx dX5_better_61 rfl ?_
      refine r_iaload (pc := 63) cx (lw3 hB) rfl (by decide) dX5_better_63 ?_
      refine r_iload_n (pc := 64) cx dX5_better_64 rfl ?_
      refine r_icmp_ne (tgt := 92) cx dX5_better_65 (by decide) ?_ ?_
      · exact qS.sub (qsub_cons rfl (qsub_cons rfl (qsub_cons rfl (qsub_cons rfl (qsub_cons rfl (qsub_cons rfl (qsub_nil _))))))) (tX5_better_c92 cx hB hl htab ih _ _ _ _ _ _)
      · refine r_aload_n (pc := 68) cx dX5_better_68 rfl ?_
        refine r_iload (pc := 69) cx dX5_better_69 rfl ?_
        refine r_iload_n (pc := 71) cx dX5_better_71 rfl ?_
        refine r_iload_n (pc := 72) cx dX5_better_72 rfl ?_
        refine r_dVi (pc := 73) cx (tX5_pushWithout hB x5 x1 x2 σ) qm_X5_pushWithout qv_X5_pushWithout hcl_X5 (lw0 hB) wm_X5_228 dX5_better_73 rfl rfl (Nat.le_of_ble_eq_true rfl) ⟨Nat.le_of_ble_eq_true rfl, Nat.le_of_ble_eq_true rfl⟩ ⟨rfl, rfl⟩ ⟨Nat.zero_le _, Nat.zero_le _⟩ (fun r73 σ2 => ?_)
        refine r_istore (pc := 76) cx dX5_better_76 (by decide) rfl ?_
        refine r_iload (pc := 78) cx dX5_better_78 rfl ?_
        refine r_iload (pc := 80) cx dX5_better_80 rfl ?_
        refine r_icmp_ge (tgt := 92) cx dX5_better_82 (by decide) ?_ ?_
        · exact qS.sub (qsub_cons rfl (qsub_cons rfl (qsub_cons rfl (qsub_cons rfl (qsub_cons rfl (qsub_cons rfl (qsub_nil _))))))) (tX5_better_c92 cx hB hl htab ih _ _ _ _ _ _)
        · refine r_iload (pc := 85) cx dX5_better_85 rfl ?_
          refine r_istore (pc := 87) cx dX5_better_87 (by decide) rfl ?_
          refine r_iload (pc := 89) cx dX5_better_89 rfl ?_
          refine r_istore_n (pc := 91) cx dX5_better_91 (by decide) rfl ?_
          exact qS.sub (qsub_cons rfl (qsub_cons rfl (qsub_cons rfl (qsub_cons rfl (qsub_cons rfl (qsub_cons rfl (qsub_nil _))))))) (tX5_better_c92 cx hB hl htab ih _ _ _ _ _ _)
def fX5_better (p0 : Int) (p1 : Int) (σ : qSt) : Option (Int × Int × qSt) :=
  ((fX5_isNoBody σ p0).bind fun (r1 : Int) => (if qI r1 = 0 then ((fX5_isOutside σ p1 1 10).bind fun (r19 : Int) => (if qI r19 = 0 then (qbd (fX5_pushWithout (-1) p0 p1 σ) fun (r39 : Int) (σ1 : qSt) => (fX5_better_c47 qFU p0 p1 (-1) r39 0 σ1)) else (some (2, 0, σ)))) else (some (1, 0, σ))))
set_option maxRecDepth 100000 in
set_option maxHeartbeats 4000000 in
theorem tX5_better {l : Launch} {z0 : Nat} {g : qG} {w : qWd} {ad : Nat → Nat} (hB : qBC g ad w) (hl : l.stackTraces = false) (p0 : Int) (p1 : Int) (σ : qSt) : qXT l yX5_better cX5_better 7 (some .int) qrx6 g z0 w [.ref (ad 0), .int (qI p0), .int (qI p1)] σ (fX5_better p0 p1 σ) qri := by
  refine qXT.of [(0, some (.ref (ad 0))), (1, some (.int (qI p0))), (2, some (.int (qI p1)))] (by decide +kernel) (Nat.le_of_ble_eq_true rfl) rfl ?_
  intro p e s m args below meth c cx htab
  unfold fX5_better
  refine r_iload_n (pc := 0) cx dX5_better_0 rfl ?_
  refine r_pSi (pc := 1) cx (tX5_isNoBody  p0 σ) qm_X5_isNoBody qs_X5_isNoBody wm_X5_41 dX5_better_1 rfl rfl (Nat.le_of_ble_eq_true rfl) ⟨Nat.le_of_ble_eq_true rfl, Nat.le_of_ble_eq_true rfl⟩ ⟨rfl, rfl⟩ ⟨Nat.zero_le _, Nat.zero_le _⟩ (fun r1 => ?_)
  refine r_if_eq (tgt := 15) cx dX5_better_4 (by decide) ?_ ?_
  · refine r_iload_n (pc := 15) cx dX5_better_15 rfl ?_
    refine r_iconst (pc := 16) cx dX5_better_16 ?_
    refine r_bipush (pc := 17) (v := 10) cx dX5_better_17 (by decide +kernel) ?_
    refine r_pSi (pc := 19) cx (tX5_isOutside  p1 1 10 σ) qm_X5_isOutside qs_X5_isOutside wm_X5_74 dX5_better_19 rfl rfl (Nat.le_of_ble_eq_true rfl) ⟨Nat.le_of_ble_eq_true rfl, Nat.le_of_ble_eq_true rfl⟩ ⟨rfl, rfl⟩ ⟨Nat.zero_le _, Nat.zero_le _⟩ (fun r19 => ?_)
    refine r_if_eq (tgt := 33) cx dX5_better_22 (by decide) ?_ ?_
    · refine r_iconst (pc := 33) cx dX5_better_33 ?_
      refine r_istore_n (pc := 34) cx dX5_better_34 (by decide) rfl ?_
      refine r_aload_n (pc := 35) cx dX5_better_35 rfl ?_
      refine r_iconst (pc := 36) cx dX5_better_36 ?_
      refine r_iload_n (pc := 37) cx dX5_better_37 rfl ?_
      refine r_iload_n (pc := 38) cx dX5_better_38 rfl ?_
      refine r_dVi (pc := 39) cx (tX5_pushWithout hB (-1) p0 p1 σ) qm_X5_pushWithout qv_X5_pushWithout hcl_X5 (lw0 hB) wm_X5_228 dX5_better_39 rfl rfl (Nat.le_of_ble_eq_true rfl) ⟨Nat.le_of_ble_eq_true rfl, Nat.le_of_ble_eq_true rfl⟩ ⟨rfl, rfl⟩ ⟨Nat.zero_le _, Nat.zero_le _⟩ (fun r39 σ1 => ?_)
      refine r_istore (pc := 42) cx dX5_better_42 (by decide) rfl ?_
      refine r_iconst (pc := 44) cx dX5_better_44 ?_
      refine r_istore (pc := 45) cx dX5_better_45 (by decide) rfl ?_
      exact qS.sub (qsub_cons rfl (qsub_cons rfl (qsub_cons rfl (qsub_cons rfl (qsub_cons rfl (qsub_cons rfl (qsub_nil _))))))) (tX5_better_c47 cx hB hl htab _ _ _ _ _ _ _)
    · exact r_throw (w0 := w) (mc := 1) (ms := 6) (rk := qri) cx hl htab qt_qE2_71_73 (by rfl) (fun _ _ h => h) (Nat.le_of_ble_eq_true rfl) (Nat.le_of_ble_eq_true rfl) (Nat.le_of_ble_eq_true rfl) (Nat.le_of_ble_eq_true rfl) (Nat.le_of_ble_eq_true rfl) (Nat.le_of_ble_eq_true rfl) dX5_better_25 dX5_better_28 dX5_better_29 dX5_better_32 rfl
  · exact r_throw (w0 := w) (mc := 1) (ms := 6) (rk := qri) cx hl htab qt_qE1_44_46 (by rfl) (fun _ _ h => h) (Nat.le_of_ble_eq_true rfl) (Nat.le_of_ble_eq_true rfl) (Nat.le_of_ble_eq_true rfl) (Nat.le_of_ble_eq_true rfl) (Nat.le_of_ble_eq_true rfl) (Nat.le_of_ble_eq_true rfl) dX5_better_7 dX5_better_10 dX5_better_11 dX5_better_14 rfl
