def fX6_cellOf_c28 (x1 : Int) (x2 : Int) (s0 : Int) (σ : qSt) : Option (Int × qSt) :=
  (qbd (fX6_refused s0 σ) fun (r28 : Int) (σ1 : qSt) => (if qI r28 = 0 then (if qI x2 = 0 then (if 0 ≤ x1 ∧ x1 < 96 then (some ((σ1 48 x1), σ1)) else none) else (if qI x2 = qI 1 then (if 0 ≤ x1 ∧ x1 < 96 then (some ((σ1 49 x1), σ1)) else none) else (if qI x2 = qI 2 then (if 0 ≤ x1 ∧ x1 < 96 then (some ((σ1 50 x1), σ1)) else none) else (if qI x2 = qI 3 then (if 0 ≤ x1 ∧ x1 < 96 then (some ((σ1 51 x1), σ1)) else none) else (if 0 ≤ (((4 * x1) + x2) - 4) ∧ (((4 * x1) + x2) - 4) < 384 then (some ((σ1 56 (((4 * x1) + x2) - 4)), σ1)) else none))))) else (some (0, σ1))))
set_option maxRecDepth 100000 in
set_option maxHeartbeats 4000000 in
theorem tX6_cellOf_c28 {p : Program} {l : Launch} {e : Env} {s : State} {m : MethodId} {args : Array Value} {below : List Frame} {meth : Method} {c : Code} {z0 : Nat} {g : qG} {w : qWd} {ad : Nat → Nat} (cx : qCx p s m meth c cX6_cellOf 3 RX6 (some .int) g z0) (hM : qBM g ad w) (x1 : Int) (x2 : Int) (s0 : Int) (σ : qSt) : qS p l e qrm2 s m args below meth c 3 g z0 w 0 0 (qQ below g z0 w qri args s 0 0) (fX6_cellOf_c28 x1 x2 s0 σ) σ 28 [(0, some (.ref (ad 47))), (1, some (.int (qI x1))), (2, some (.int (qI x2)))] [.int (qI s0), .ref (ad 47)] := by
  unfold fX6_cellOf_c28
  refine r_dVi (pc := 28) cx (tX6_refused hM s0 σ) qm_X6_refused qv_X6_refused hcl_X6 (lw47 hM) wm_X6_84 dX6_cellOf_28 rfl rfl (Nat.le_of_ble_eq_true rfl) ⟨Nat.le_of_ble_eq_true rfl, Nat.le_of_ble_eq_true rfl⟩ ⟨rfl, rfl⟩ ⟨Nat.zero_le _, Nat.zero_le _⟩ (fun r28 σ1 => ?_)
  refine r_if_eq (tgt := 36) cx dX6_cellOf_31 (by decide) ?_ ?_
  · refine r_iload_n (pc := 36) cx dX6_cellOf_36 rfl ?_
    refine r_if_ne (tgt := 49) cx dX6_cellOf_37 (by decide) ?_ ?_
    · refine r_iload_n (pc := 49) cx dX6_cellOf_49 rfl ?_
      refine r_iconst (pc := 50) cx dX6_cellOf_50 ?_
      refine r_icmp_ne (tgt := 63) cx dX6_cellOf_51 (by decide) ?_ ?_
      · refine r_iload_n (pc := 63) cx dX6_cellOf_63 rfl ?_
        refine r_iconst (pc := 64) cx dX6_cellOf_64 ?_
        refine r_icmp_ne (tgt := 77) cx dX6_cellOf_65 (by decide) ?_ ?_
        · refine r_iload_n (pc := 77) cx dX6_cellOf_77 rfl ?_
          refine r_iconst (pc := 78) cx dX6_cellOf_78 ?_
          refine r_icmp_ne (tgt := 91) cx dX6_cellOf_79 (by decide) ?_ ?_
          · refine r_aload_n (pc := 91) cx dX6_cellOf_91 rfl ?_
            refine r_get (pc := 92) cx hcl_X6 qc_X6 (lw47 hM) (j := 9) (by decide) wf_X6_34 dX6_cellOf_92 (x := .ref (ad 56)) rfl ?_
            refine r_iconst (pc := 95) cx dX6_cellOf_95 ?_
            refine r_iload_n (pc := 96) cx dX6_cellOf_96 rfl ?_
            refine r_imul (pc := 97) cx dX6_cellOf_97 ?_
            refine r_iload_n (pc := 98) cx dX6_cellOf_98 rfl ?_
            refine r_iadd (pc := 99) cx dX6_cellOf_99 ?_
            refine r_iconst (pc := 100) cx dX6_cellOf_100 ?_
            refine r_isub (pc := 101) cx dX6_cellOf_101 ?_
            refine r_iaload (pc := 102) cx (lw56 hM) rfl (by decide) dX6_cellOf_102 ?_
            exact r_ireturn (w0 := w) (fun _ _ h => h) (Nat.zero_le _) (Nat.zero_le _) cx dX6_cellOf_103 rfl
          · refine r_aload_n (pc := 82) cx dX6_cellOf_82 rfl ?_
            refine r_get (pc := 83) cx hcl_X6 qc_X6 (lw47 hM) (j := 4) (by decide) wf_X6_19 dX6_cellOf_83 (x := .ref (ad 51)) rfl ?_
            refine r_iload_n (pc := 86) cx dX6_cellOf_86 rfl ?_
            refine r_iaload (pc := 87) cx (lw51 hM) rfl (by decide) dX6_cellOf_87 ?_
            refine r_goto (pc := 88) (tgt := 103) cx dX6_cellOf_88 (by decide) ?_
            exact r_ireturn (w0 := w) (fun _ _ h => h) (Nat.zero_le _) (Nat.zero_le _) cx dX6_cellOf_103 rfl
        · refine r_aload_n (pc := 68) cx dX6_cellOf_68 rfl ?_
          refine r_get (pc := 69) cx hcl_X6 qc_X6 (lw47 hM) (j := 3) (by decide) wf_X6_16 dX6_cellOf_69 (x := .ref (ad 50)) rfl ?_
          refine r_iload_n (pc := 72) cx dX6_cellOf_72 rfl ?_
          refine r_iaload (pc := 73) cx (lw50 hM) rfl (by decide) dX6_cellOf_73 ?_
          refine r_goto (pc := 74) (tgt := 103) cx dX6_cellOf_74 (by decide) ?_
          exact r_ireturn (w0 := w) (fun _ _ h => h) (Nat.zero_le _) (Nat.zero_le _) cx dX6_cellOf_103 rfl
      · refine r_aload_n (pc := 54) cx dX6_cellOf_54 rfl ?_
        refine r_get (pc := 55) cx hcl_X6 qc_X6 (lw47 hM) (j := 2) (by decide) wf_X6_13 dX6_cellOf_55 (x := .ref (ad 49)) rfl ?_
        refine r_iload_n (pc := 58) cx dX6_cellOf_58 rfl ?_
        refine r_iaload (pc := 59) cx (lw49 hM) rfl (by decide) dX6_cellOf_59 ?_
        refine r_goto (pc := 60) (tgt := 103) cx dX6_cellOf_60 (by decide) ?_
        exact r_ireturn (w0 := w) (fun _ _ h => h) (Nat.zero_le _) (Nat.zero_le _) cx dX6_cellOf_103 rfl
    · refine r_aload_n (pc := 40) cx dX6_cellOf_40 rfl ?_
      refine r_get (pc := 41) cx hcl_X6 qc_X6 (lw47 hM) (j := 1) (by decide) wf_X6_7 dX6_cellOf_41 (x := .ref (ad 48)) rfl ?_
      refine r_iload_n (pc := 44) cx dX6_cellOf_44 rfl ?_
      refine r_iaload (pc := 45) cx (lw48 hM) rfl (by decide) dX6_cellOf_45 ?_
      refine r_goto (pc := 46) (tgt := 103) cx dX6_cellOf_46 (by decide) ?_
      exact r_ireturn (w0 := w) (fun _ _ h => h) (Nat.zero_le _) (Nat.zero_le _) cx dX6_cellOf_103 rfl
  · refine r_iconst (pc := 34) cx dX6_cellOf_34 ?_
    exact r_ireturn (w0 := w) (fun _ _ h => h) (Nat.zero_le _) (Nat.zero_le _) cx dX6_cellOf_35 rfl
def fX6_cellOf (p0 : Int) (p1 : Int) (σ : qSt) : Option (Int × qSt) :=
  ((fX6_isCell σ p0).bind fun (r3 : Int) => (if qI r3 = 0 then (fX6_cellOf_c28 p0 p1 1 σ) else ((fX6_within σ p1 0 7).bind fun (r17 : Int) => (if qI r17 = 0 then (fX6_cellOf_c28 p0 p1 2 σ) else (fX6_cellOf_c28 p0 p1 0 σ)))))
set_option maxRecDepth 100000 in
set_option maxHeartbeats 4000000 in
theorem tX6_cellOf {l : Launch} {z0 : Nat} {g : qG} {w : qWd} {ad : Nat → Nat} (hM : qBM g ad w) (p0 : Int) (p1 : Int) (σ : qSt) : qCT l yX6_cellOf cX6_cellOf 3 (some .int) qrm2 g z0 w [.ref (ad 47), .int (qI p0), .int (qI p1)] σ (fX6_cellOf p0 p1 σ) qri := by
  refine qCT.of [(0, some (.ref (ad 47))), (1, some (.int (qI p0))), (2, some (.int (qI p1)))] (by decide +kernel) (Nat.le_of_ble_eq_true rfl) rfl ?_
  intro p e s m args below meth c cx
  unfold fX6_cellOf
  refine r_aload_n (pc := 0) cx dX6_cellOf_0 rfl ?_
  refine r_aload_n (pc := 1) cx dX6_cellOf_1 rfl ?_
  refine r_iload_n (pc := 2) cx dX6_cellOf_2 rfl ?_
  refine r_pVi (pc := 3) cx (tX6_isCell hM p0 σ) qm_X6_isCell qv_X6_isCell hcl_X6 (lw47 hM) wm_X6_77 dX6_cellOf_3 rfl rfl (Nat.le_of_ble_eq_true rfl) ⟨Nat.le_of_ble_eq_true rfl, Nat.le_of_ble_eq_true rfl⟩ ⟨rfl, rfl⟩ ⟨Nat.zero_le _, Nat.zero_le _⟩ (fun r3 => ?_)
  refine r_if_ne (tgt := 13) cx dX6_cellOf_6 (by decide) ?_ ?_
  · refine r_iload_n (pc := 13) cx dX6_cellOf_13 rfl ?_
    refine r_iconst (pc := 14) cx dX6_cellOf_14 ?_
    refine r_bipush (pc := 15) (v := 7) cx dX6_cellOf_15 (by decide +kernel) ?_
    refine r_pSi (pc := 17) cx (tX6_within  p1 0 7 σ) qm_X6_within qs_X6_within wm_X6_62 dX6_cellOf_17 rfl rfl (Nat.le_of_ble_eq_true rfl) ⟨Nat.le_of_ble_eq_true rfl, Nat.le_of_ble_eq_true rfl⟩ ⟨rfl, rfl⟩ ⟨Nat.zero_le _, Nat.zero_le _⟩ (fun r17 => ?_)
    refine r_if_ne (tgt := 27) cx dX6_cellOf_20 (by decide) ?_ ?_
    · refine r_iconst (pc := 27) cx dX6_cellOf_27 ?_
      exact qS.sub (qsub_cons rfl (qsub_cons rfl (qsub_cons rfl (qsub_nil _)))) (tX6_cellOf_c28 cx hM _ _ _ _)
    · refine r_iconst (pc := 23) cx dX6_cellOf_23 ?_
      refine r_goto (pc := 24) (tgt := 28) cx dX6_cellOf_24 (by decide) ?_
      exact qS.sub (qsub_cons rfl (qsub_cons rfl (qsub_cons rfl (qsub_nil _)))) (tX6_cellOf_c28 cx hM _ _ _ _)
  · refine r_iconst (pc := 9) cx dX6_cellOf_9 ?_
    refine r_goto (pc := 10) (tgt := 28) cx dX6_cellOf_10 (by decide) ?_
    exact qS.sub (qsub_cons rfl (qsub_cons rfl (qsub_cons rfl (qsub_nil _)))) (tX6_cellOf_c28 cx hM _ _ _ _)
def fX6_bodyOf_c28 (x1 : Int) (x2 : Int) (s0 : Int) (σ : qSt) : Option (Int × qSt) :=
  (qbd (fX6_refused s0 σ) fun (r28 : Int) (σ1 : qSt) => (if qI r28 = 0 then (qb (3 * x1) fun (y2 : Int) => (if qI x2 = 0 then ((fX6_cellsOf σ1 x1).bind fun (r46 : Int) => (some (r46, σ1))) else (if qI 4 ≤ qI x2 then (if 0 ≤ ((y2 + x2) - 3) ∧ ((y2 + x2) - 3) < 12 then (if 0 ≤ x1 ∧ x1 < 4 then (if 0 ≤ y2 ∧ y2 < 12 then (some (((σ1 58 ((y2 + x2) - 3)) + ((σ1 59 x1) * (σ1 58 y2))), σ1)) else none) else none) else none) else (if 0 ≤ ((y2 + x2) - 1) ∧ ((y2 + x2) - 1) < 12 then (some ((σ1 58 ((y2 + x2) - 1)), σ1)) else none)))) else (some (0, σ1))))
set_option maxRecDepth 100000 in
set_option maxHeartbeats 4000000 in
theorem tX6_bodyOf_c28 {p : Program} {l : Launch} {e : Env} {s : State} {m : MethodId} {args : Array Value} {below : List Frame} {meth : Method} {c : Code} {z0 : Nat} {g : qG} {w : qWd} {ad : Nat → Nat} (cx : qCx p s m meth c cX6_bodyOf 4 RX6 (some .int) g z0) (hM : qBM g ad w) (x1 : Int) (x2 : Int) (s0 : Int) (σ : qSt) : qS p l e qrm1 s m args below meth c 4 g z0 w 0 0 (qQ below g z0 w qri args s 0 0) (fX6_bodyOf_c28 x1 x2 s0 σ) σ 28 [(0, some (.ref (ad 47))), (1, some (.int (qI x1))), (2, some (.int (qI x2)))] [.int (qI s0), .ref (ad 47)] := by
  unfold fX6_bodyOf_c28
  refine r_dVi (pc := 28) cx (tX6_refused hM s0 σ) qm_X6_refused qv_X6_refused hcl_X6 (lw47 hM) wm_X6_84 dX6_bodyOf_28 rfl rfl (Nat.le_of_ble_eq_true rfl) ⟨Nat.le_of_ble_eq_true rfl, Nat.le_of_ble_eq_true rfl⟩ ⟨rfl, rfl⟩ ⟨Nat.zero_le _, Nat.zero_le _⟩ (fun r28 σ1 => ?_)
  refine r_if_eq (tgt := 36) cx dX6_bodyOf_31 (by decide) ?_ ?_
  · refine r_iconst (pc := 36) cx dX6_bodyOf_36 ?_
    refine r_iload_n (pc := 37) cx dX6_bodyOf_37 rfl ?_
    refine r_imul (pc := 38) cx dX6_bodyOf_38 ?_
    refine r_nmi (fun y2 => ?_)
    refine r_istore_n (pc := 39) cx dX6_bodyOf_39 (by decide) rfl ?_
    refine r_iload_n (pc := 40) cx dX6_bodyOf_40 rfl ?_
    refine r_if_ne (tgt := 52) cx dX6_bodyOf_41 (by decide) ?_ ?_
    · refine r_iload_n (pc := 52) cx dX6_bodyOf_52 rfl ?_
      refine r_iconst (pc := 53) cx dX6_bodyOf_53 ?_
      refine r_icmp_ge (tgt := 70) cx dX6_bodyOf_54 (by decide) ?_ ?_
      · refine r_aload_n (pc := 70) cx dX6_bodyOf_70 rfl ?_
        refine r_get (pc := 71) cx hcl_X6 qc_X6 (lw47 hM) (j := 11) (by decide) wf_X6_40 dX6_bodyOf_71 (x := .ref (ad 58)) rfl ?_
        refine r_iload_n (pc := 74) cx dX6_bodyOf_74 rfl ?_
        refine r_iload_n (pc := 75) cx dX6_bodyOf_75 rfl ?_
        refine r_iadd (pc := 76) cx dX6_bodyOf_76 ?_
        refine r_iconst (pc := 77) cx dX6_bodyOf_77 ?_
        refine r_isub (pc := 78) cx dX6_bodyOf_78 ?_
        refine r_iaload (pc := 79) cx (lw58 hM) rfl (by decide) dX6_bodyOf_79 ?_
        refine r_aload_n (pc := 80) cx dX6_bodyOf_80 rfl ?_
        refine r_get (pc := 81) cx hcl_X6 qc_X6 (lw47 hM) (j := 12) (by decide) wf_X6_43 dX6_bodyOf_81 (x := .ref (ad 59)) rfl ?_
        refine r_iload_n (pc := 84) cx dX6_bodyOf_84 rfl ?_
        refine r_iaload (pc := 85) cx (lw59 hM) rfl (by decide) dX6_bodyOf_85 ?_
        refine r_aload_n (pc := 86) cx dX6_bodyOf_86 rfl ?_
        refine r_get (pc := 87) cx hcl_X6 qc_X6 (lw47 hM) (j := 11) (by decide) wf_X6_40 dX6_bodyOf_87 (x := .ref (ad 58)) rfl ?_
        refine r_iload_n (pc := 90) cx dX6_bodyOf_90 rfl ?_
        refine r_iaload (pc := 91) cx (lw58 hM) rfl (by decide) dX6_bodyOf_91 ?_
        refine r_imul (pc := 92) cx dX6_bodyOf_92 ?_
        refine r_iadd (pc := 93) cx dX6_bodyOf_93 ?_
        exact r_ireturn (w0 := w) (fun _ _ h => h) (Nat.zero_le _) (Nat.zero_le _) cx dX6_bodyOf_94 rfl
      · refine r_aload_n (pc := 57) cx dX6_bodyOf_57 rfl ?_
        refine r_get (pc := 58) cx hcl_X6 qc_X6 (lw47 hM) (j := 11) (by decide) wf_X6_40 dX6_bodyOf_58 (x := .ref (ad 58)) rfl ?_
        refine r_iload_n (pc := 61) cx dX6_bodyOf_61 rfl ?_
        refine r_iload_n (pc := 62) cx dX6_bodyOf_62 rfl ?_
        refine r_iadd (pc := 63) cx dX6_bodyOf_63 ?_
        refine r_iconst (pc := 64) cx dX6_bodyOf_64 ?_
        refine r_isub (pc := 65) cx dX6_bodyOf_65 ?_
        refine r_iaload (pc := 66) cx (lw58 hM) rfl (by decide) dX6_bodyOf_66 ?_
        refine r_goto (pc := 67) (tgt := 94) cx dX6_bodyOf_67 (by decide) ?_
        exact r_ireturn (w0 := w) (fun _ _ h => h) (Nat.zero_le _) (Nat.zero_le _) cx dX6_bodyOf_94 rfl
    · refine r_aload_n (pc := 44) cx dX6_bodyOf_44 rfl ?_
      refine r_iload_n (pc := 45) cx dX6_bodyOf_45 rfl ?_
      refine r_pVi (pc := 46) cx (tX6_cellsOf hM x1 σ1) qm_X6_cellsOf qv_X6_cellsOf hcl_X6 (lw47 hM) wm_X6_73 dX6_bodyOf_46 rfl rfl (Nat.le_of_ble_eq_true rfl) ⟨Nat.le_of_ble_eq_true rfl, Nat.le_of_ble_eq_true rfl⟩ ⟨rfl, rfl⟩ ⟨Nat.zero_le _, Nat.zero_le _⟩ (fun r46 => ?_)
      refine r_goto (pc := 49) (tgt := 94) cx dX6_bodyOf_49 (by decide) ?_
      exact r_ireturn (w0 := w) (fun _ _ h => h) (Nat.zero_le _) (Nat.zero_le _) cx dX6_bodyOf_94 rfl
  · refine r_iconst (pc := 34) cx dX6_bodyOf_34 ?_
    exact r_ireturn (w0 := w) (fun _ _ h => h) (Nat.zero_le _) (Nat.zero_le _) cx dX6_bodyOf_35 rfl
def fX6_bodyOf (p0 : Int) (p1 : Int) (σ : qSt) : Option (Int × qSt) :=
  ((fX6_within σ p0 0 3).bind fun (r4 : Int) => (if qI r4 = 0 then (fX6_bodyOf_c28 p0 p1 1 σ) else ((fX6_within σ p1 0 5).bind fun (r17 : Int) => (if qI r17 = 0 then (fX6_bodyOf_c28 p0 p1 2 σ) else (fX6_bodyOf_c28 p0 p1 0 σ)))))
set_option maxRecDepth 100000 in
set_option maxHeartbeats 4000000 in
theorem tX6_bodyOf {l : Launch} {z0 : Nat} {g : qG} {w : qWd} {ad : Nat → Nat} (hM : qBM g ad w) (p0 : Int) (p1 : Int) (σ : qSt) : qCT l yX6_bodyOf cX6_bodyOf 4 (some .int) qrm1 g z0 w [.ref (ad 47), .int (qI p0), .int (qI p1)] σ (fX6_bodyOf p0 p1 σ) qri := by
  refine qCT.of [(0, some (.ref (ad 47))), (1, some (.int (qI p0))), (2, some (.int (qI p1)))] (by decide +kernel) (Nat.le_of_ble_eq_true rfl) rfl ?_
  intro p e s m args below meth c cx
  unfold fX6_bodyOf
  refine r_aload_n (pc := 0) cx dX6_bodyOf_0 rfl ?_
  refine r_iload_n (pc := 1) cx dX6_bodyOf_1 rfl ?_
  refine r_iconst (pc := 2) cx dX6_bodyOf_2 ?_
  refine r_iconst (pc := 3) cx dX6_bodyOf_3 ?_
  refine r_pSi (pc := 4) cx (tX6_within  p0 0 3 σ) qm_X6_within qs_X6_within wm_X6_62 dX6_bodyOf_4 rfl rfl (Nat.le_of_ble_eq_true rfl) ⟨Nat.le_of_ble_eq_true rfl, Nat.le_of_ble_eq_true rfl⟩ ⟨rfl, rfl⟩ ⟨Nat.zero_le _, Nat.zero_le _⟩ (fun r4 => ?_)
  refine r_if_ne (tgt := 14) cx dX6_bodyOf_7 (by decide) ?_ ?_
  · refine r_iload_n (pc := 14) cx dX6_bodyOf_14 rfl ?_
    refine r_iconst (pc := 15) cx dX6_bodyOf_15 ?_
    refine r_iconst (pc := 16) cx dX6_bodyOf_16 ?_
    refine r_pSi (pc := 17) cx (tX6_within  p1 0 5 σ) qm_X6_within qs_X6_within wm_X6_62 dX6_bodyOf_17 rfl rfl (Nat.le_of_ble_eq_true rfl) ⟨Nat.le_of_ble_eq_true rfl, Nat.le_of_ble_eq_true rfl⟩ ⟨rfl, rfl⟩ ⟨Nat.zero_le _, Nat.zero_le _⟩ (fun r17 => ?_)
    refine r_if_ne (tgt := 27) cx dX6_bodyOf_20 (by decide) ?_ ?_
    · refine r_iconst (pc := 27) cx dX6_bodyOf_27 ?_
      exact qS.sub (qsub_cons rfl (qsub_cons rfl (qsub_cons rfl (qsub_nil _)))) (tX6_bodyOf_c28 cx hM _ _ _ _)
    · refine r_iconst (pc := 23) cx dX6_bodyOf_23 ?_
      refine r_goto (pc := 24) (tgt := 28) cx dX6_bodyOf_24 (by decide) ?_
      exact qS.sub (qsub_cons rfl (qsub_cons rfl (qsub_cons rfl (qsub_nil _)))) (tX6_bodyOf_c28 cx hM _ _ _ _)
  · refine r_iconst (pc := 10) cx dX6_bodyOf_10 ?_
    refine r_goto (pc := 11) (tgt := 28) cx dX6_bodyOf_11 (by decide) ?_
    exact qS.sub (qsub_cons rfl (qsub_cons rfl (qsub_cons rfl (qsub_nil _)))) (tX6_bodyOf_c28 cx hM _ _ _ _)
def fX6_rightOf (σ : qSt) (p0 : Int) : Option Int :=
  (some ((qand p0 1) - (qand (qshr p0 2) 1)))
set_option maxRecDepth 100000 in
set_option maxHeartbeats 4000000 in
theorem tX6_rightOf {l : Launch} {z0 : Nat} {g : qG} {w : qWd} (p0 : Int) (σ : qSt) : qCT l yX6_rightOf cX6_rightOf 1 (some .int) qrm0 g z0 w [.int (qI p0)] σ (qlift (fX6_rightOf σ p0) σ) qri := by
  refine qCTp.of [(0, some (.int (qI p0)))] (by decide +kernel) (Nat.le_of_ble_eq_true rfl) rfl ?_
  intro p e s m args below meth c cx
  unfold fX6_rightOf
  refine r_iload_n (pc := 0) cx dX6_rightOf_0 rfl ?_
  refine r_iconst (pc := 1) cx dX6_rightOf_1 ?_
  refine r_iand (pc := 2) cx dX6_rightOf_2 ?_
  refine r_iload_n (pc := 3) cx dX6_rightOf_3 rfl ?_
  refine r_iconst (pc := 4) cx dX6_rightOf_4 ?_
  refine r_ishr (pc := 5) cx dX6_rightOf_5 ?_
  refine r_iconst (pc := 6) cx dX6_rightOf_6 ?_
  refine r_iand (pc := 7) cx dX6_rightOf_7 ?_
  refine r_isub (pc := 8) cx dX6_rightOf_8 ?_
  exact r_ireturn (w0 := w) (fun _ _ h => h) (Nat.zero_le _) (Nat.zero_le _) cx dX6_rightOf_9 rfl
def fX6_upOf (σ : qSt) (p0 : Int) : Option Int :=
  (some ((qand (qshr p0 1) 1) - (qand (qshr p0 3) 1)))
set_option maxRecDepth 100000 in
set_option maxHeartbeats 4000000 in
theorem tX6_upOf {l : Launch} {z0 : Nat} {g : qG} {w : qWd} (p0 : Int) (σ : qSt) : qCT l yX6_upOf cX6_upOf 1 (some .int) qrm0 g z0 w [.int (qI p0)] σ (qlift (fX6_upOf σ p0) σ) qri := by
  refine qCTp.of [(0, some (.int (qI p0)))] (by decide +kernel) (Nat.le_of_ble_eq_true rfl) rfl ?_
  intro p e s m args below meth c cx
  unfold fX6_upOf
  refine r_iload_n (pc := 0) cx dX6_upOf_0 rfl ?_
  refine r_iconst (pc := 1) cx dX6_upOf_1 ?_
  refine r_ishr (pc := 2) cx dX6_upOf_2 ?_
  refine r_iconst (pc := 3) cx dX6_upOf_3 ?_
  refine r_iand (pc := 4) cx dX6_upOf_4 ?_
  refine r_iload_n (pc := 5) cx dX6_upOf_5 rfl ?_
  refine r_iconst (pc := 6) cx dX6_upOf_6 ?_
  refine r_ishr (pc := 7) cx dX6_upOf_7 ?_
  refine r_iconst (pc := 8) cx dX6_upOf_8 ?_
  refine r_iand (pc := 9) cx dX6_upOf_9 ?_
  refine r_isub (pc := 10) cx dX6_upOf_10 ?_
  exact r_ireturn (w0 := w) (fun _ _ h => h) (Nat.zero_le _) (Nat.zero_le _) cx dX6_upOf_11 rfl
def fX6_sum_c124 (x1 : Int) (x2 : Int) (σ : qSt) : Option (Int × qSt) :=
  (if qI x1 = 0 then (some ((qi2l (σ 47 15)), σ)) else (if qI x1 = qI 1 then (some ((qi2l (σ 47 16)), σ)) else (if qI x1 = qI 6 then (some ((σ 47 17), σ)) else (if qI x1 = qI 7 then ((fX6_allCounts σ).bind fun (r169 : Int) => (some (r169, σ))) else (some (x2, σ))))))
set_option maxRecDepth 100000 in
set_option maxHeartbeats 4000000 in
theorem tX6_sum_c124 {p : Program} {l : Launch} {e : Env} {s : State} {m : MethodId} {args : Array Value} {below : List Frame} {meth : Method} {c : Code} {z0 : Nat} {g : qG} {w : qWd} {ad : Nat → Nat} (cx : qCx p s m meth c cX6_sum 5 RX6 (some .long) g z0) (hM : qBM g ad w) (x1 : Int) (x2 : Int) (σ : qSt) : qS p l e qrm1 s m args below meth c 5 g z0 w 0 0 (qQ below g z0 w qrj args s 0 0) (fX6_sum_c124 x1 x2 σ) σ 124 [(0, some (.ref (ad 47))), (1, some (.int (qI x1))), (2, some (.long (qJ x2)))] [] := by
  unfold fX6_sum_c124
  refine r_iload_n (pc := 124) cx dX6_sum_124 rfl ?_
  refine r_if_ne (tgt := 136) cx dX6_sum_125 (by decide) ?_ ?_
  · refine r_iload_n (pc := 136) cx dX6_sum_136 rfl ?_
    refine r_iconst (pc := 137) cx dX6_sum_137 ?_
    refine r_icmp_ne (tgt := 149) cx dX6_sum_138 (by decide) ?_ ?_
    · refine r_iload_n (pc := 149) cx dX6_sum_149 rfl ?_
      refine r_bipush (pc := 150) (v := 6) cx dX6_sum_150 (by decide +kernel) ?_
      refine r_icmp_ne (tgt := 162) cx dX6_sum_152 (by decide) ?_ ?_
      · refine r_iload_n (pc := 162) cx dX6_sum_162 rfl ?_
        refine r_bipush (pc := 163) (v := 7) cx dX6_sum_163 (by decide +kernel) ?_
        refine r_icmp_ne (tgt := 175) cx dX6_sum_165 (by decide) ?_ ?_
        · refine r_lload_n (pc := 175) cx dX6_sum_175 rfl ?_
          exact r_lreturn (w0 := w) (fun _ _ h => h) (Nat.zero_le _) (Nat.zero_le _) cx dX6_sum_176 rfl
        · refine r_aload_n (pc := 168) cx dX6_sum_168 rfl ?_
          refine r_pVj (pc := 169) cx (tX6_allCounts hM  σ) qm_X6_allCounts qv_X6_allCounts hcl_X6 (lw47 hM) wm_X6_94 dX6_sum_169 rfl rfl (Nat.le_of_ble_eq_true rfl) ⟨Nat.le_of_ble_eq_true rfl, Nat.le_of_ble_eq_true rfl⟩ ⟨rfl, rfl⟩ ⟨Nat.zero_le _, Nat.zero_le _⟩ (fun r169 => ?_)
          refine r_goto (pc := 172) (tgt := 176) cx dX6_sum_172 (by decide) ?_
          exact r_lreturn (w0 := w) (fun _ _ h => h) (Nat.zero_le _) (Nat.zero_le _) cx dX6_sum_176 rfl
      · refine r_aload_n (pc := 155) cx dX6_sum_155 rfl ?_
        refine r_get (pc := 156) cx hcl_X6 qc_X6 (lw47 hM) (j := 17) (by decide) wf_X6_134 dX6_sum_156 (x := .long (qJ (σ 47 17))) rfl ?_
        refine r_goto (pc := 159) (tgt := 176) cx dX6_sum_159 (by decide) ?_
        exact r_lreturn (w0 := w) (fun _ _ h => h) (Nat.zero_le _) (Nat.zero_le _) cx dX6_sum_176 rfl
    · refine r_aload_n (pc := 141) cx dX6_sum_141 rfl ?_
      refine r_get (pc := 142) cx hcl_X6 qc_X6 (lw47 hM) (j := 16) (by decide) wf_X6_87 dX6_sum_142 (x := .int (qI (σ 47 16))) rfl ?_
      refine r_i2l (pc := 145) cx dX6_sum_145 ?_
      refine r_goto (pc := 146) (tgt := 176) cx dX6_sum_146 (by decide) ?_
      exact r_lreturn (w0 := w) (fun _ _ h => h) (Nat.zero_le _) (Nat.zero_le _) cx dX6_sum_176 rfl
  · refine r_aload_n (pc := 128) cx dX6_sum_128 rfl ?_
    refine r_get (pc := 129) cx hcl_X6 qc_X6 (lw47 hM) (j := 15) (by decide) wf_X6_123 dX6_sum_129 (x := .int (qI (σ 47 15))) rfl ?_
    refine r_i2l (pc := 132) cx dX6_sum_132 ?_
    refine r_goto (pc := 133) (tgt := 176) cx dX6_sum_133 (by decide) ?_
    exact r_lreturn (w0 := w) (fun _ _ h => h) (Nat.zero_le _) (Nat.zero_le _) cx dX6_sum_176 rfl
def fX6_sum_c116 (k29 : Int → Int → Int → qSt → Option (Int × qSt)) (x1 : Int) (x4 : Int) (s0 : Int) (s1 : Int) (σ : qSt) : Option (Int × qSt) :=
  (qb (s1 + s0) fun (y2 : Int) => (k29 x1 y2 (x4 + 1) σ))
set_option maxRecDepth 100000 in
set_option maxHeartbeats 4000000 in
theorem tX6_sum_c116 {p : Program} {l : Launch} {e : Env} {s : State} {m : MethodId} {args : Array Value} {below : List Frame} {meth : Method} {c : Code} {z0 : Nat} {g : qG} {w : qWd} {ad : Nat → Nat} (cx : qCx p s m meth c cX6_sum 5 RX6 (some .long) g z0) (hM : qBM g ad w) {k29 : Int → Int → Int → qSt → Option (Int × qSt)} (hk29 : ∀ (x1 : Int) (x2 : Int) (x4 : Int) (σ : qSt), qS p l e qrm1 s m args below meth c 5 g z0 w 0 0 (qQ below g z0 w qrj args s 0 0) (k29 x1 x2 x4 σ) σ 29 [(0, some (.ref (ad 47))), (1, some (.int (qI x1))), (2, some (.long (qJ x2))), (4, some (.int (qI x4)))] []) (x1 : Int) (x4 : Int) (s0 : Int) (s1 : Int) (σ : qSt) : qS p l e qrm1 s m args below meth c 5 g z0 w 0 0 (qQ below g z0 w qrj args s 0 0) (fX6_sum_c116 k29 x1 x4 s0 s1 σ) σ 116 [(0, some (.ref (ad 47))), (1, some (.int (qI x1))), (4, some (.int (qI x4)))] [.long (qJ s0), .long (qJ s1)] := by
  unfold fX6_sum_c116
  refine r_ladd (pc := 116) cx dX6_sum_116 ?_
  refine r_nml (fun y2 => ?_)
  refine r_lstore_n (pc := 117) cx dX6_sum_117 (by decide) rfl ?_
  refine r_iinc (pc := 118) cx dX6_sum_118 rfl (by decide) rfl ?_
  refine r_goto (pc := 121) (tgt := 29) cx dX6_sum_121 (by decide) ?_
  exact qS.sub (qsub_cons rfl (qsub_cons rfl (qsub_cons rfl (qsub_cons rfl (qsub_nil _))))) (hk29 _ _ _ _)
def fX6_sum_c29 : Nat → Int → Int → Int → qSt → Option (Int × qSt)
  | 0, _, _, _, _ => none
  | f + 1, x1, x2, x4, σ => (if qI 96 ≤ qI x4 then (fX6_sum_c124 x1 x2 σ) else (if qI x1 ≤ qI 1 then (fX6_sum_c124 x1 x2 σ) else (if qI 6 ≤ qI x1 then (fX6_sum_c124 x1 x2 σ) else (if qI x1 = qI 2 then (if 0 ≤ x4 ∧ x4 < 96 then ((fX6_many σ (σ 50 x4)).bind fun (r60 : Int) => (fX6_sum_c116 (fX6_sum_c29 f) x1 x4 (qi2l r60) x2 σ)) else none) else (if qI x1 = qI 3 then (if 0 ≤ x4 ∧ x4 < 96 then ((fX6_many σ (σ 51 x4)).bind fun (r79 : Int) => (fX6_sum_c116 (fX6_sum_c29 f) x1 x4 (qi2l r79) x2 σ)) else none) else (if qI x1 = qI 4 then (if 0 ≤ x4 ∧ x4 < 96 then ((fX6_rightOf σ (σ 50 x4)).bind fun (r98 : Int) => (fX6_sum_c116 (fX6_sum_c29 f) x1 x4 (qi2l r98) x2 σ)) else none) else (if 0 ≤ x4 ∧ x4 < 96 then ((fX6_upOf σ (σ 50 x4)).bind fun (r112 : Int) => (fX6_sum_c116 (fX6_sum_c29 f) x1 x4 (qi2l r112) x2 σ)) else none)))))))
set_option maxRecDepth 100000 in
set_option maxHeartbeats 4000000 in
theorem tX6_sum_c29 {p : Program} {l : Launch} {e : Env} {s : State} {m : MethodId} {args : Array Value} {below : List Frame} {meth : Method} {c : Code} {z0 : Nat} {g : qG} {w : qWd} {ad : Nat → Nat} (cx : qCx p s m meth c cX6_sum 5 RX6 (some .long) g z0) (hM : qBM g ad w) : ∀ (f : Nat) (x1 : Int) (x2 : Int) (x4 : Int) (σ : qSt), qS p l e qrm1 s m args below meth c 5 g z0 w 0 0 (qQ below g z0 w qrj args s 0 0) (fX6_sum_c29 f x1 x2 x4 σ) σ 29 [(0, some (.ref (ad 47))), (1, some (.int (qI x1))), (2, some (.long (qJ x2))), (4, some (.int (qI x4)))] [] := by
  intro f
  induction f with
  | zero => exact fun _ _ _ _ => qS.fail
  | succ f ih =>
    intro x1 x2 x4 σ
    unfold fX6_sum_c29
    refine r_iload (pc := 29) cx dX6_sum_29 rfl ?_
    refine r_bipush (pc := 31) (v := 96) cx dX6_sum_31 (by decide +kernel) ?_
    refine r_icmp_ge (tgt := 124) cx dX6_sum_33 (by decide) ?_ ?_
    · exact qS.sub (qsub_cons rfl (qsub_cons rfl (qsub_cons rfl (qsub_nil _)))) (tX6_sum_c124 cx hM _ _ _)
    · refine r_iload_n (pc := 36) cx dX6_sum_36 rfl ?_
      refine r_iconst (pc := 37) cx dX6_sum_37 ?_
      refine r_icmp_le (tgt := 124) cx dX6_sum_38 (by decide) ?_ ?_
      · exact qS.sub (qsub_cons rfl (qsub_cons rfl (qsub_cons rfl (qsub_nil _)))) (tX6_sum_c124 cx hM _ _ _)
      · refine r_iload_n (pc := 41) cx dX6_sum_41 rfl ?_
        refine r_bipush (pc := 42) (v := 6) cx dX6_sum_42 (by decide +kernel) ?_
        refine r_icmp_ge (tgt := 124) cx dX6_sum_44 (by decide) ?_ ?_
        · exact qS.sub (qsub_cons rfl (qsub_cons rfl (qsub_cons rfl (qsub_nil _)))) (tX6_sum_c124 cx hM _ _ _)
        · refine r_lload_n (pc := 47) cx dX6_sum_47 rfl ?_
          refine r_iload_n (pc := 48) cx dX6_sum_48 rfl ?_
          refine r_iconst (pc := 49) cx dX6_sum_49 ?_
          refine r_icmp_ne (tgt := 67) cx dX6_sum_50 (by decide) ?_ ?_
          · refine r_iload_n (pc := 67) cx dX6_sum_67 rfl ?_
            refine r_iconst (pc := 68) cx dX6_sum_68 ?_
            refine r_icmp_ne (tgt := 86) cx dX6_sum_69 (by decide) ?_ ?_
            · refine r_iload_n (pc := 86) cx dX6_sum_86 rfl ?_
              refine r_iconst (pc := 87) cx dX6_sum_87 ?_
              refine r_icmp_ne (tgt := 105) cx dX6_sum_88 (by decide) ?_ ?_
              · refine r_aload_n (pc := 105) cx dX6_sum_105 rfl ?_
                refine r_get (pc := 106) cx hcl_X6 qc_X6 (lw47 hM) (j := 3) (by decide) wf_X6_16 dX6_sum_106 (x := .ref (ad 50)) rfl ?_
                refine r_iload (pc := 109) cx dX6_sum_109 rfl ?_
                refine r_iaload (pc := 111) cx (lw50 hM) rfl (by decide) dX6_sum_111 ?_
                refine r_pSi (pc := 112) cx (tX6_upOf  (σ 50 x4) σ) qm_X6_upOf qs_X6_upOf wm_X6_154 dX6_sum_112 rfl rfl (Nat.le_of_ble_eq_true rfl) ⟨Nat.le_of_ble_eq_true rfl, Nat.le_of_ble_eq_true rfl⟩ ⟨rfl, rfl⟩ ⟨Nat.zero_le _, Nat.zero_le _⟩ (fun r112 => ?_)
                refine r_i2l (pc := 115) cx dX6_sum_115 ?_
                exact qS.sub (qsub_cons rfl (qsub_cons rfl (qsub_cons rfl (qsub_nil _)))) (tX6_sum_c116 cx hM ih _ _ _ _ _)
              · refine r_aload_n (pc := 91) cx dX6_sum_91 rfl ?_
                refine r_get (pc := 92) cx hcl_X6 qc_X6 (lw47 hM) (j := 3) (by decide) wf_X6_16 dX6_sum_92 (x := .ref (ad 50)) rfl ?_
                refine r_iload (pc := 95) cx dX6_sum_95 rfl ?_
                refine r_iaload (pc := 97) cx (lw50 hM) rfl (by decide) dX6_sum_97 ?_
                refine r_pSi (pc := 98) cx (tX6_rightOf  (σ 50 x4) σ) qm_X6_rightOf qs_X6_rightOf wm_X6_151 dX6_sum_98 rfl rfl (Nat.le_of_ble_eq_true rfl) ⟨Nat.le_of_ble_eq_true rfl, Nat.le_of_ble_eq_true rfl⟩ ⟨rfl, rfl⟩ ⟨Nat.zero_le _, Nat.zero_le _⟩ (fun r98 => ?_)
                refine r_i2l (pc := 101) cx dX6_sum_101 ?_
                refine r_goto (pc := 102) (tgt := 116) cx dX6_sum_102 (by decide) ?_
                exact qS.sub (qsub_cons rfl (qsub_cons rfl (qsub_cons rfl (qsub_nil _)))) (tX6_sum_c116 cx hM ih _ _ _ _ _)
            · refine r_aload_n (pc := 72) cx dX6_sum_72 rfl ?_
              refine r_get (pc := 73) cx hcl_X6 qc_X6 (lw47 hM) (j := 4) (by decide) wf_X6_19 dX6_sum_73 (x := .ref (ad 51)) rfl ?_
              refine r_iload (pc := 76) cx dX6_sum_76 rfl ?_
              refine r_iaload (pc := 78) cx (lw51 hM) rfl (by decide) dX6_sum_78 ?_
              refine r_pSi (pc := 79) cx (tX6_many  (σ 51 x4) σ) qm_X6_many qs_X6_many wm_X6_90 dX6_sum_79 rfl rfl (Nat.le_of_ble_eq_true rfl) ⟨Nat.le_of_ble_eq_true rfl, Nat.le_of_ble_eq_true rfl⟩ ⟨rfl, rfl⟩ ⟨Nat.zero_le _, Nat.zero_le _⟩ (fun r79 => ?_)
              refine r_i2l (pc := 82) cx dX6_sum_82 ?_
              refine r_goto (pc := 83) (tgt := 116) cx dX6_sum_83 (by decide) ?_
              exact qS.sub (qsub_cons rfl (qsub_cons rfl (qsub_cons rfl (qsub_nil _)))) (tX6_sum_c116 cx hM ih _ _ _ _ _)
          · refine r_aload_n (pc := 53) cx dX6_sum_53 rfl ?_
            refine r_get (pc := 54) cx hcl_X6 qc_X6 (lw47 hM) (j := 3) (by decide) wf_X6_16 dX6_sum_54 (x := .ref (ad 50)) rfl ?_
            refine r_iload (pc := 57) cx dX6_sum_57 rfl ?_
            refine r_iaload (pc := 59) cx (lw50 hM) rfl (by decide) dX6_sum_59 ?_
            refine r_pSi (pc := 60) cx (tX6_many  (σ 50 x4) σ) qm_X6_many qs_X6_many wm_X6_90 dX6_sum_60 rfl rfl (Nat.le_of_ble_eq_true rfl) ⟨Nat.le_of_ble_eq_true rfl, Nat.le_of_ble_eq_true rfl⟩ ⟨rfl, rfl⟩ ⟨Nat.zero_le _, Nat.zero_le _⟩ (fun r60 => ?_)
            refine r_i2l (pc := 63) cx dX6_sum_63 ?_
            refine r_goto (pc := 64) (tgt := 116) cx dX6_sum_64 (by decide) ?_
            exact qS.sub (qsub_cons rfl (qsub_cons rfl (qsub_cons rfl (qsub_nil _)))) (tX6_sum_c116 cx hM ih _ _ _ _ _)
def fX6_sum_c16 (x1 : Int) (s0 : Int) (σ : qSt) : Option (Int × qSt) :=
  (qbd (fX6_refused s0 σ) fun (r16 : Int) (σ1 : qSt) => (if qI r16 = 0 then (fX6_sum_c29 qFU x1 0 0 σ1) else (some (0, σ1))))
set_option maxRecDepth 100000 in
set_option maxHeartbeats 4000000 in
theorem tX6_sum_c16 {p : Program} {l : Launch} {e : Env} {s : State} {m : MethodId} {args : Array Value} {below : List Frame} {meth : Method} {c : Code} {z0 : Nat} {g : qG} {w : qWd} {ad : Nat → Nat} (cx : qCx p s m meth c cX6_sum 5 RX6 (some .long) g z0) (hM : qBM g ad w) (x1 : Int) (s0 : Int) (σ : qSt) : qS p l e qrm1 s m args below meth c 5 g z0 w 0 0 (qQ below g z0 w qrj args s 0 0) (fX6_sum_c16 x1 s0 σ) σ 16 [(0, some (.ref (ad 47))), (1, some (.int (qI x1)))] [.int (qI s0), .ref (ad 47)] := by
  unfold fX6_sum_c16
  refine r_dVi (pc := 16) cx (tX6_refused hM s0 σ) qm_X6_refused qv_X6_refused hcl_X6 (lw47 hM) wm_X6_84 dX6_sum_16 rfl rfl (Nat.le_of_ble_eq_true rfl) ⟨Nat.le_of_ble_eq_true rfl, Nat.le_of_ble_eq_true rfl⟩ ⟨rfl, rfl⟩ ⟨Nat.zero_le _, Nat.zero_le _⟩ (fun r16 σ1 => ?_)
  refine r_if_eq (tgt := 24) cx dX6_sum_19 (by decide) ?_ ?_
  · refine r_lconst (pc := 24) (z := 0) cx dX6_sum_24 (by decide +kernel) ?_
    refine r_lstore_n (pc := 25) cx dX6_sum_25 (by decide) rfl ?_
    refine r_iconst (pc := 26) cx dX6_sum_26 ?_
    refine r_istore (pc := 27) cx dX6_sum_27 (by decide) rfl ?_
    exact qS.sub (qsub_cons rfl (qsub_cons rfl (qsub_cons rfl (qsub_cons rfl (qsub_nil _))))) (tX6_sum_c29 cx hM _ _ _ _ _)
  · refine r_lconst (pc := 22) (z := 0) cx dX6_sum_22 (by decide +kernel) ?_
    exact r_lreturn (w0 := w) (fun _ _ h => h) (Nat.zero_le _) (Nat.zero_le _) cx dX6_sum_23 rfl
def fX6_sum (p0 : Int) (σ : qSt) : Option (Int × qSt) :=
  ((fX6_within σ p0 0 7).bind fun (r5 : Int) => (if qI r5 = 0 then (fX6_sum_c16 p0 1 σ) else (fX6_sum_c16 p0 0 σ)))
set_option maxRecDepth 100000 in
set_option maxHeartbeats 4000000 in
theorem tX6_sum {l : Launch} {z0 : Nat} {g : qG} {w : qWd} {ad : Nat → Nat} (hM : qBM g ad w) (p0 : Int) (σ : qSt) : qCT l yX6_sum cX6_sum 5 (some .long) qrm1 g z0 w [.ref (ad 47), .int (qI p0)] σ (fX6_sum p0 σ) qrj := by
  refine qCT.of [(0, some (.ref (ad 47))), (1, some (.int (qI p0)))] (by decide +kernel) (Nat.le_of_ble_eq_true rfl) rfl ?_
  intro p e s m args below meth c cx
  unfold fX6_sum
  refine r_aload_n (pc := 0) cx dX6_sum_0 rfl ?_
  refine r_iload_n (pc := 1) cx dX6_sum_1 rfl ?_
  refine r_iconst (pc := 2) cx dX6_sum_2 ?_
  refine r_bipush (pc := 3) (v := 7) cx dX6_sum_3 (by decide +kernel) ?_
  refine r_pSi (pc := 5) cx (tX6_within  p0 0 7 σ) qm_X6_within qs_X6_within wm_X6_62 dX6_sum_5 rfl rfl (Nat.le_of_ble_eq_true rfl) ⟨Nat.le_of_ble_eq_true rfl, Nat.le_of_ble_eq_true rfl⟩ ⟨rfl, rfl⟩ ⟨Nat.zero_le _, Nat.zero_le _⟩ (fun r5 => ?_)
  refine r_if_eq (tgt := 15) cx dX6_sum_8 (by decide) ?_ ?_
  · refine r_iconst (pc := 15) cx dX6_sum_15 ?_
    exact qS.sub (qsub_cons rfl (qsub_cons rfl (qsub_nil _))) (tX6_sum_c16 cx hM _ _ _)
  · refine r_iconst (pc := 11) cx dX6_sum_11 ?_
    refine r_goto (pc := 12) (tgt := 16) cx dX6_sum_12 (by decide) ?_
    exact qS.sub (qsub_cons rfl (qsub_cons rfl (qsub_nil _))) (tX6_sum_c16 cx hM _ _ _)
def fX6_left (p0 : Int) (σ : qSt) : Option (Int × qSt) :=
  (qb (qset σ 47 0 0) fun (σ1 : qSt) => (some (0, σ1)))
set_option maxRecDepth 100000 in
set_option maxHeartbeats 4000000 in
theorem tX6_left {l : Launch} {z0 : Nat} {g : qG} {w : qWd} {ad : Nat → Nat} (hM : qBM g ad w) (p0 : Int) (σ : qSt) : qCT l yX6_left cX6_left 2 (some .long) qrm0 g z0 w [.ref (ad 47), .int (qI p0)] σ (fX6_left p0 σ) qrj := by
  refine qCT.of [(0, some (.ref (ad 47))), (1, some (.int (qI p0)))] (by decide +kernel) (Nat.le_of_ble_eq_true rfl) rfl ?_
  intro p e s m args below meth c cx
  unfold fX6_left
  refine r_aload_n (pc := 0) cx dX6_left_0 rfl ?_
  refine r_iconst (pc := 1) cx dX6_left_1 ?_
  refine r_puti (pc := 2) (J := 0) cx hcl_X6 qc_X6 (lw47 hM) (j := 0) (by decide) tyX6_ok nmX6 wf_X6_58 rfl (by decide +kernel) rfl (Nat.le_of_ble_eq_true rfl) (fun r => rfl) dX6_left_2 (fun σ1 => ?_)
  refine r_lconst (pc := 5) (z := 0) cx dX6_left_5 (by decide +kernel) ?_
  exact r_lreturn (w0 := w) (fun _ _ h => h) (Nat.zero_le _) (Nat.zero_le _) cx dX6_left_6 rfl
def fX6_isWindow (σ : qSt) (p0 : Int) (p1 : Int) (p2 : Int) (p3 : Int) : Option Int :=
  ((fX6_within σ p0 0 7).bind fun (r4 : Int) => (if qI r4 = 0 then (some 0) else ((fX6_within σ p1 0 11).bind fun (r14 : Int) => (if qI r14 = 0 then (some 0) else ((fX6_within σ p2 1 8).bind fun (r24 : Int) => (if qI r24 = 0 then (some 0) else ((fX6_within σ p3 1 12).bind fun (r34 : Int) => (if qI r34 = 0 then (some 0) else (if qI 8 < qI (p0 + p2) then (some 0) else (some 1))))))))))
set_option maxRecDepth 100000 in
set_option maxHeartbeats 4000000 in
theorem tX6_isWindow {l : Launch} {z0 : Nat} {g : qG} {w : qWd} (p0 : Int) (p1 : Int) (p2 : Int) (p3 : Int) (σ : qSt) : qCT l yX6_isWindow cX6_isWindow 4 (some .boolean) qrm1 g z0 w [.int (qI p0), .int (qI p1), .int (qI p2), .int (qI p3)] σ (qlift (fX6_isWindow σ p0 p1 p2 p3) σ) qri := by
  refine qCTp.of [(0, some (.int (qI p0))), (1, some (.int (qI p1))), (2, some (.int (qI p2))), (3, some (.int (qI p3)))] (by decide +kernel) (Nat.le_of_ble_eq_true rfl) rfl ?_
  intro p e s m args below meth c cx
  unfold fX6_isWindow
  refine r_iload_n (pc := 0) cx dX6_isWindow_0 rfl ?_
  refine r_iconst (pc := 1) cx dX6_isWindow_1 ?_
  refine r_bipush (pc := 2) (v := 7) cx dX6_isWindow_2 (by decide +kernel) ?_
  refine r_pSi (pc := 4) cx (tX6_within  p0 0 7 σ) qm_X6_within qs_X6_within wm_X6_62 dX6_isWindow_4 rfl rfl (Nat.le_of_ble_eq_true rfl) ⟨Nat.le_of_ble_eq_true rfl, Nat.le_of_ble_eq_true rfl⟩ ⟨rfl, rfl⟩ ⟨Nat.zero_le _, Nat.zero_le _⟩ (fun r4 => ?_)
  refine r_if_eq (tgt := 52) cx dX6_isWindow_7 (by decide) ?_ ?_
  · refine r_iconst (pc := 52) cx dX6_isWindow_52 ?_
    exact r_zreturn (w0 := w) (fun _ _ h => h) (Nat.zero_le _) (Nat.zero_le _) cx (by decide +kernel) dX6_isWindow_53 rfl
  · refine r_iload_n (pc := 10) cx dX6_isWindow_10 rfl ?_
    refine r_iconst (pc := 11) cx dX6_isWindow_11 ?_
    refine r_bipush (pc := 12) (v := 11) cx dX6_isWindow_12 (by decide +kernel) ?_
    refine r_pSi (pc := 14) cx (tX6_within  p1 0 11 σ) qm_X6_within qs_X6_within wm_X6_62 dX6_isWindow_14 rfl rfl (Nat.le_of_ble_eq_true rfl) ⟨Nat.le_of_ble_eq_true rfl, Nat.le_of_ble_eq_true rfl⟩ ⟨rfl, rfl⟩ ⟨Nat.zero_le _, Nat.zero_le _⟩ (fun r14 => ?_)
    refine r_if_eq (tgt := 52) cx dX6_isWindow_17 (by decide) ?_ ?_
    · refine r_iconst (pc := 52) cx dX6_isWindow_52 ?_
      exact r_zreturn (w0 := w) (fun _ _ h => h) (Nat.zero_le _) (Nat.zero_le _) cx (by decide +kernel) dX6_isWindow_53 rfl
    · refine r_iload_n (pc := 20) cx dX6_isWindow_20 rfl ?_
      refine r_iconst (pc := 21) cx dX6_isWindow_21 ?_
      refine r_bipush (pc := 22) (v := 8) cx dX6_isWindow_22 (by decide +kernel) ?_
      refine r_pSi (pc := 24) cx (tX6_within  p2 1 8 σ) qm_X6_within qs_X6_within wm_X6_62 dX6_isWindow_24 rfl rfl (Nat.le_of_ble_eq_true rfl) ⟨Nat.le_of_ble_eq_true rfl, Nat.le_of_ble_eq_true rfl⟩ ⟨rfl, rfl⟩ ⟨Nat.zero_le _, Nat.zero_le _⟩ (fun r24 => ?_)
      refine r_if_eq (tgt := 52) cx dX6_isWindow_27 (by decide) ?_ ?_
      · refine r_iconst (pc := 52) cx dX6_isWindow_52 ?_
        exact r_zreturn (w0 := w) (fun _ _ h => h) (Nat.zero_le _) (Nat.zero_le _) cx (by decide +kernel) dX6_isWindow_53 rfl
      · refine r_iload_n (pc := 30) cx dX6_isWindow_30 rfl ?_
        refine r_iconst (pc := 31) cx dX6_isWindow_31 ?_
        refine r_bipush (pc := 32) (v := 12) cx dX6_isWindow_32 (by decide +kernel) ?_
        refine r_pSi (pc := 34) cx (tX6_within  p3 1 12 σ) qm_X6_within qs_X6_within wm_X6_62 dX6_isWindow_34 rfl rfl (Nat.le_of_ble_eq_true rfl) ⟨Nat.le_of_ble_eq_true rfl, Nat.le_of_ble_eq_true rfl⟩ ⟨rfl, rfl⟩ ⟨Nat.zero_le _, Nat.zero_le _⟩ (fun r34 => ?_)
        refine r_if_eq (tgt := 52) cx dX6_isWindow_37 (by decide) ?_ ?_
        · refine r_iconst (pc := 52) cx dX6_isWindow_52 ?_
          exact r_zreturn (w0 := w) (fun _ _ h => h) (Nat.zero_le _) (Nat.zero_le _) cx (by decide +kernel) dX6_isWindow_53 rfl
        · refine r_iload_n (pc := 40) cx dX6_isWindow_40 rfl ?_
          refine r_iload_n (pc := 41) cx dX6_isWindow_41 rfl ?_
          refine r_iadd (pc := 42) cx dX6_isWindow_42 ?_
          refine r_bipush (pc := 43) (v := 8) cx dX6_isWindow_43 (by decide +kernel) ?_
          refine r_icmp_gt (tgt := 52) cx dX6_isWindow_45 (by decide) ?_ ?_
          · refine r_iconst (pc := 52) cx dX6_isWindow_52 ?_
            exact r_zreturn (w0 := w) (fun _ _ h => h) (Nat.zero_le _) (Nat.zero_le _) cx (by decide +kernel) dX6_isWindow_53 rfl
          · refine r_iconst (pc := 48) cx dX6_isWindow_48 ?_
            refine r_goto (pc := 49) (tgt := 53) cx dX6_isWindow_49 (by decide) ?_
            exact r_zreturn (w0 := w) (fun _ _ h => h) (Nat.zero_le _) (Nat.zero_le _) cx (by decide +kernel) dX6_isWindow_53 rfl
def fX6_seen (σ : qSt) (p0 : Int) (p1 : Int) (p2 : Int) : Option Int :=
  (qb (4 * p2) fun (y1 : Int) => (if qI p0 = 0 then (if qI p1 = 0 then (if 0 ≤ p2 ∧ p2 < 96 then ((fX6_many σ (σ 50 p2)).bind fun (r114 : Int) => (some (qi2l r114))) else none) else (if qI p1 = qI 1 then (if 0 ≤ p2 ∧ p2 < 96 then ((fX6_rightOf σ (σ 50 p2)).bind fun (r132 : Int) => (some (qi2l r132))) else none) else (if 0 ≤ p2 ∧ p2 < 96 then ((fX6_upOf σ (σ 50 p2)).bind fun (r145 : Int) => (some (qi2l r145))) else none))) else (if qI p1 = 0 then (if 0 ≤ y1 ∧ y1 < 384 then (if 0 ≤ (y1 + 1) ∧ (y1 + 1) < 384 then (if 0 ≤ (y1 + 2) ∧ (y1 + 2) < 384 then (if 0 ≤ (y1 + 3) ∧ (y1 + 3) < 384 then (some ((((qi2l (σ 56 y1)) + (qi2l (σ 56 (y1 + 1)))) + (qi2l (σ 56 (y1 + 2)))) + (qi2l (σ 56 (y1 + 3))))) else none) else none) else none) else none) else (if qI p1 = qI 1 then (if 0 ≤ y1 ∧ y1 < 384 then (if 0 ≤ (y1 + 2) ∧ (y1 + 2) < 384 then (some (qi2l ((σ 56 y1) - (σ 56 (y1 + 2))))) else none) else none) else (if 0 ≤ (y1 + 1) ∧ (y1 + 1) < 384 then (if 0 ≤ (y1 + 3) ∧ (y1 + 3) < 384 then (some (qi2l ((σ 56 (y1 + 1)) - (σ 56 (y1 + 3))))) else none) else none)))))
set_option maxRecDepth 100000 in
set_option maxHeartbeats 4000000 in
theorem tX6_seen {l : Launch} {z0 : Nat} {g : qG} {w : qWd} {ad : Nat → Nat} (hM : qBM g ad w) (p0 : Int) (p1 : Int) (p2 : Int) (σ : qSt) : qCT l yX6_seen cX6_seen 5 (some .long) qrm1 g z0 w [.ref (ad 47), .int (qI p0), .int (qI p1), .int (qI p2)] σ (qlift (fX6_seen σ p0 p1 p2) σ) qrj := by
  refine qCTp.of [(0, some (.ref (ad 47))), (1, some (.int (qI p0))), (2, some (.int (qI p1))), (3, some (.int (qI p2)))] (by decide +kernel) (Nat.le_of_ble_eq_true rfl) rfl ?_
  intro p e s m args below meth c cx
  unfold fX6_seen
  refine r_iconst (pc := 0) cx dX6_seen_0 ?_
  refine r_iload_n (pc := 1) cx dX6_seen_1 rfl ?_
  refine r_imul (pc := 2) cx dX6_seen_2 ?_
  refine r_nmi (fun y1 => ?_)
  refine r_istore (pc := 3) cx dX6_seen_3 (by decide) rfl ?_
  refine r_iload_n (pc := 5) cx dX6_seen_5 rfl ?_
  refine r_if_eq (tgt := 104) cx dX6_seen_6 (by decide) ?_ ?_
  · refine r_iload_n (pc := 104) cx dX6_seen_104 rfl ?_
    refine r_if_ne (tgt := 121) cx dX6_seen_105 (by decide) ?_ ?_
    · refine r_iload_n (pc := 121) cx dX6_seen_121 rfl ?_
      refine r_iconst (pc := 122) cx dX6_seen_122 ?_
      refine r_icmp_ne (tgt := 139) cx dX6_seen_123 (by decide) ?_ ?_
      · refine r_aload_n (pc := 139) cx dX6_seen_139 rfl ?_
        refine r_get (pc := 140) cx hcl_X6 qc_X6 (lw47 hM) (j := 3) (by decide) wf_X6_16 dX6_seen_140 (x := .ref (ad 50)) rfl ?_
        refine r_iload_n (pc := 143) cx dX6_seen_143 rfl ?_
        refine r_iaload (pc := 144) cx (lw50 hM) rfl (by decide) dX6_seen_144 ?_
        refine r_pSi (pc := 145) cx (tX6_upOf  (σ 50 p2) σ) qm_X6_upOf qs_X6_upOf wm_X6_154 dX6_seen_145 rfl rfl (Nat.le_of_ble_eq_true rfl) ⟨Nat.le_of_ble_eq_true rfl, Nat.le_of_ble_eq_true rfl⟩ ⟨rfl, rfl⟩ ⟨Nat.zero_le _, Nat.zero_le _⟩ (fun r145 => ?_)
        refine r_i2l (pc := 148) cx dX6_seen_148 ?_
        exact r_lreturn (w0 := w) (fun _ _ h => h) (Nat.zero_le _) (Nat.zero_le _) cx dX6_seen_149 rfl
      · refine r_aload_n (pc := 126) cx dX6_seen_126 rfl ?_
        refine r_get (pc := 127) cx hcl_X6 qc_X6 (lw47 hM) (j := 3) (by decide) wf_X6_16 dX6_seen_127 (x := .ref (ad 50)) rfl ?_
        refine r_iload_n (pc := 130) cx dX6_seen_130 rfl ?_
        refine r_iaload (pc := 131) cx (lw50 hM) rfl (by decide) dX6_seen_131 ?_
        refine r_pSi (pc := 132) cx (tX6_rightOf  (σ 50 p2) σ) qm_X6_rightOf qs_X6_rightOf wm_X6_151 dX6_seen_132 rfl rfl (Nat.le_of_ble_eq_true rfl) ⟨Nat.le_of_ble_eq_true rfl, Nat.le_of_ble_eq_true rfl⟩ ⟨rfl, rfl⟩ ⟨Nat.zero_le _, Nat.zero_le _⟩ (fun r132 => ?_)
        refine r_i2l (pc := 135) cx dX6_seen_135 ?_
        refine r_goto (pc := 136) (tgt := 149) cx dX6_seen_136 (by decide) ?_
        exact r_lreturn (w0 := w) (fun _ _ h => h) (Nat.zero_le _) (Nat.zero_le _) cx dX6_seen_149 rfl
    · refine r_aload_n (pc := 108) cx dX6_seen_108 rfl ?_
      refine r_get (pc := 109) cx hcl_X6 qc_X6 (lw47 hM) (j := 3) (by decide) wf_X6_16 dX6_seen_109 (x := .ref (ad 50)) rfl ?_
      refine r_iload_n (pc := 112) cx dX6_seen_112 rfl ?_
      refine r_iaload (pc := 113) cx (lw50 hM) rfl (by decide) dX6_seen_113 ?_
      refine r_pSi (pc := 114) cx (tX6_many  (σ 50 p2) σ) qm_X6_many qs_X6_many wm_X6_90 dX6_seen_114 rfl rfl (Nat.le_of_ble_eq_true rfl) ⟨Nat.le_of_ble_eq_true rfl, Nat.le_of_ble_eq_true rfl⟩ ⟨rfl, rfl⟩ ⟨Nat.zero_le _, Nat.zero_le _⟩ (fun r114 => ?_)
      refine r_i2l (pc := 117) cx dX6_seen_117 ?_
      refine r_goto (pc := 118) (tgt := 149) cx dX6_seen_118 (by decide) ?_
      exact r_lreturn (w0 := w) (fun _ _ h => h) (Nat.zero_le _) (Nat.zero_le _) cx dX6_seen_149 rfl
  · refine r_iload_n (pc := 9) cx dX6_seen_9 rfl ?_
    refine r_if_ne (tgt := 57) cx dX6_seen_10 (by decide) ?_ ?_
    · refine r_iload_n (pc := 57) cx dX6_seen_57 rfl ?_
      refine r_iconst (pc := 58) cx dX6_seen_58 ?_
      refine r_icmp_ne (tgt := 83) cx dX6_seen_59 (by decide) ?_ ?_
      · refine r_aload_n (pc := 83) cx dX6_seen_83 rfl ?_
        refine r_get (pc := 84) cx hcl_X6 qc_X6 (lw47 hM) (j := 9) (by decide) wf_X6_34 dX6_seen_84 (x := .ref (ad 56)) rfl ?_
        refine r_iload (pc := 87) cx dX6_seen_87 rfl ?_
        refine r_iconst (pc := 89) cx dX6_seen_89 ?_
        refine r_iadd (pc := 90) cx dX6_seen_90 ?_
        refine r_iaload (pc := 91) cx (lw56 hM) rfl (by decide) dX6_seen_91 ?_
        refine r_aload_n (pc := 92) cx dX6_seen_92 rfl ?_
        refine r_get (pc := 93) cx hcl_X6 qc_X6 (lw47 hM) (j := 9) (by decide) wf_X6_34 dX6_seen_93 (x := .ref (ad 56)) rfl ?_
        refine r_iload (pc := 96) cx dX6_seen_96 rfl ?_
        refine r_iconst (pc := 98) cx dX6_seen_98 ?_
        refine r_iadd (pc := 99) cx dX6_seen_99 ?_
        refine r_iaload (pc := 100) cx (lw56 hM) rfl (by decide) dX6_seen_100 ?_
        refine r_isub (pc := 101) cx dX6_seen_101 ?_
        refine r_i2l (pc := 102) cx dX6_seen_102 ?_
        exact r_lreturn (w0 := w) (fun _ _ h => h) (Nat.zero_le _) (Nat.zero_le _) cx dX6_seen_103 rfl
      · refine r_aload_n (pc := 62) cx dX6_seen_62 rfl ?_
        refine r_get (pc := 63) cx hcl_X6 qc_X6 (lw47 hM) (j := 9) (by decide) wf_X6_34 dX6_seen_63 (x := .ref (ad 56)) rfl ?_
        refine r_iload (pc := 66) cx dX6_seen_66 rfl ?_
        refine r_iaload (pc := 68) cx (lw56 hM) rfl (by decide) dX6_seen_68 ?_
        refine r_aload_n (pc := 69) cx dX6_seen_69 rfl ?_
        refine r_get (pc := 70) cx hcl_X6 qc_X6 (lw47 hM) (j := 9) (by decide) wf_X6_34 dX6_seen_70 (x := .ref (ad 56)) rfl ?_
        refine r_iload (pc := 73) cx dX6_seen_73 rfl ?_
        refine r_iconst (pc := 75) cx dX6_seen_75 ?_
        refine r_iadd (pc := 76) cx dX6_seen_76 ?_
        refine r_iaload (pc := 77) cx (lw56 hM) rfl (by decide) dX6_seen_77 ?_
        refine r_isub (pc := 78) cx dX6_seen_78 ?_
        refine r_i2l (pc := 79) cx dX6_seen_79 ?_
        refine r_goto (pc := 80) (tgt := 103) cx dX6_seen_80 (by decide) ?_
        exact r_lreturn (w0 := w) (fun _ _ h => h) (Nat.zero_le _) (Nat.zero_le _) cx dX6_seen_103 rfl
    · refine r_aload_n (pc := 13) cx dX6_seen_13 rfl ?_
      refine r_get (pc := 14) cx hcl_X6 qc_X6 (lw47 hM) (j := 9) (by decide) wf_X6_34 dX6_seen_14 (x := .ref (ad 56)) rfl ?_
      refine r_iload (pc := 17) cx dX6_seen_17 rfl ?_
      refine r_iaload (pc := 19) cx (lw56 hM) rfl (by decide) dX6_seen_19 ?_
      refine r_i2l (pc := 20) cx dX6_seen_20 ?_
      refine r_aload_n (pc := 21) cx dX6_seen_21 rfl ?_
      refine r_get (pc := 22) cx hcl_X6 qc_X6 (lw47 hM) (j := 9) (by decide) wf_X6_34 dX6_seen_22 (x := .ref (ad 56)) rfl ?_
      refine r_iload (pc := 25) cx dX6_seen_25 rfl ?_
      refine r_iconst (pc := 27) cx dX6_seen_27 ?_
      refine r_iadd (pc := 28) cx dX6_seen_28 ?_
      refine r_iaload (pc := 29) cx (lw56 hM) rfl (by decide) dX6_seen_29 ?_
      refine r_i2l (pc := 30) cx dX6_seen_30 ?_
      refine r_ladd (pc := 31) cx dX6_seen_31 ?_
      refine r_aload_n (pc := 32) cx dX6_seen_32 rfl ?_
      refine r_get (pc := 33) cx hcl_X6 qc_X6 (lw47 hM) (j := 9) (by decide) wf_X6_34 dX6_seen_33 (x := .ref (ad 56)) rfl ?_
      refine r_iload (pc := 36) cx dX6_seen_36 rfl ?_
      refine r_iconst (pc := 38) cx dX6_seen_38 ?_
      refine r_iadd (pc := 39) cx dX6_seen_39 ?_
      refine r_iaload (pc := 40) cx (lw56 hM) rfl (by decide) dX6_seen_40 ?_
      refine r_i2l (pc := 41) cx dX6_seen_41 ?_
      refine r_ladd (pc := 42) cx dX6_seen_42 ?_
      refine r_aload_n (pc := 43) cx dX6_seen_43 rfl ?_
      refine r_get (pc := 44) cx hcl_X6 qc_X6 (lw47 hM) (j := 9) (by decide) wf_X6_34 dX6_seen_44 (x := .ref (ad 56)) rfl ?_
      refine r_iload (pc := 47) cx dX6_seen_47 rfl ?_
      refine r_iconst (pc := 49) cx dX6_seen_49 ?_
      refine r_iadd (pc := 50) cx dX6_seen_50 ?_
      refine r_iaload (pc := 51) cx (lw56 hM) rfl (by decide) dX6_seen_51 ?_
      refine r_i2l (pc := 52) cx dX6_seen_52 ?_
      refine r_ladd (pc := 53) cx dX6_seen_53 ?_
      refine r_goto (pc := 54) (tgt := 103) cx dX6_seen_54 (by decide) ?_
      exact r_lreturn (w0 := w) (fun _ _ h => h) (Nat.zero_le _) (Nat.zero_le _) cx dX6_seen_103 rfl
def fX6_look_c110 (k18 : Int → Int → Int → Int → Int → Int → Int → qSt → Option (Int × qSt)) (k31 : Int → Int → Int → Int → Int → Int → Int → Int → qSt → Option (Int × qSt)) (x1 : Int) (x2 : Int) (x3 : Int) (x4 : Int) (x5 : Int) (x6 : Int) (x7 : Int) (x8 : Int) (σ : qSt) : Option (Int × qSt) :=
  (k31 x1 x2 x3 x4 x5 x6 x7 (x8 + 1) σ)
set_option maxRecDepth 100000 in
set_option maxHeartbeats 4000000 in
theorem tX6_look_c110 {p : Program} {l : Launch} {e : Env} {s : State} {m : MethodId} {args : Array Value} {below : List Frame} {meth : Method} {c : Code} {z0 : Nat} {g : qG} {w : qWd} {ad : Nat → Nat} (cx : qCx p s m meth c cX6_look 12 RX6 none g z0) (hM : qBM g ad w) {k18 : Int → Int → Int → Int → Int → Int → Int → qSt → Option (Int × qSt)} (hk18 : ∀ (x1 : Int) (x2 : Int) (x3 : Int) (x4 : Int) (x5 : Int) (x6 : Int) (x7 : Int) (σ : qSt), qS p l e qrm2 s m args below meth c 12 g z0 w 0 0 (qQ below g z0 w qrv args s 0 0) (k18 x1 x2 x3 x4 x5 x6 x7 σ) σ 18 [(0, some (.ref (ad 47))), (1, some (.int (qI x1))), (2, some (.int (qI x2))), (3, some (.int (qI x3))), (4, some (.int (qI x4))), (5, some (.int (qI x5))), (6, some (.int (qI x6))), (7, some (.int (qI x7)))] []) {k31 : Int → Int → Int → Int → Int → Int → Int → Int → qSt → Option (Int × qSt)} (hk31 : ∀ (x1 : Int) (x2 : Int) (x3 : Int) (x4 : Int) (x5 : Int) (x6 : Int) (x7 : Int) (x8 : Int) (σ : qSt), qS p l e qrm2 s m args below meth c 12 g z0 w 0 0 (qQ below g z0 w qrv args s 0 0) (k31 x1 x2 x3 x4 x5 x6 x7 x8 σ) σ 31 [(0, some (.ref (ad 47))), (1, some (.int (qI x1))), (2, some (.int (qI x2))), (3, some (.int (qI x3))), (4, some (.int (qI x4))), (5, some (.int (qI x5))), (6, some (.int (qI x6))), (7, some (.int (qI x7))), (8, some (.int (qI x8)))] []) (x1 : Int) (x2 : Int) (x3 : Int) (x4 : Int) (x5 : Int) (x6 : Int) (x7 : Int) (x8 : Int) (σ : qSt) : qS p l e qrm2 s m args below meth c 12 g z0 w 0 0 (qQ below g z0 w qrv args s 0 0) (fX6_look_c110 k18 k31 x1 x2 x3 x4 x5 x6 x7 x8 σ) σ 110 [(0, some (.ref (ad 47))), (1, some (.int (qI x1))), (2, some (.int (qI x2))), (3, some (.int (qI x3))), (4, some (.int (qI x4))), (5, some (.int (qI x5))), (6, some (.int (qI x6))), (7, some (.int (qI x7))), (8, some (.int (qI x8)))] [] := by
  unfold fX6_look_c110
  refine r_iinc (pc := 110) cx dX6_look_110 rfl (by decide) rfl ?_
  refine r_goto (pc := 113) (tgt := 31) cx dX6_look_113 (by decide) ?_
  exact qS.sub (qsub_cons rfl (qsub_cons rfl (qsub_cons rfl (qsub_cons rfl (qsub_cons rfl (qsub_cons rfl (qsub_cons rfl (qsub_cons rfl (qsub_cons rfl (qsub_nil _)))))))))) (hk31 _ _ _ _ _ _ _ _ _)
def fX6_look_c31 (k18 : Int → Int → Int → Int → Int → Int → Int → qSt → Option (Int × qSt)) : Nat → Int → Int → Int → Int → Int → Int → Int → Int → qSt → Option (Int × qSt)
  | 0, _, _, _, _, _, _, _, _, _ => none
  | f + 1, x1, x2, x3, x4, x5, x6, x7, x8, σ => (if qI (x4 + x6) ≤ qI x8 then (k18 x1 x2 x3 x4 x5 x6 (x7 + 1) σ) else (qb ((12 * x7) + (qrem x8 12)) fun (y4 : Int) => (if 0 ≤ y4 ∧ y4 < 96 then (if qI (σ 48 y4) = qI 1 then (fX6_look_c110 k18 (fX6_look_c31 k18 f) x1 x2 x3 x4 x5 x6 x7 x8 σ) else ((fX6_seen σ x1 x2 y4).bind fun (r70 : Int) => (qb (qset σ 47 23 ((σ 47 23) + 1)) fun (σ5 : qSt) => (qb (qset σ5 47 24 ((σ5 47 24) + r70)) fun (σ6 : qSt) => (qb (qset σ6 47 25 ((σ6 47 25) + (r70 * r70))) fun (σ7 : qSt) => (fX6_look_c110 k18 (fX6_look_c31 k18 f) x1 x2 x3 x4 x5 x6 x7 x8 σ7)))))) else none)))
set_option maxRecDepth 100000 in
set_option maxHeartbeats 4000000 in
theorem tX6_look_c31 {p : Program} {l : Launch} {e : Env} {s : State} {m : MethodId} {args : Array Value} {below : List Frame} {meth : Method} {c : Code} {z0 : Nat} {g : qG} {w : qWd} {ad : Nat → Nat} (cx : qCx p s m meth c cX6_look 12 RX6 none g z0) (hM : qBM g ad w) {k18 : Int → Int → Int → Int → Int → Int → Int → qSt → Option (Int × qSt)} (hk18 : ∀ (x1 : Int) (x2 : Int) (x3 : Int) (x4 : Int) (x5 : Int) (x6 : Int) (x7 : Int) (σ : qSt), qS p l e qrm2 s m args below meth c 12 g z0 w 0 0 (qQ below g z0 w qrv args s 0 0) (k18 x1 x2 x3 x4 x5 x6 x7 σ) σ 18 [(0, some (.ref (ad 47))), (1, some (.int (qI x1))), (2, some (.int (qI x2))), (3, some (.int (qI x3))), (4, some (.int (qI x4))), (5, some (.int (qI x5))), (6, some (.int (qI x6))), (7, some (.int (qI x7)))] []) : ∀ (f : Nat) (x1 : Int) (x2 : Int) (x3 : Int) (x4 : Int) (x5 : Int) (x6 : Int) (x7 : Int) (x8 : Int) (σ : qSt), qS p l e qrm2 s m args below meth c 12 g z0 w 0 0 (qQ below g z0 w qrv args s 0 0) (fX6_look_c31 k18 f x1 x2 x3 x4 x5 x6 x7 x8 σ) σ 31 [(0, some (.ref (ad 47))), (1, some (.int (qI x1))), (2, some (.int (qI x2))), (3, some (.int (qI x3))), (4, some (.int (qI x4))), (5, some (.int (qI x5))), (6, some (.int (qI x6))), (7, some (.int (qI x7))), (8, some (.int (qI x8)))] [] := by
  intro f
  induction f with
  | zero => exact fun _ _ _ _ _ _ _ _ _ => qS.fail
  | succ f ih =>
    intro x1 x2 x3 x4 x5 x6 x7 x8 σ
    unfold fX6_look_c31
    refine r_iload (pc := 31) cx dX6_look_31 rfl ?_
    refine r_iload (pc := 33) cx dX6_look_33 rfl ?_
    refine r_iload (pc := 35) cx dX6_look_35 rfl ?_
    refine r_iadd (pc := 37) cx dX6_look_37 ?_
    refine r_icmp_ge (tgt := 116) cx dX6_look_38 (by decide) ?_ ?_
    · refine r_iinc (pc := 116) cx dX6_look_116 rfl (by decide) rfl ?_
      refine r_goto (pc := 119) (tgt := 18) cx dX6_look_119 (by decide) ?_
      exact qS.sub (qsub_cons rfl (qsub_cons rfl (qsub_cons rfl (qsub_cons rfl (qsub_cons rfl (qsub_cons rfl (qsub_cons rfl (qsub_cons rfl (qsub_nil _))))))))) (hk18 _ _ _ _ _ _ _ _)
    · refine r_bipush (pc := 41) (v := 12) cx dX6_look_41 (by decide +kernel) ?_
      refine r_iload (pc := 43) cx dX6_look_43 rfl ?_
      refine r_imul (pc := 45) cx dX6_look_45 ?_
      refine r_iload (pc := 46) cx dX6_look_46 rfl ?_
      refine r_bipush (pc := 48) (v := 12) cx dX6_look_48 (by decide +kernel) ?_
      refine r_irem (pc := 50) cx dX6_look_50 (by decide +kernel) ?_
      refine r_iadd (pc := 51) cx dX6_look_51 ?_
      refine r_nmi (fun y4 => ?_)
      refine r_istore (pc := 52) cx dX6_look_52 (by decide) rfl ?_
      refine r_aload_n (pc := 54) cx dX6_look_54 rfl ?_
      refine r_get (pc := 55) cx hcl_X6 qc_X6 (lw47 hM) (j := 1) (by decide) wf_X6_7 dX6_look_55 (x := .ref (ad 48)) rfl ?_
      refine r_iload (pc := 58) cx dX6_look_58 rfl ?_
      refine r_iaload (pc := 60) cx (lw48 hM) rfl (by decide) dX6_look_60 ?_
      refine r_iconst (pc := 61) cx dX6_look_61 ?_
      refine r_icmp_eq (tgt := 110) cx dX6_look_62 (by decide) ?_ ?_
      · exact qS.sub (qsub_cons rfl (qsub_cons rfl (qsub_cons rfl (qsub_cons rfl (qsub_cons rfl (qsub_cons rfl (qsub_cons rfl (qsub_cons rfl (qsub_cons rfl (qsub_nil _)))))))))) (tX6_look_c110 cx hM hk18 ih _ _ _ _ _ _ _ _ _)
      · refine r_aload_n (pc := 65) cx dX6_look_65 rfl ?_
        refine r_iload_n (pc := 66) cx dX6_look_66 rfl ?_
        refine r_iload_n (pc := 67) cx dX6_look_67 rfl ?_
        refine r_iload (pc := 68) cx dX6_look_68 rfl ?_
        refine r_pVj (pc := 70) cx (tX6_seen hM x1 x2 y4 σ) qm_X6_seen qv_X6_seen hcl_X6 (lw47 hM) wm_X6_166 dX6_look_70 rfl rfl (Nat.le_of_ble_eq_true rfl) ⟨Nat.le_of_ble_eq_true rfl, Nat.le_of_ble_eq_true rfl⟩ ⟨rfl, rfl⟩ ⟨Nat.zero_le _, Nat.zero_le _⟩ (fun r70 => ?_)
        refine r_lstore (pc := 73) cx dX6_look_73 (by decide) rfl ?_
        refine r_aload_n (pc := 75) cx dX6_look_75 rfl ?_
        refine r_dup (pc := 76) cx dX6_look_76 rfl ?_
        refine r_get (pc := 77) cx hcl_X6 qc_X6 (lw47 hM) (j := 23) (by decide) wf_X6_157 dX6_look_77 (x := .long (qJ (σ 47 23))) rfl ?_
        refine r_lconst (pc := 80) (z := 1) cx dX6_look_80 (by decide +kernel) ?_
        refine r_ladd (pc := 81) cx dX6_look_81 ?_
        refine r_putl (pc := 82) (J := 23) cx hcl_X6 qc_X6 (lw47 hM) (j := 23) (by decide) tyX6_ok nmX6 wf_X6_157 rfl (by decide +kernel) rfl (Nat.le_of_ble_eq_true rfl) (fun r => rfl) dX6_look_82 (fun σ5 => ?_)
        refine r_aload_n (pc := 85) cx dX6_look_85 rfl ?_
        refine r_dup (pc := 86) cx dX6_look_86 rfl ?_
        refine r_get (pc := 87) cx hcl_X6 qc_X6 (lw47 hM) (j := 24) (by decide) wf_X6_160 dX6_look_87 (x := .long (qJ (σ5 47 24))) rfl ?_
        refine r_lload (pc := 90) cx dX6_look_90 rfl ?_
        refine r_ladd (pc := 92) cx dX6_look_92 ?_
        refine r_putl (pc := 93) (J := 24) cx hcl_X6 qc_X6 (lw47 hM) (j := 24) (by decide) tyX6_ok nmX6 wf_X6_160 rfl (by decide +kernel) rfl (Nat.le_of_ble_eq_true rfl) (fun r => rfl) dX6_look_93 (fun σ6 => ?_)
        refine r_aload_n (pc := 96) cx dX6_look_96 rfl ?_
        refine r_dup (pc := 97) cx dX6_look_97 rfl ?_
        refine r_get (pc := 98) cx hcl_X6 qc_X6 (lw47 hM) (j := 25) (by decide) wf_X6_163 dX6_look_98 (x := .long (qJ (σ6 47 25))) rfl ?_
        refine r_lload (pc := 101) cx dX6_look_101 rfl ?_
        refine r_lload (pc := 103) cx dX6_look_103 rfl ?_
        refine r_lmul (pc := 105) cx dX6_look_105 ?_
        refine r_ladd (pc := 106) cx dX6_look_106 ?_
        refine r_putl (pc := 107) (J := 25) cx hcl_X6 qc_X6 (lw47 hM) (j := 25) (by decide) tyX6_ok nmX6 wf_X6_163 rfl (by decide +kernel) rfl (Nat.le_of_ble_eq_true rfl) (fun r => rfl) dX6_look_107 (fun σ7 => ?_)
        exact qS.sub (qsub_cons rfl (qsub_cons rfl (qsub_cons rfl (qsub_cons rfl (qsub_cons rfl (qsub_cons rfl (qsub_cons rfl (qsub_cons rfl (qsub_cons rfl (qsub_nil _)))))))))) (tX6_look_c110 cx hM hk18 ih _ _ _ _ _ _ _ _ _)
def fX6_look_c18 : Nat → Int → Int → Int → Int → Int → Int → Int → qSt → Option (Int × qSt)
  | 0, _, _, _, _, _, _, _, _ => none
  | f + 1, x1, x2, x3, x4, x5, x6, x7, σ => (if qI (x3 + x5) ≤ qI x7 then (some (0, σ)) else (fX6_look_c31 (fX6_look_c18 f) qFU x1 x2 x3 x4 x5 x6 x7 x4 σ))
set_option maxRecDepth 100000 in
set_option maxHeartbeats 4000000 in
theorem tX6_look_c18 {p : Program} {l : Launch} {e : Env} {s : State} {m : MethodId} {args : Array Value} {below : List Frame} {meth : Method} {c : Code} {z0 : Nat} {g : qG} {w : qWd} {ad : Nat → Nat} (cx : qCx p s m meth c cX6_look 12 RX6 none g z0) (hM : qBM g ad w) : ∀ (f : Nat) (x1 : Int) (x2 : Int) (x3 : Int) (x4 : Int) (x5 : Int) (x6 : Int) (x7 : Int) (σ : qSt), qS p l e qrm2 s m args below meth c 12 g z0 w 0 0 (qQ below g z0 w qrv args s 0 0) (fX6_look_c18 f x1 x2 x3 x4 x5 x6 x7 σ) σ 18 [(0, some (.ref (ad 47))), (1, some (.int (qI x1))), (2, some (.int (qI x2))), (3, some (.int (qI x3))), (4, some (.int (qI x4))), (5, some (.int (qI x5))), (6, some (.int (qI x6))), (7, some (.int (qI x7)))] [] := by
  intro f
  induction f with
  | zero => exact fun _ _ _ _ _ _ _ _ => qS.fail
  | succ f ih =>
    intro x1 x2 x3 x4 x5 x6 x7 σ
    unfold fX6_look_c18
    refine r_iload (pc := 18) cx dX6_look_18 rfl ?_
    refine r_iload_n (pc := 20) cx dX6_look_20 rfl ?_
    refine r_iload (pc := 21) cx dX6_look_21 rfl ?_
    refine r_iadd (pc := 23) cx dX6_look_23 ?_
    refine r_icmp_ge (tgt := 122) cx dX6_look_24 (by decide) ?_ ?_
    · exact r_return (w0 := w) (fun _ _ h => h) (Nat.zero_le _) (Nat.zero_le _) cx dX6_look_122 rfl
    · refine r_iload (pc := 27) cx dX6_look_27 rfl ?_
      refine r_istore (pc := 29) cx dX6_look_29 (by decide) rfl ?_
      exact qS.sub (qsub_cons rfl (qsub_cons rfl (qsub_cons rfl (qsub_cons rfl (qsub_cons rfl (qsub_cons rfl (qsub_cons rfl (qsub_cons rfl (qsub_cons rfl (qsub_nil _)))))))))) (tX6_look_c31 cx hM ih _ _ _ _ _ _ _ _ _ _)
def fX6_look (p0 : Int) (p1 : Int) (p2 : Int) (p3 : Int) (p4 : Int) (p5 : Int) (σ : qSt) : Option (Int × qSt) :=
  (qb (qset σ 47 23 0) fun (σ1 : qSt) => (qb (qset σ1 47 24 0) fun (σ2 : qSt) => (qb (qset σ2 47 25 0) fun (σ3 : qSt) => (fX6_look_c18 qFU p0 p1 p2 p3 p4 p5 p2 σ3))))
set_option maxRecDepth 100000 in
set_option maxHeartbeats 4000000 in
theorem tX6_look {l : Launch} {z0 : Nat} {g : qG} {w : qWd} {ad : Nat → Nat} (hM : qBM g ad w) (p0 : Int) (p1 : Int) (p2 : Int) (p3 : Int) (p4 : Int) (p5 : Int) (σ : qSt) : qCT l yX6_look cX6_look 12 none qrm2 g z0 w [.ref (ad 47), .int (qI p0), .int (qI p1), .int (qI p2), .int (qI p3), .int (qI p4), .int (qI p5)] σ (fX6_look p0 p1 p2 p3 p4 p5 σ) qrv := by
  refine qCT.of [(0, some (.ref (ad 47))), (1, some (.int (qI p0))), (2, some (.int (qI p1))), (3, some (.int (qI p2))), (4, some (.int (qI p3))), (5, some (.int (qI p4))), (6, some (.int (qI p5)))] (by decide +kernel) (Nat.le_of_ble_eq_true rfl) rfl ?_
  intro p e s m args below meth c cx
  unfold fX6_look
  refine r_aload_n (pc := 0) cx dX6_look_0 rfl ?_
  refine r_lconst (pc := 1) (z := 0) cx dX6_look_1 (by decide +kernel) ?_
  refine r_putl (pc := 2) (J := 23) cx hcl_X6 qc_X6 (lw47 hM) (j := 23) (by decide) tyX6_ok nmX6 wf_X6_157 rfl (by decide +kernel) rfl (Nat.le_of_ble_eq_true rfl) (fun r => rfl) dX6_look_2 (fun σ1 => ?_)
  refine r_aload_n (pc := 5) cx dX6_look_5 rfl ?_
  refine r_lconst (pc := 6) (z := 0) cx dX6_look_6 (by decide +kernel) ?_
  refine r_putl (pc := 7) (J := 24) cx hcl_X6 qc_X6 (lw47 hM) (j := 24) (by decide) tyX6_ok nmX6 wf_X6_160 rfl (by decide +kernel) rfl (Nat.le_of_ble_eq_true rfl) (fun r => rfl) dX6_look_7 (fun σ2 => ?_)
  refine r_aload_n (pc := 10) cx dX6_look_10 rfl ?_
  refine r_lconst (pc := 11) (z := 0) cx dX6_look_11 (by decide +kernel) ?_
  refine r_putl (pc := 12) (J := 25) cx hcl_X6 qc_X6 (lw47 hM) (j := 25) (by decide) tyX6_ok nmX6 wf_X6_163 rfl (by decide +kernel) rfl (Nat.le_of_ble_eq_true rfl) (fun r => rfl) dX6_look_12 (fun σ3 => ?_)
  refine r_iload_n (pc := 15) cx dX6_look_15 rfl ?_
  refine r_istore (pc := 16) cx dX6_look_16 (by decide) rfl ?_
  exact qS.sub (qsub_cons rfl (qsub_cons rfl (qsub_cons rfl (qsub_cons rfl (qsub_cons rfl (qsub_cons rfl (qsub_cons rfl (qsub_cons rfl (qsub_nil _))))))))) (tX6_look_c18 cx hM _ _ _ _ _ _ _ _ _)
def fX6_average_c28 (x1 : Int) (x2 : Int) (x3 : Int) (x4 : Int) (x5 : Int) (x6 : Int) (s0 : Int) (σ : qSt) : Option (Int × qSt) :=
  (qbd (fX6_refused s0 σ) fun (r28 : Int) (σ1 : qSt) => (if qI r28 = 0 then (qbd (fX6_look x1 x2 x3 x4 x5 x6 σ1) fun (r46 : Int) (σ2 : qSt) => (if qI (qlcmp (σ2 47 23) 0) = 0 then (some (0, σ2)) else (qb (100 * (σ2 47 24)) fun (y3 : Int) => (if qJ (σ2 47 23) = 0 then none else (if qJ (σ2 47 23) = 0 then none else (if 0 ≤ qI (qlcmp (qlrem y3 (σ2 47 23)) 0) then (some (((qldiv y3 (σ2 47 23)) - 0), σ2)) else (some (((qldiv y3 (σ2 47 23)) - 1), σ2)))))))) else (some (0, σ1))))
set_option maxRecDepth 100000 in
set_option maxHeartbeats 4000000 in
theorem tX6_average_c28 {p : Program} {l : Launch} {e : Env} {s : State} {m : MethodId} {args : Array Value} {below : List Frame} {meth : Method} {c : Code} {z0 : Nat} {g : qG} {w : qWd} {ad : Nat → Nat} (cx : qCx p s m meth c cX6_average 9 RX6 (some .long) g z0) (hM : qBM g ad w) (x1 : Int) (x2 : Int) (x3 : Int) (x4 : Int) (x5 : Int) (x6 : Int) (s0 : Int) (σ : qSt) : qS p l e qrm3 s m args below meth c 9 g z0 w 0 0 (qQ below g z0 w qrj args s 0 0) (fX6_average_c28 x1 x2 x3 x4 x5 x6 s0 σ) σ 28 [(0, some (.ref (ad 47))), (1, some (.int (qI x1))), (2, some (.int (qI x2))), (3, some (.int (qI x3))), (4, some (.int (qI x4))), (5, some (.int (qI x5))), (6, some (.int (qI x6)))] [.int (qI s0), .ref (ad 47)] := by
  unfold fX6_average_c28
  refine r_dVi (pc := 28) cx (tX6_refused hM s0 σ) qm_X6_refused qv_X6_refused hcl_X6 (lw47 hM) wm_X6_84 dX6_average_28 rfl rfl (Nat.le_of_ble_eq_true rfl) ⟨Nat.le_of_ble_eq_true rfl, Nat.le_of_ble_eq_true rfl⟩ ⟨rfl, rfl⟩ ⟨Nat.zero_le _, Nat.zero_le _⟩ (fun r28 σ1 => ?_)
  refine r_if_eq (tgt := 36) cx dX6_average_31 (by decide) ?_ ?_
  · refine r_aload_n (pc := 36) cx dX6_average_36 rfl ?_
    refine r_iload_n (pc := 37) cx dX6_average_37 rfl ?_
    refine r_iload_n (pc := 38) cx dX6_average_38 rfl ?_
    refine r_iload_n (pc := 39) cx dX6_average_39 rfl ?_
    refine r_iload (pc := 40) cx dX6_average_40 rfl ?_
    refine r_iload (pc := 42) cx dX6_average_42 rfl ?_
    refine r_iload (pc := 44) cx dX6_average_44 rfl ?_
    refine r_dVv (pc := 46) cx (tX6_look hM x1 x2 x3 x4 x5 x6 σ1) qm_X6_look qv_X6_look hcl_X6 (lw47 hM) wm_X6_174 dX6_average_46 rfl rfl (Nat.le_of_ble_eq_true rfl) ⟨Nat.le_of_ble_eq_true rfl, Nat.le_of_ble_eq_true rfl⟩ ⟨rfl, rfl⟩ ⟨Nat.zero_le _, Nat.zero_le _⟩ (fun r46 σ2 => ?_)
    refine r_aload_n (pc := 49) cx dX6_average_49 rfl ?_
    refine r_get (pc := 50) cx hcl_X6 qc_X6 (lw47 hM) (j := 23) (by decide) wf_X6_157 dX6_average_50 (x := .long (qJ (σ2 47 23))) rfl ?_
    refine r_lconst (pc := 53) (z := 0) cx dX6_average_53 (by decide +kernel) ?_
    refine r_lcmp (pc := 54) cx dX6_average_54 ?_
    refine r_if_ne (tgt := 60) cx dX6_average_55 (by decide) ?_ ?_
    · refine r_ldc2 (pc := 60) (v := 100) cx dX6_average_60 wq_X6_178 ?_
      refine r_aload_n (pc := 63) cx dX6_average_63 rfl ?_
      refine r_get (pc := 64) cx hcl_X6 qc_X6 (lw47 hM) (j := 24) (by decide) wf_X6_160 dX6_average_64 (x := .long (qJ (σ2 47 24))) rfl ?_
      refine r_lmul (pc := 67) cx dX6_average_67 ?_
      refine r_nml (fun y3 => ?_)
      refine r_lstore (pc := 68) cx dX6_average_68 (by decide) rfl ?_
      refine r_lload (pc := 70) cx dX6_average_70 rfl ?_
      refine r_aload_n (pc := 72) cx dX6_average_72 rfl ?_
      refine r_get (pc := 73) cx hcl_X6 qc_X6 (lw47 hM) (j := 23) (by decide) wf_X6_157 dX6_average_73 (x := .long (qJ (σ2 47 23))) rfl ?_
      refine qS.ite (fun _ => qS.fail) (fun hz76 => ?_)
      refine r_ldiv (pc := 76) cx dX6_average_76 hz76 ?_
      refine r_lload (pc := 77) cx dX6_average_77 rfl ?_
      refine r_aload_n (pc := 79) cx dX6_average_79 rfl ?_
      refine r_get (pc := 80) cx hcl_X6 qc_X6 (lw47 hM) (j := 23) (by decide) wf_X6_157 dX6_average_80 (x := .long (qJ (σ2 47 23))) rfl ?_
      refine qS.ite (fun _ => qS.fail) (fun hz83 => ?_)
      refine r_lrem (pc := 83) cx dX6_average_83 hz83 ?_
      refine r_lconst (pc := 84) (z := 0) cx dX6_average_84 (by decide +kernel) ?_
      refine r_lcmp (pc := 85) cx dX6_average_85 ?_
      refine r_if_ge (tgt := 93) cx dX6_average_86 (by decide) ?_ ?_
      · refine r_lconst (pc := 93) (z := 0) cx dX6_average_93 (by decide +kernel) ?_
        refine r_lsub (pc := 94) cx dX6_average_94 ?_
        exact r_lreturn (w0 := w) (fun _ _ h => h) (Nat.zero_le _) (Nat.zero_le _) cx dX6_average_95 rfl
      · refine r_lconst (pc := 89) (z := 1) cx dX6_average_89 (by decide +kernel) ?_
        refine r_goto (pc := 90) (tgt := 94) cx dX6_average_90 (by decide) ?_
        refine r_lsub (pc := 94) cx dX6_average_94 ?_
        exact r_lreturn (w0 := w) (fun _ _ h => h) (Nat.zero_le _) (Nat.zero_le _) cx dX6_average_95 rfl
    · refine r_lconst (pc := 58) (z := 0) cx dX6_average_58 (by decide +kernel) ?_
      exact r_lreturn (w0 := w) (fun _ _ h => h) (Nat.zero_le _) (Nat.zero_le _) cx dX6_average_59 rfl
  · refine r_lconst (pc := 34) (z := 0) cx dX6_average_34 (by decide +kernel) ?_
    exact r_lreturn (w0 := w) (fun _ _ h => h) (Nat.zero_le _) (Nat.zero_le _) cx dX6_average_35 rfl
def fX6_average_c27 (x1 : Int) (x2 : Int) (x3 : Int) (x4 : Int) (x5 : Int) (x6 : Int) (σ : qSt) : Option (Int × qSt) :=
  (fX6_average_c28 x1 x2 x3 x4 x5 x6 1 σ)
set_option maxRecDepth 100000 in
set_option maxHeartbeats 4000000 in
theorem tX6_average_c27 {p : Program} {l : Launch} {e : Env} {s : State} {m : MethodId} {args : Array Value} {below : List Frame} {meth : Method} {c : Code} {z0 : Nat} {g : qG} {w : qWd} {ad : Nat → Nat} (cx : qCx p s m meth c cX6_average 9 RX6 (some .long) g z0) (hM : qBM g ad w) (x1 : Int) (x2 : Int) (x3 : Int) (x4 : Int) (x5 : Int) (x6 : Int) (σ : qSt) : qS p l e qrm3 s m args below meth c 9 g z0 w 0 0 (qQ below g z0 w qrj args s 0 0) (fX6_average_c27 x1 x2 x3 x4 x5 x6 σ) σ 27 [(0, some (.ref (ad 47))), (1, some (.int (qI x1))), (2, some (.int (qI x2))), (3, some (.int (qI x3))), (4, some (.int (qI x4))), (5, some (.int (qI x5))), (6, some (.int (qI x6)))] [.ref (ad 47)] := by
  unfold fX6_average_c27
  refine r_iconst (pc := 27) cx dX6_average_27 ?_
  exact qS.sub (qsub_cons rfl (qsub_cons rfl (qsub_cons rfl (qsub_cons rfl (qsub_cons rfl (qsub_cons rfl (qsub_cons rfl (qsub_nil _)))))))) (tX6_average_c28 cx hM _ _ _ _ _ _ _ _)
def fX6_average (p0 : Int) (p1 : Int) (p2 : Int) (p3 : Int) (p4 : Int) (p5 : Int) (σ : qSt) : Option (Int × qSt) :=
  ((fX6_within σ p1 0 2).bind fun (r4 : Int) => (if qI r4 = 0 then (fX6_average_c27 p0 p1 p2 p3 p4 p5 σ) else ((fX6_isWindow σ p2 p3 p4 p5).bind fun (r17 : Int) => (if qI r17 = 0 then (fX6_average_c27 p0 p1 p2 p3 p4 p5 σ) else (fX6_average_c28 p0 p1 p2 p3 p4 p5 0 σ)))))
set_option maxRecDepth 100000 in
set_option maxHeartbeats 4000000 in
theorem tX6_average {l : Launch} {z0 : Nat} {g : qG} {w : qWd} {ad : Nat → Nat} (hM : qBM g ad w) (p0 : Int) (p1 : Int) (p2 : Int) (p3 : Int) (p4 : Int) (p5 : Int) (σ : qSt) : qCT l yX6_average cX6_average 9 (some .long) qrm3 g z0 w [.ref (ad 47), .int (qI p0), .int (qI p1), .int (qI p2), .int (qI p3), .int (qI p4), .int (qI p5)] σ (fX6_average p0 p1 p2 p3 p4 p5 σ) qrj := by
  refine qCT.of [(0, some (.ref (ad 47))), (1, some (.int (qI p0))), (2, some (.int (qI p1))), (3, some (.int (qI p2))), (4, some (.int (qI p3))), (5, some (.int (qI p4))), (6, some (.int (qI p5)))] (by decide +kernel) (Nat.le_of_ble_eq_true rfl) rfl ?_
  intro p e s m args below meth c cx
  unfold fX6_average
  refine r_aload_n (pc := 0) cx dX6_average_0 rfl ?_
  refine r_iload_n (pc := 1) cx dX6_average_1 rfl ?_
  refine r_iconst (pc := 2) cx dX6_average_2 ?_
  refine r_iconst (pc := 3) cx dX6_average_3 ?_
  refine r_pSi (pc := 4) cx (tX6_within  p1 0 2 σ) qm_X6_within qs_X6_within wm_X6_62 dX6_average_4 rfl rfl (Nat.le_of_ble_eq_true rfl) ⟨Nat.le_of_ble_eq_true rfl, Nat.le_of_ble_eq_true rfl⟩ ⟨rfl, rfl⟩ ⟨Nat.zero_le _, Nat.zero_le _⟩ (fun r4 => ?_)
  refine r_if_eq (tgt := 27) cx dX6_average_7 (by decide) ?_ ?_
  · exact qS.sub (qsub_cons rfl (qsub_cons rfl (qsub_cons rfl (qsub_cons rfl (qsub_cons rfl (qsub_cons rfl (qsub_cons rfl (qsub_nil _)))))))) (tX6_average_c27 cx hM _ _ _ _ _ _ _)
  · refine r_iload_n (pc := 10) cx dX6_average_10 rfl ?_
    refine r_iload (pc := 11) cx dX6_average_11 rfl ?_
    refine r_iload (pc := 13) cx dX6_average_13 rfl ?_
    refine r_iload (pc := 15) cx dX6_average_15 rfl ?_
    refine r_pSi (pc := 17) cx (tX6_isWindow  p2 p3 p4 p5 σ) qm_X6_isWindow qs_X6_isWindow wm_X6_170 dX6_average_17 rfl rfl (Nat.le_of_ble_eq_true rfl) ⟨Nat.le_of_ble_eq_true rfl, Nat.le_of_ble_eq_true rfl⟩ ⟨rfl, rfl⟩ ⟨Nat.zero_le _, Nat.zero_le _⟩ (fun r17 => ?_)
    refine r_if_eq (tgt := 27) cx dX6_average_20 (by decide) ?_ ?_
    · exact qS.sub (qsub_cons rfl (qsub_cons rfl (qsub_cons rfl (qsub_cons rfl (qsub_cons rfl (qsub_cons rfl (qsub_cons rfl (qsub_nil _)))))))) (tX6_average_c27 cx hM _ _ _ _ _ _ _)
    · refine r_iconst (pc := 23) cx dX6_average_23 ?_
      refine r_goto (pc := 24) (tgt := 28) cx dX6_average_24 (by decide) ?_
      exact qS.sub (qsub_cons rfl (qsub_cons rfl (qsub_cons rfl (qsub_cons rfl (qsub_cons rfl (qsub_cons rfl (qsub_cons rfl (qsub_nil _)))))))) (tX6_average_c28 cx hM _ _ _ _ _ _ _ _)
def fX6_scatter_c28 (x1 : Int) (x2 : Int) (x3 : Int) (x4 : Int) (x5 : Int) (x6 : Int) (s0 : Int) (σ : qSt) : Option (Int × qSt) :=
  (qbd (fX6_refused s0 σ) fun (r28 : Int) (σ1 : qSt) => (if qI r28 = 0 then (qbd (fX6_look x1 x2 x3 x4 x5 x6 σ1) fun (r46 : Int) (σ2 : qSt) => (if qI (qlcmp (σ2 47 23) 0) = 0 then (some (0, σ2)) else (if qJ ((σ2 47 23) * (σ2 47 23)) = 0 then none else (some ((qldiv (100 * (((σ2 47 23) * (σ2 47 25)) - ((σ2 47 24) * (σ2 47 24)))) ((σ2 47 23) * (σ2 47 23))), σ2))))) else (some (0, σ1))))
set_option maxRecDepth 100000 in
set_option maxHeartbeats 4000000 in
theorem tX6_scatter_c28 {p : Program} {l : Launch} {e : Env} {s : State} {m : MethodId} {args : Array Value} {below : List Frame} {meth : Method} {c : Code} {z0 : Nat} {g : qG} {w : qWd} {ad : Nat → Nat} (cx : qCx p s m meth c cX6_scatter 7 RX6 (some .long) g z0) (hM : qBM g ad w) (x1 : Int) (x2 : Int) (x3 : Int) (x4 : Int) (x5 : Int) (x6 : Int) (s0 : Int) (σ : qSt) : qS p l e qrm3 s m args below meth c 7 g z0 w 0 0 (qQ below g z0 w qrj args s 0 0) (fX6_scatter_c28 x1 x2 x3 x4 x5 x6 s0 σ) σ 28 [(0, some (.ref (ad 47))), (1, some (.int (qI x1))), (2, some (.int (qI x2))), (3, some (.int (qI x3))), (4, some (.int (qI x4))), (5, some (.int (qI x5))), (6, some (.int (qI x6)))] [.int (qI s0), .ref (ad 47)] := by
  unfold fX6_scatter_c28
  refine r_dVi (pc := 28) cx (tX6_refused hM s0 σ) qm_X6_refused qv_X6_refused hcl_X6 (lw47 hM) wm_X6_84 dX6_scatter_28 rfl rfl (Nat.le_of_ble_eq_true rfl) ⟨Nat.le_of_ble_eq_true rfl, Nat.le_of_ble_eq_true rfl⟩ ⟨rfl, rfl⟩ ⟨Nat.zero_le _, Nat.zero_le _⟩ (fun r28 σ1 => ?_)
  refine r_if_eq (tgt := 36) cx dX6_scatter_31 (by decide) ?_ ?_
  · refine r_aload_n (pc := 36) cx dX6_scatter_36 rfl ?_
    refine r_iload_n (pc := 37) cx dX6_scatter_37 rfl ?_
    refine r_iload_n (pc := 38) cx dX6_scatter_38 rfl ?_
    refine r_iload_n (pc := 39) cx dX6_scatter_39 rfl ?_
    refine r_iload (pc := 40) cx dX6_scatter_40 rfl ?_
    refine r_iload (pc := 42) cx dX6_scatter_42 rfl ?_
    refine r_iload (pc := 44) cx dX6_scatter_44 rfl ?_
    refine r_dVv (pc := 46) cx (tX6_look hM x1 x2 x3 x4 x5 x6 σ1) qm_X6_look qv_X6_look hcl_X6 (lw47 hM) wm_X6_174 dX6_scatter_46 rfl rfl (Nat.le_of_ble_eq_true rfl) ⟨Nat.le_of_ble_eq_true rfl, Nat.le_of_ble_eq_true rfl⟩ ⟨rfl, rfl⟩ ⟨Nat.zero_le _, Nat.zero_le _⟩ (fun r46 σ2 => ?_)
    refine r_aload_n (pc := 49) cx dX6_scatter_49 rfl ?_
    refine r_get (pc := 50) cx hcl_X6 qc_X6 (lw47 hM) (j := 23) (by decide) wf_X6_157 dX6_scatter_50 (x := .long (qJ (σ2 47 23))) rfl ?_
    refine r_lconst (pc := 53) (z := 0) cx dX6_scatter_53 (by decide +kernel) ?_
    refine r_lcmp (pc := 54) cx dX6_scatter_54 ?_
    refine r_if_ne (tgt := 62) cx dX6_scatter_55 (by decide) ?_ ?_
    · refine r_ldc2 (pc := 62) (v := 100) cx dX6_scatter_62 wq_X6_178 ?_
      refine r_aload_n (pc := 65) cx dX6_scatter_65 rfl ?_
      refine r_get (pc := 66) cx hcl_X6 qc_X6 (lw47 hM) (j := 23) (by decide) wf_X6_157 dX6_scatter_66 (x := .long (qJ (σ2 47 23))) rfl ?_
      refine r_aload_n (pc := 69) cx dX6_scatter_69 rfl ?_
      refine r_get (pc := 70) cx hcl_X6 qc_X6 (lw47 hM) (j := 25) (by decide) wf_X6_163 dX6_scatter_70 (x := .long (qJ (σ2 47 25))) rfl ?_
      refine r_lmul (pc := 73) cx dX6_scatter_73 ?_
      refine r_aload_n (pc := 74) cx dX6_scatter_74 rfl ?_
      refine r_get (pc := 75) cx hcl_X6 qc_X6 (lw47 hM) (j := 24) (by decide) wf_X6_160 dX6_scatter_75 (x := .long (qJ (σ2 47 24))) rfl ?_
      refine r_aload_n (pc := 78) cx dX6_scatter_78 rfl ?_
      refine r_get (pc := 79) cx hcl_X6 qc_X6 (lw47 hM) (j := 24) (by decide) wf_X6_160 dX6_scatter_79 (x := .long (qJ (σ2 47 24))) rfl ?_
      refine r_lmul (pc := 82) cx dX6_scatter_82 ?_
      refine r_lsub (pc := 83) cx dX6_scatter_83 ?_
      refine r_lmul (pc := 84) cx dX6_scatter_84 ?_
      refine r_aload_n (pc := 85) cx dX6_scatter_85 rfl ?_
      refine r_get (pc := 86) cx hcl_X6 qc_X6 (lw47 hM) (j := 23) (by decide) wf_X6_157 dX6_scatter_86 (x := .long (qJ (σ2 47 23))) rfl ?_
      refine r_aload_n (pc := 89) cx dX6_scatter_89 rfl ?_
      refine r_get (pc := 90) cx hcl_X6 qc_X6 (lw47 hM) (j := 23) (by decide) wf_X6_157 dX6_scatter_90 (x := .long (qJ (σ2 47 23))) rfl ?_
      refine r_lmul (pc := 93) cx dX6_scatter_93 ?_
      refine qS.ite (fun _ => qS.fail) (fun hz94 => ?_)
      refine r_ldiv (pc := 94) cx dX6_scatter_94 hz94 ?_
      exact r_lreturn (w0 := w) (fun _ _ h => h) (Nat.zero_le _) (Nat.zero_le _) cx dX6_scatter_95 rfl
    · refine r_lconst (pc := 58) (z := 0) cx dX6_scatter_58 (by decide +kernel) ?_
      refine r_goto (pc := 59) (tgt := 95) cx dX6_scatter_59 (by decide) ?_
      exact r_lreturn (w0 := w) (fun _ _ h => h) (Nat.zero_le _) (Nat.zero_le _) cx dX6_scatter_95 rfl
  · refine r_lconst (pc := 34) (z := 0) cx dX6_scatter_34 (by decide +kernel) ?_
    exact r_lreturn (w0 := w) (fun _ _ h => h) (Nat.zero_le _) (Nat.zero_le _) cx dX6_scatter_35 rfl
def fX6_scatter_c27 (x1 : Int) (x2 : Int) (x3 : Int) (x4 : Int) (x5 : Int) (x6 : Int) (σ : qSt) : Option (Int × qSt) :=
  (fX6_scatter_c28 x1 x2 x3 x4 x5 x6 1 σ)
set_option maxRecDepth 100000 in
set_option maxHeartbeats 4000000 in
theorem tX6_scatter_c27 {p : Program} {l : Launch} {e : Env} {s : State} {m : MethodId} {args : Array Value} {below : List Frame} {meth : Method} {c : Code} {z0 : Nat} {g : qG} {w : qWd} {ad : Nat → Nat} (cx : qCx p s m meth c cX6_scatter 7 RX6 (some .long) g z0) (hM : qBM g ad w) (x1 : Int) (x2 : Int) (x3 : Int) (x4 : Int) (x5 : Int) (x6 : Int) (σ : qSt) : qS p l e qrm3 s m args below meth c 7 g z0 w 0 0 (qQ below g z0 w qrj args s 0 0) (fX6_scatter_c27 x1 x2 x3 x4 x5 x6 σ) σ 27 [(0, some (.ref (ad 47))), (1, some (.int (qI x1))), (2, some (.int (qI x2))), (3, some (.int (qI x3))), (4, some (.int (qI x4))), (5, some (.int (qI x5))), (6, some (.int (qI x6)))] [.ref (ad 47)] := by
  unfold fX6_scatter_c27
  refine r_iconst (pc := 27) cx dX6_scatter_27 ?_
  exact qS.sub (qsub_cons rfl (qsub_cons rfl (qsub_cons rfl (qsub_cons rfl (qsub_cons rfl (qsub_cons rfl (qsub_cons rfl (qsub_nil _)))))))) (tX6_scatter_c28 cx hM _ _ _ _ _ _ _ _)
def fX6_scatter (p0 : Int) (p1 : Int) (p2 : Int) (p3 : Int) (p4 : Int) (p5 : Int) (σ : qSt) : Option (Int × qSt) :=
  ((fX6_within σ p1 0 2).bind fun (r4 : Int) => (if qI r4 = 0 then (fX6_scatter_c27 p0 p1 p2 p3 p4 p5 σ) else ((fX6_isWindow σ p2 p3 p4 p5).bind fun (r17 : Int) => (if qI r17 = 0 then (fX6_scatter_c27 p0 p1 p2 p3 p4 p5 σ) else (fX6_scatter_c28 p0 p1 p2 p3 p4 p5 0 σ)))))
set_option maxRecDepth 100000 in
set_option maxHeartbeats 4000000 in
theorem tX6_scatter {l : Launch} {z0 : Nat} {g : qG} {w : qWd} {ad : Nat → Nat} (hM : qBM g ad w) (p0 : Int) (p1 : Int) (p2 : Int) (p3 : Int) (p4 : Int) (p5 : Int) (σ : qSt) : qCT l yX6_scatter cX6_scatter 7 (some .long) qrm3 g z0 w [.ref (ad 47), .int (qI p0), .int (qI p1), .int (qI p2), .int (qI p3), .int (qI p4), .int (qI p5)] σ (fX6_scatter p0 p1 p2 p3 p4 p5 σ) qrj := by
  refine qCT.of [(0, some (.ref (ad 47))), (1, some (.int (qI p0))), (2, some (.int (qI p1))), (3, some (.int (qI p2))), (4, some (.int (qI p3))), (5, some (.int (qI p4))), (6, some (.int (qI p5)))] (by decide +kernel) (Nat.le_of_ble_eq_true rfl) rfl ?_
  intro p e s m args below meth c cx
  unfold fX6_scatter
  refine r_aload_n (pc := 0) cx dX6_scatter_0 rfl ?_
  refine r_iload_n (pc := 1) cx dX6_scatter_1 rfl ?_
  refine r_iconst (pc := 2) cx dX6_scatter_2 ?_
  refine r_iconst (pc := 3) cx dX6_scatter_3 ?_
  refine r_pSi (pc := 4) cx (tX6_within  p1 0 2 σ) qm_X6_within qs_X6_within wm_X6_62 dX6_scatter_4 rfl rfl (Nat.le_of_ble_eq_true rfl) ⟨Nat.le_of_ble_eq_true rfl, Nat.le_of_ble_eq_true rfl⟩ ⟨rfl, rfl⟩ ⟨Nat.zero_le _, Nat.zero_le _⟩ (fun r4 => ?_)
  refine r_if_eq (tgt := 27) cx dX6_scatter_7 (by decide) ?_ ?_
  · exact qS.sub (qsub_cons rfl (qsub_cons rfl (qsub_cons rfl (qsub_cons rfl (qsub_cons rfl (qsub_cons rfl (qsub_cons rfl (qsub_nil _)))))))) (tX6_scatter_c27 cx hM _ _ _ _ _ _ _)
  · refine r_iload_n (pc := 10) cx dX6_scatter_10 rfl ?_
    refine r_iload (pc := 11) cx dX6_scatter_11 rfl ?_
    refine r_iload (pc := 13) cx dX6_scatter_13 rfl ?_
    refine r_iload (pc := 15) cx dX6_scatter_15 rfl ?_
    refine r_pSi (pc := 17) cx (tX6_isWindow  p2 p3 p4 p5 σ) qm_X6_isWindow qs_X6_isWindow wm_X6_170 dX6_scatter_17 rfl rfl (Nat.le_of_ble_eq_true rfl) ⟨Nat.le_of_ble_eq_true rfl, Nat.le_of_ble_eq_true rfl⟩ ⟨rfl, rfl⟩ ⟨Nat.zero_le _, Nat.zero_le _⟩ (fun r17 => ?_)
    refine r_if_eq (tgt := 27) cx dX6_scatter_20 (by decide) ?_ ?_
    · exact qS.sub (qsub_cons rfl (qsub_cons rfl (qsub_cons rfl (qsub_cons rfl (qsub_cons rfl (qsub_cons rfl (qsub_cons rfl (qsub_nil _)))))))) (tX6_scatter_c27 cx hM _ _ _ _ _ _ _)
    · refine r_iconst (pc := 23) cx dX6_scatter_23 ?_
      refine r_goto (pc := 24) (tgt := 28) cx dX6_scatter_24 (by decide) ?_
      exact qS.sub (qsub_cons rfl (qsub_cons rfl (qsub_cons rfl (qsub_cons rfl (qsub_cons rfl (qsub_cons rfl (qsub_cons rfl (qsub_nil _)))))))) (tX6_scatter_c28 cx hM _ _ _ _ _ _ _ _)
def fX6_likeness_c17 (x1 : Int) (x2 : Int) (x3 : Int) (x4 : Int) (s0 : Int) (σ : qSt) : Option (Int × qSt) :=
  (qbd (fX6_refused s0 σ) fun (r17 : Int) (σ1 : qSt) => (if qI r17 = 0 then (qbd (fX6_look 0 1 x1 x2 x3 x4 σ1) fun (r33 : Int) (σ2 : qSt) => (qb (FP.l2f (qJ (σ2 47 24))) fun (y3 : UInt32) => (qbd (fX6_look 0 0 x1 x2 x3 x4 σ2) fun (r51 : Int) (σ4 : qSt) => (if qI (qlcmp (σ4 47 24) 0) = 0 then (some ((FP.fconst0.toNat : Int), σ4)) else (qb (FP.l2f (qJ (σ4 47 24))) fun (y5 : UInt32) => (if (FP.fdiv y3 y5) &&& 0x7fffffff ≤ 0x7f800000 then (qb (FP.fdiv y3 y5) fun (y6 : UInt32) => (if (FP.fdiv y5 (FP.l2f (qJ (σ4 47 23)))) &&& 0x7fffffff ≤ 0x7f800000 then (qb (FP.fdiv y5 (FP.l2f (qJ (σ4 47 23)))) fun (y7 : UInt32) => (if (FP.fmul y6 (FP.i2f (qI x3))) &&& 0x7fffffff ≤ 0x7f800000 then (if (FP.fmul (FP.fmul y6 (FP.i2f (qI x3))) y7) &&& 0x7fffffff ≤ 0x7f800000 then (some (((FP.fmul (FP.fmul y6 (FP.i2f (qI x3))) y7).toNat : Int), σ4)) else none) else none)) else none)) else none)))))) else (some ((FP.fconst0.toNat : Int), σ1))))
set_option maxRecDepth 100000 in
set_option maxHeartbeats 4000000 in
theorem tX6_likeness_c17 {p : Program} {l : Launch} {e : Env} {s : State} {m : MethodId} {args : Array Value} {below : List Frame} {meth : Method} {c : Code} {z0 : Nat} {g : qG} {w : qWd} {ad : Nat → Nat} (cx : qCx p s m meth c cX6_likeness 9 RX6 (some .float) g z0) (hM : qBM g ad w) (x1 : Int) (x2 : Int) (x3 : Int) (x4 : Int) (s0 : Int) (σ : qSt) : qS p l e qrm3 s m args below meth c 9 g z0 w 0 0 (qQ below g z0 w qrf args s 0 0) (fX6_likeness_c17 x1 x2 x3 x4 s0 σ) σ 17 [(0, some (.ref (ad 47))), (1, some (.int (qI x1))), (2, some (.int (qI x2))), (3, some (.int (qI x3))), (4, some (.int (qI x4)))] [.int (qI s0), .ref (ad 47)] := by
  unfold fX6_likeness_c17
  refine r_dVi (pc := 17) cx (tX6_refused hM s0 σ) qm_X6_refused qv_X6_refused hcl_X6 (lw47 hM) wm_X6_84 dX6_likeness_17 rfl rfl (Nat.le_of_ble_eq_true rfl) ⟨Nat.le_of_ble_eq_true rfl, Nat.le_of_ble_eq_true rfl⟩ ⟨rfl, rfl⟩ ⟨Nat.zero_le _, Nat.zero_le _⟩ (fun r17 σ1 => ?_)
  refine r_if_eq (tgt := 25) cx dX6_likeness_20 (by decide) ?_ ?_
  · refine r_aload_n (pc := 25) cx dX6_likeness_25 rfl ?_
    refine r_iconst (pc := 26) cx dX6_likeness_26 ?_
    refine r_iconst (pc := 27) cx dX6_likeness_27 ?_
    refine r_iload_n (pc := 28) cx dX6_likeness_28 rfl ?_
    refine r_iload_n (pc := 29) cx dX6_likeness_29 rfl ?_
    refine r_iload_n (pc := 30) cx dX6_likeness_30 rfl ?_
    refine r_iload (pc := 31) cx dX6_likeness_31 rfl ?_
    refine r_dVv (pc := 33) cx (tX6_look hM 0 1 x1 x2 x3 x4 σ1) qm_X6_look qv_X6_look hcl_X6 (lw47 hM) wm_X6_174 dX6_likeness_33 rfl rfl (Nat.le_of_ble_eq_true rfl) ⟨Nat.le_of_ble_eq_true rfl, Nat.le_of_ble_eq_true rfl⟩ ⟨rfl, rfl⟩ ⟨Nat.zero_le _, Nat.zero_le _⟩ (fun r33 σ2 => ?_)
    refine r_aload_n (pc := 36) cx dX6_likeness_36 rfl ?_
    refine r_get (pc := 37) cx hcl_X6 qc_X6 (lw47 hM) (j := 24) (by decide) wf_X6_160 dX6_likeness_37 (x := .long (qJ (σ2 47 24))) rfl ?_
    refine r_l2f (pc := 40) cx dX6_likeness_40 ?_
    refine r_nmf (fun y3 => ?_)
    refine r_fstore (pc := 41) cx dX6_likeness_41 (by decide) rfl ?_
    refine r_aload_n (pc := 43) cx dX6_likeness_43 rfl ?_
    refine r_iconst (pc := 44) cx dX6_likeness_44 ?_
    refine r_iconst (pc := 45) cx dX6_likeness_45 ?_
    refine r_iload_n (pc := 46) cx dX6_likeness_46 rfl ?_
    refine r_iload_n (pc := 47) cx dX6_likeness_47 rfl ?_
    refine r_iload_n (pc := 48) cx dX6_likeness_48 rfl ?_
    refine r_iload (pc := 49) cx dX6_likeness_49 rfl ?_
    refine r_dVv (pc := 51) cx (tX6_look hM 0 0 x1 x2 x3 x4 σ2) qm_X6_look qv_X6_look hcl_X6 (lw47 hM) wm_X6_174 dX6_likeness_51 rfl rfl (Nat.le_of_ble_eq_true rfl) ⟨Nat.le_of_ble_eq_true rfl, Nat.le_of_ble_eq_true rfl⟩ ⟨rfl, rfl⟩ ⟨Nat.zero_le _, Nat.zero_le _⟩ (fun r51 σ4 => ?_)
    refine r_aload_n (pc := 54) cx dX6_likeness_54 rfl ?_
    refine r_get (pc := 55) cx hcl_X6 qc_X6 (lw47 hM) (j := 24) (by decide) wf_X6_160 dX6_likeness_55 (x := .long (qJ (σ4 47 24))) rfl ?_
    refine r_lconst (pc := 58) (z := 0) cx dX6_likeness_58 (by decide +kernel) ?_
    refine r_lcmp (pc := 59) cx dX6_likeness_59 ?_
    refine r_if_ne (tgt := 65) cx dX6_likeness_60 (by decide) ?_ ?_
    · refine r_aload_n (pc := 65) cx dX6_likeness_65 rfl ?_
      refine r_get (pc := 66) cx hcl_X6 qc_X6 (lw47 hM) (j := 24) (by decide) wf_X6_160 dX6_likeness_66 (x := .long (qJ (σ4 47 24))) rfl ?_
      refine r_l2f (pc := 69) cx dX6_likeness_69 ?_
      refine r_nmf (fun y5 => ?_)
      refine r_fstore (pc := 70) cx dX6_likeness_70 (by decide) rfl ?_
      refine r_fload (pc := 72) cx dX6_likeness_72 rfl ?_
      refine r_fload (pc := 74) cx dX6_likeness_74 rfl ?_
      refine r_fdiv (pc := 76) cx dX6_likeness_76 ?_
      refine r_nmf (fun y6 => ?_)
      refine r_fstore (pc := 77) cx dX6_likeness_77 (by decide) rfl ?_
      refine r_fload (pc := 79) cx dX6_likeness_79 rfl ?_
      refine r_aload_n (pc := 81) cx dX6_likeness_81 rfl ?_
      refine r_get (pc := 82) cx hcl_X6 qc_X6 (lw47 hM) (j := 23) (by decide) wf_X6_157 dX6_likeness_82 (x := .long (qJ (σ4 47 23))) rfl ?_
      refine r_l2f (pc := 85) cx dX6_likeness_85 ?_
      refine r_fdiv (pc := 86) cx dX6_likeness_86 ?_
      refine r_nmf (fun y7 => ?_)
      refine r_fstore (pc := 87) cx dX6_likeness_87 (by decide) rfl ?_
      refine r_fload (pc := 89) cx dX6_likeness_89 rfl ?_
      refine r_iload_n (pc := 91) cx dX6_likeness_91 rfl ?_
      refine r_i2f (pc := 92) cx dX6_likeness_92 ?_
      refine r_fmul (pc := 93) cx dX6_likeness_93 ?_
      refine r_fload (pc := 94) cx dX6_likeness_94 rfl ?_
      refine r_fmul (pc := 96) cx dX6_likeness_96 ?_
      exact r_freturn (w0 := w) (fun _ _ h => h) (Nat.zero_le _) (Nat.zero_le _) cx dX6_likeness_97 rfl
    · refine r_fconst0 (pc := 63) cx dX6_likeness_63 ?_
      exact r_freturn (w0 := w) (fun _ _ h => h) (Nat.zero_le _) (Nat.zero_le _) cx dX6_likeness_64 rfl
  · refine r_fconst0 (pc := 23) cx dX6_likeness_23 ?_
    exact r_freturn (w0 := w) (fun _ _ h => h) (Nat.zero_le _) (Nat.zero_le _) cx dX6_likeness_24 rfl
def fX6_likeness (p0 : Int) (p1 : Int) (p2 : Int) (p3 : Int) (σ : qSt) : Option (Int × qSt) :=
  ((fX6_isWindow σ p0 p1 p2 p3).bind fun (r6 : Int) => (if qI r6 = 0 then (fX6_likeness_c17 p0 p1 p2 p3 1 σ) else (fX6_likeness_c17 p0 p1 p2 p3 0 σ)))
set_option maxRecDepth 100000 in
set_option maxHeartbeats 4000000 in
theorem tX6_likeness {l : Launch} {z0 : Nat} {g : qG} {w : qWd} {ad : Nat → Nat} (hM : qBM g ad w) (p0 : Int) (p1 : Int) (p2 : Int) (p3 : Int) (σ : qSt) : qCT l yX6_likeness cX6_likeness 9 (some .float) qrm3 g z0 w [.ref (ad 47), .int (qI p0), .int (qI p1), .int (qI p2), .int (qI p3)] σ (fX6_likeness p0 p1 p2 p3 σ) qrf := by
  refine qCT.of [(0, some (.ref (ad 47))), (1, some (.int (qI p0))), (2, some (.int (qI p1))), (3, some (.int (qI p2))), (4, some (.int (qI p3)))] (by decide +kernel) (Nat.le_of_ble_eq_true rfl) rfl ?_
  intro p e s m args below meth c cx
  unfold fX6_likeness
  refine r_aload_n (pc := 0) cx dX6_likeness_0 rfl ?_
  refine r_iload_n (pc := 1) cx dX6_likeness_1 rfl ?_
  refine r_iload_n (pc := 2) cx dX6_likeness_2 rfl ?_
  refine r_iload_n (pc := 3) cx dX6_likeness_3 rfl ?_
  refine r_iload (pc := 4) cx dX6_likeness_4 rfl ?_
  refine r_pSi (pc := 6) cx (tX6_isWindow  p0 p1 p2 p3 σ) qm_X6_isWindow qs_X6_isWindow wm_X6_170 dX6_likeness_6 rfl rfl (Nat.le_of_ble_eq_true rfl) ⟨Nat.le_of_ble_eq_true rfl, Nat.le_of_ble_eq_true rfl⟩ ⟨rfl, rfl⟩ ⟨Nat.zero_le _, Nat.zero_le _⟩ (fun r6 => ?_)
  refine r_if_eq (tgt := 16) cx dX6_likeness_9 (by decide) ?_ ?_
  · refine r_iconst (pc := 16) cx dX6_likeness_16 ?_
    exact qS.sub (qsub_cons rfl (qsub_cons rfl (qsub_cons rfl (qsub_cons rfl (qsub_cons rfl (qsub_nil _)))))) (tX6_likeness_c17 cx hM _ _ _ _ _ _)
  · refine r_iconst (pc := 12) cx dX6_likeness_12 ?_
    refine r_goto (pc := 13) (tgt := 17) cx dX6_likeness_13 (by decide) ?_
    exact qS.sub (qsub_cons rfl (qsub_cons rfl (qsub_cons rfl (qsub_cons rfl (qsub_cons rfl (qsub_nil _)))))) (tX6_likeness_c17 cx hM _ _ _ _ _ _)
def fX6_copy_c2 : Nat → Int → qSt → Option (Int × qSt)
  | 0, _, _ => none
  | f + 1, x1, σ => (if qI 96 ≤ qI x1 then (some (0, σ)) else (if 0 ≤ x1 ∧ x1 < 96 then (if 0 ≤ x1 ∧ x1 < 96 then (qb (qset σ 54 x1 (σ 50 x1)) fun (σ1 : qSt) => (if 0 ≤ x1 ∧ x1 < 96 then (if 0 ≤ x1 ∧ x1 < 96 then (qb (qset σ1 55 x1 (σ1 51 x1)) fun (σ2 : qSt) => (fX6_copy_c2 f (x1 + 1) σ2)) else none) else none)) else none) else none))
set_option maxRecDepth 100000 in
set_option maxHeartbeats 4000000 in
theorem tX6_copy_c2 {p : Program} {l : Launch} {e : Env} {s : State} {m : MethodId} {args : Array Value} {below : List Frame} {meth : Method} {c : Code} {z0 : Nat} {g : qG} {w : qWd} {ad : Nat → Nat} (cx : qCx p s m meth c cX6_copy 2 RX6 none g z0) (hM : qBM g ad w) : ∀ (f : Nat) (x1 : Int) (σ : qSt), qS p l e qrm0 s m args below meth c 2 g z0 w 0 0 (qQ below g z0 w qrv args s 0 0) (fX6_copy_c2 f x1 σ) σ 2 [(0, some (.ref (ad 47))), (1, some (.int (qI x1)))] [] := by
  intro f
  induction f with
  | zero => exact fun _ _ => qS.fail
  | succ f ih =>
    intro x1 σ
    unfold fX6_copy_c2
    refine r_iload_n (pc := 2) cx dX6_copy_2 rfl ?_
    refine r_bipush (pc := 3) (v := 96) cx dX6_copy_3 (by decide +kernel) ?_
    refine r_icmp_ge (tgt := 38) cx dX6_copy_5 (by decide) ?_ ?_
    · exact r_return (w0 := w) (fun _ _ h => h) (Nat.zero_le _) (Nat.zero_le _) cx dX6_copy_38 rfl
    · refine r_aload_n (pc := 8) cx dX6_copy_8 rfl ?_
      refine r_get (pc := 9) cx hcl_X6 qc_X6 (lw47 hM) (j := 7) (by decide) wf_X6_28 dX6_copy_9 (x := .ref (ad 54)) rfl ?_
      refine r_iload_n (pc := 12) cx dX6_copy_12 rfl ?_
      refine r_aload_n (pc := 13) cx dX6_copy_13 rfl ?_
      refine r_get (pc := 14) cx hcl_X6 qc_X6 (lw47 hM) (j := 3) (by decide) wf_X6_16 dX6_copy_14 (x := .ref (ad 50)) rfl ?_
      refine r_iload_n (pc := 17) cx dX6_copy_17 rfl ?_
      refine r_iaload (pc := 18) cx (lw50 hM) rfl (by decide) dX6_copy_18 ?_
      refine r_iastore (pc := 19) cx (lw54 hM) rfl (by decide) dX6_copy_19 (fun σ1 => ?_)
      refine r_aload_n (pc := 20) cx dX6_copy_20 rfl ?_
      refine r_get (pc := 21) cx hcl_X6 qc_X6 (lw47 hM) (j := 8) (by decide) wf_X6_31 dX6_copy_21 (x := .ref (ad 55)) rfl ?_
      refine r_iload_n (pc := 24) cx dX6_copy_24 rfl ?_
      refine r_aload_n (pc := 25) cx dX6_copy_25 rfl ?_
      refine r_get (pc := 26) cx hcl_X6 qc_X6 (lw47 hM) (j := 4) (by decide) wf_X6_19 dX6_copy_26 (x := .ref (ad 51)) rfl ?_
      refine r_iload_n (pc := 29) cx dX6_copy_29 rfl ?_
      refine r_iaload (pc := 30) cx (lw51 hM) rfl (by decide) dX6_copy_30 ?_
      refine r_iastore (pc := 31) cx (lw55 hM) rfl (by decide) dX6_copy_31 (fun σ2 => ?_)
      refine r_iinc (pc := 32) cx dX6_copy_32 rfl (by decide) rfl ?_
      refine r_goto (pc := 35) (tgt := 2) cx dX6_copy_35 (by decide) ?_
      exact qS.sub (qsub_cons rfl (qsub_cons rfl (qsub_nil _))) (ih _ _)
def fX6_copy (σ : qSt) : Option (Int × qSt) :=
  (fX6_copy_c2 qFU 0 σ)
set_option maxRecDepth 100000 in
set_option maxHeartbeats 4000000 in
theorem tX6_copy {l : Launch} {z0 : Nat} {g : qG} {w : qWd} {ad : Nat → Nat} (hM : qBM g ad w) (σ : qSt) : qCT l yX6_copy cX6_copy 2 none qrm0 g z0 w [.ref (ad 47)] σ (fX6_copy σ) qrv := by
  refine qCT.of [(0, some (.ref (ad 47)))] (by decide +kernel) (Nat.le_of_ble_eq_true rfl) rfl ?_
  intro p e s m args below meth c cx
  unfold fX6_copy
  refine r_iconst (pc := 0) cx dX6_copy_0 ?_
  refine r_istore_n (pc := 1) cx dX6_copy_1 (by decide) rfl ?_
  exact qS.sub (qsub_cons rfl (qsub_cons rfl (qsub_nil _))) (tX6_copy_c2 cx hM _ _ _)
def fX6_ahead_c41 : Nat → Int → Int → Int → qSt → Option (Int × qSt)
  | 0, _, _, _, _ => none
  | f + 1, x1, x2, x3, σ => (if qI x2 ≤ qI x3 then (if 0 ≤ x1 ∧ x1 < 96 then (some ((σ 54 x1), σ)) else none) else (qbd (fX6_advance 54 55 σ) fun (r55 : Int) (σ3 : qSt) => (fX6_ahead_c41 f x1 x2 (x3 + 1) σ3)))
set_option maxRecDepth 100000 in
set_option maxHeartbeats 4000000 in
theorem tX6_ahead_c41 {p : Program} {l : Launch} {e : Env} {s : State} {m : MethodId} {args : Array Value} {below : List Frame} {meth : Method} {c : Code} {z0 : Nat} {g : qG} {w : qWd} {ad : Nat → Nat} (cx : qCx p s m meth c cX6_ahead 4 RX6 (some .int) g z0) (hM : qBM g ad w) : ∀ (f : Nat) (x1 : Int) (x2 : Int) (x3 : Int) (σ : qSt), qS p l e qrm2 s m args below meth c 4 g z0 w 0 0 (qQ below g z0 w qri args s 0 0) (fX6_ahead_c41 f x1 x2 x3 σ) σ 41 [(0, some (.ref (ad 47))), (1, some (.int (qI x1))), (2, some (.int (qI x2))), (3, some (.int (qI x3)))] [] := by
  intro f
  induction f with
  | zero => exact fun _ _ _ _ => qS.fail
  | succ f ih =>
    intro x1 x2 x3 σ
    unfold fX6_ahead_c41
    refine r_iload_n (pc := 41) cx dX6_ahead_41 rfl ?_
    refine r_iload_n (pc := 42) cx dX6_ahead_42 rfl ?_
    refine r_icmp_ge (tgt := 64) cx dX6_ahead_43 (by decide) ?_ ?_
    · refine r_aload_n (pc := 64) cx dX6_ahead_64 rfl ?_
      refine r_get (pc := 65) cx hcl_X6 qc_X6 (lw47 hM) (j := 7) (by decide) wf_X6_28 dX6_ahead_65 (x := .ref (ad 54)) rfl ?_
      refine r_iload_n (pc := 68) cx dX6_ahead_68 rfl ?_
      refine r_iaload (pc := 69) cx (lw54 hM) rfl (by decide) dX6_ahead_69 ?_
      exact r_ireturn (w0 := w) (fun _ _ h => h) (Nat.zero_le _) (Nat.zero_le _) cx dX6_ahead_70 rfl
    · refine r_aload_n (pc := 46) cx dX6_ahead_46 rfl ?_
      refine r_aload_n (pc := 47) cx dX6_ahead_47 rfl ?_
      refine r_get (pc := 48) cx hcl_X6 qc_X6 (lw47 hM) (j := 7) (by decide) wf_X6_28 dX6_ahead_48 (x := .ref (ad 54)) rfl ?_
      refine r_aload_n (pc := 51) cx dX6_ahead_51 rfl ?_
      refine r_get (pc := 52) cx hcl_X6 qc_X6 (lw47 hM) (j := 8) (by decide) wf_X6_31 dX6_ahead_52 (x := .ref (ad 55)) rfl ?_
      refine r_dVv (pc := 55) cx (tX6_advance hM (lw54 hM) (lw55 hM)  σ) qm_X6_advance qv_X6_advance hcl_X6 (lw47 hM) wm_X6_130 dX6_ahead_55 rfl rfl (Nat.le_of_ble_eq_true rfl) ⟨Nat.le_of_ble_eq_true rfl, Nat.le_of_ble_eq_true rfl⟩ ⟨rfl, rfl⟩ ⟨Nat.zero_le _, Nat.zero_le _⟩ (fun r55 σ3 => ?_)
      refine r_iinc (pc := 58) cx dX6_ahead_58 rfl (by decide) rfl ?_
      refine r_goto (pc := 61) (tgt := 41) cx dX6_ahead_61 (by decide) ?_
      exact qS.sub (qsub_cons rfl (qsub_cons rfl (qsub_cons rfl (qsub_cons rfl (qsub_nil _))))) (ih _ _ _ _)
def fX6_ahead_c27 (x1 : Int) (x2 : Int) (s0 : Int) (σ : qSt) : Option (Int × qSt) :=
  (qbd (fX6_refused s0 σ) fun (r27 : Int) (σ1 : qSt) => (if qI r27 = 0 then (qbd (fX6_copy σ1) fun (r36 : Int) (σ2 : qSt) => (fX6_ahead_c41 qFU x1 x2 0 σ2)) else (some (0, σ1))))
set_option maxRecDepth 100000 in
set_option maxHeartbeats 4000000 in
theorem tX6_ahead_c27 {p : Program} {l : Launch} {e : Env} {s : State} {m : MethodId} {args : Array Value} {below : List Frame} {meth : Method} {c : Code} {z0 : Nat} {g : qG} {w : qWd} {ad : Nat → Nat} (cx : qCx p s m meth c cX6_ahead 4 RX6 (some .int) g z0) (hM : qBM g ad w) (x1 : Int) (x2 : Int) (s0 : Int) (σ : qSt) : qS p l e qrm2 s m args below meth c 4 g z0 w 0 0 (qQ below g z0 w qri args s 0 0) (fX6_ahead_c27 x1 x2 s0 σ) σ 27 [(0, some (.ref (ad 47))), (1, some (.int (qI x1))), (2, some (.int (qI x2)))] [.int (qI s0), .ref (ad 47)] := by
  unfold fX6_ahead_c27
  refine r_dVi (pc := 27) cx (tX6_refused hM s0 σ) qm_X6_refused qv_X6_refused hcl_X6 (lw47 hM) wm_X6_84 dX6_ahead_27 rfl rfl (Nat.le_of_ble_eq_true rfl) ⟨Nat.le_of_ble_eq_true rfl, Nat.le_of_ble_eq_true rfl⟩ ⟨rfl, rfl⟩ ⟨Nat.zero_le _, Nat.zero_le _⟩ (fun r27 σ1 => ?_)
  refine r_if_eq (tgt := 35) cx dX6_ahead_30 (by decide) ?_ ?_
  · refine r_aload_n (pc := 35) cx dX6_ahead_35 rfl ?_
    refine r_dVv (pc := 36) cx (tX6_copy hM  σ1) qm_X6_copy qv_X6_copy hcl_X6 (lw47 hM) wm_X6_180 dX6_ahead_36 rfl rfl (Nat.le_of_ble_eq_true rfl) ⟨Nat.le_of_ble_eq_true rfl, Nat.le_of_ble_eq_true rfl⟩ ⟨rfl, rfl⟩ ⟨Nat.zero_le _, Nat.zero_le _⟩ (fun r36 σ2 => ?_)
    refine r_iconst (pc := 39) cx dX6_ahead_39 ?_
    refine r_istore_n (pc := 40) cx dX6_ahead_40 (by decide) rfl ?_
    exact qS.sub (qsub_cons rfl (qsub_cons rfl (qsub_cons rfl (qsub_cons rfl (qsub_nil _))))) (tX6_ahead_c41 cx hM _ _ _ _ _)
  · refine r_iconst (pc := 33) cx dX6_ahead_33 ?_
    exact r_ireturn (w0 := w) (fun _ _ h => h) (Nat.zero_le _) (Nat.zero_le _) cx dX6_ahead_34 rfl
def fX6_ahead (p0 : Int) (p1 : Int) (σ : qSt) : Option (Int × qSt) :=
  ((fX6_isCell σ p0).bind fun (r3 : Int) => (if qI r3 = 0 then (fX6_ahead_c27 p0 p1 1 σ) else ((fX6_within σ p1 0 5).bind fun (r16 : Int) => (if qI r16 = 0 then (fX6_ahead_c27 p0 p1 2 σ) else (fX6_ahead_c27 p0 p1 0 σ)))))
set_option maxRecDepth 100000 in
set_option maxHeartbeats 4000000 in
theorem tX6_ahead {l : Launch} {z0 : Nat} {g : qG} {w : qWd} {ad : Nat → Nat} (hM : qBM g ad w) (p0 : Int) (p1 : Int) (σ : qSt) : qCT l yX6_ahead cX6_ahead 4 (some .int) qrm2 g z0 w [.ref (ad 47), .int (qI p0), .int (qI p1)] σ (fX6_ahead p0 p1 σ) qri := by
  refine qCT.of [(0, some (.ref (ad 47))), (1, some (.int (qI p0))), (2, some (.int (qI p1)))] (by decide +kernel) (Nat.le_of_ble_eq_true rfl) rfl ?_
  intro p e s m args below meth c cx
  unfold fX6_ahead
  refine r_aload_n (pc := 0) cx dX6_ahead_0 rfl ?_
  refine r_aload_n (pc := 1) cx dX6_ahead_1 rfl ?_
  refine r_iload_n (pc := 2) cx dX6_ahead_2 rfl ?_
  refine r_pVi (pc := 3) cx (tX6_isCell hM p0 σ) qm_X6_isCell qv_X6_isCell hcl_X6 (lw47 hM) wm_X6_77 dX6_ahead_3 rfl rfl (Nat.le_of_ble_eq_true rfl) ⟨Nat.le_of_ble_eq_true rfl, Nat.le_of_ble_eq_true rfl⟩ ⟨rfl, rfl⟩ ⟨Nat.zero_le _, Nat.zero_le _⟩ (fun r3 => ?_)
  refine r_if_ne (tgt := 13) cx dX6_ahead_6 (by decide) ?_ ?_
  · refine r_iload_n (pc := 13) cx dX6_ahead_13 rfl ?_
    refine r_iconst (pc := 14) cx dX6_ahead_14 ?_
    refine r_iconst (pc := 15) cx dX6_ahead_15 ?_
    refine r_pSi (pc := 16) cx (tX6_within  p1 0 5 σ) qm_X6_within qs_X6_within wm_X6_62 dX6_ahead_16 rfl rfl (Nat.le_of_ble_eq_true rfl) ⟨Nat.le_of_ble_eq_true rfl, Nat.le_of_ble_eq_true rfl⟩ ⟨rfl, rfl⟩ ⟨Nat.zero_le _, Nat.zero_le _⟩ (fun r16 => ?_)
    refine r_if_ne (tgt := 26) cx dX6_ahead_19 (by decide) ?_ ?_
    · refine r_iconst (pc := 26) cx dX6_ahead_26 ?_
      exact qS.sub (qsub_cons rfl (qsub_cons rfl (qsub_cons rfl (qsub_nil _)))) (tX6_ahead_c27 cx hM _ _ _ _)
    · refine r_iconst (pc := 22) cx dX6_ahead_22 ?_
      refine r_goto (pc := 23) (tgt := 27) cx dX6_ahead_23 (by decide) ?_
      exact qS.sub (qsub_cons rfl (qsub_cons rfl (qsub_cons rfl (qsub_nil _)))) (tX6_ahead_c27 cx hM _ _ _ _)
  · refine r_iconst (pc := 9) cx dX6_ahead_9 ?_
    refine r_goto (pc := 10) (tgt := 27) cx dX6_ahead_10 (by decide) ?_
    exact qS.sub (qsub_cons rfl (qsub_cons rfl (qsub_cons rfl (qsub_nil _)))) (tX6_ahead_c27 cx hM _ _ _ _)
def fX6_aheadAnew (p0 : Int) (p1 : Int) (σ : qSt) : Option (Int × qSt) :=
  (qbd (fX6_ahead p0 p1 σ) fun (r3 : Int) (σ1 : qSt) => (some (r3, σ1)))
set_option maxRecDepth 100000 in
set_option maxHeartbeats 4000000 in
theorem tX6_aheadAnew {l : Launch} {z0 : Nat} {g : qG} {w : qWd} {ad : Nat → Nat} (hM : qBM g ad w) (p0 : Int) (p1 : Int) (σ : qSt) : qCT l yX6_aheadAnew cX6_aheadAnew 3 (some .int) qrm3 g z0 w [.ref (ad 47), .int (qI p0), .int (qI p1)] σ (fX6_aheadAnew p0 p1 σ) qri := by
  refine qCT.of [(0, some (.ref (ad 47))), (1, some (.int (qI p0))), (2, some (.int (qI p1)))] (by decide +kernel) (Nat.le_of_ble_eq_true rfl) rfl ?_
  intro p e s m args below meth c cx
  unfold fX6_aheadAnew
  refine r_aload_n (pc := 0) cx dX6_aheadAnew_0 rfl ?_
  refine r_iload_n (pc := 1) cx dX6_aheadAnew_1 rfl ?_
  refine r_iload_n (pc := 2) cx dX6_aheadAnew_2 rfl ?_
  refine r_dVi (pc := 3) cx (tX6_ahead hM p0 p1 σ) qm_X6_ahead qv_X6_ahead hcl_X6 (lw47 hM) wm_X6_183 dX6_aheadAnew_3 rfl rfl (Nat.le_of_ble_eq_true rfl) ⟨Nat.le_of_ble_eq_true rfl, Nat.le_of_ble_eq_true rfl⟩ ⟨rfl, rfl⟩ ⟨Nat.zero_le _, Nat.zero_le _⟩ (fun r3 σ1 => ?_)
  exact r_ireturn (w0 := w) (fun _ _ h => h) (Nat.zero_le _) (Nat.zero_le _) cx dX6_aheadAnew_6 rfl
def fX6_shade (σ : qSt) (p0 : Int) : Option Int :=
  (if 0 ≤ p0 ∧ p0 < 96 then (if qI (σ 50 p0) = 0 then (some 0) else (if 0 ≤ p0 ∧ p0 < 96 then (if 0 ≤ p0 ∧ p0 < 96 then (if qI (σ 51 p0) = qI (σ 50 p0) then (some 1) else (if 0 ≤ p0 ∧ p0 < 96 then (if qI (σ 51 p0) = 0 then (some (-1)) else (some 0)) else none)) else none) else none)) else none)
set_option maxRecDepth 100000 in
set_option maxHeartbeats 4000000 in
theorem tX6_shade {l : Launch} {z0 : Nat} {g : qG} {w : qWd} {ad : Nat → Nat} (hM : qBM g ad w) (p0 : Int) (σ : qSt) : qCT l yX6_shade cX6_shade 2 (some .int) qrm0 g z0 w [.ref (ad 47), .int (qI p0)] σ (qlift (fX6_shade σ p0) σ) qri := by
  refine qCTp.of [(0, some (.ref (ad 47))), (1, some (.int (qI p0)))] (by decide +kernel) (Nat.le_of_ble_eq_true rfl) rfl ?_
  intro p e s m args below meth c cx
  unfold fX6_shade
  refine r_aload_n (pc := 0) cx dX6_shade_0 rfl ?_
  refine r_get (pc := 1) cx hcl_X6 qc_X6 (lw47 hM) (j := 3) (by decide) wf_X6_16 dX6_shade_1 (x := .ref (ad 50)) rfl ?_
  refine r_iload_n (pc := 4) cx dX6_shade_4 rfl ?_
  refine r_iaload (pc := 5) cx (lw50 hM) rfl (by decide) dX6_shade_5 ?_
  refine r_if_ne (tgt := 13) cx dX6_shade_6 (by decide) ?_ ?_
  · refine r_aload_n (pc := 13) cx dX6_shade_13 rfl ?_
    refine r_get (pc := 14) cx hcl_X6 qc_X6 (lw47 hM) (j := 4) (by decide) wf_X6_19 dX6_shade_14 (x := .ref (ad 51)) rfl ?_
    refine r_iload_n (pc := 17) cx dX6_shade_17 rfl ?_
    refine r_iaload (pc := 18) cx (lw51 hM) rfl (by decide) dX6_shade_18 ?_
    refine r_aload_n (pc := 19) cx dX6_shade_19 rfl ?_
    refine r_get (pc := 20) cx hcl_X6 qc_X6 (lw47 hM) (j := 3) (by decide) wf_X6_16 dX6_shade_20 (x := .ref (ad 50)) rfl ?_
    refine r_iload_n (pc := 23) cx dX6_shade_23 rfl ?_
    refine r_iaload (pc := 24) cx (lw50 hM) rfl (by decide) dX6_shade_24 ?_
    refine r_icmp_ne (tgt := 32) cx dX6_shade_25 (by decide) ?_ ?_
    · refine r_aload_n (pc := 32) cx dX6_shade_32 rfl ?_
      refine r_get (pc := 33) cx hcl_X6 qc_X6 (lw47 hM) (j := 4) (by decide) wf_X6_19 dX6_shade_33 (x := .ref (ad 51)) rfl ?_
      refine r_iload_n (pc := 36) cx dX6_shade_36 rfl ?_
      refine r_iaload (pc := 37) cx (lw51 hM) rfl (by decide) dX6_shade_37 ?_
      refine r_if_ne (tgt := 45) cx dX6_shade_38 (by decide) ?_ ?_
      · refine r_iconst (pc := 45) cx dX6_shade_45 ?_
        exact r_ireturn (w0 := w) (fun _ _ h => h) (Nat.zero_le _) (Nat.zero_le _) cx dX6_shade_46 rfl
      · refine r_iconst (pc := 41) cx dX6_shade_41 ?_
        refine r_goto (pc := 42) (tgt := 46) cx dX6_shade_42 (by decide) ?_
        exact r_ireturn (w0 := w) (fun _ _ h => h) (Nat.zero_le _) (Nat.zero_le _) cx dX6_shade_46 rfl
    · refine r_iconst (pc := 28) cx dX6_shade_28 ?_
      refine r_goto (pc := 29) (tgt := 46) cx dX6_shade_29 (by decide) ?_
      exact r_ireturn (w0 := w) (fun _ _ h => h) (Nat.zero_le _) (Nat.zero_le _) cx dX6_shade_46 rfl
  · refine r_iconst (pc := 9) cx dX6_shade_9 ?_
    refine r_goto (pc := 10) (tgt := 46) cx dX6_shade_10 (by decide) ?_
    exact r_ireturn (w0 := w) (fun _ _ h => h) (Nat.zero_le _) (Nat.zero_le _) cx dX6_shade_46 rfl
def fX6_pairs_c70 (σ : qSt) (k4 : Int → Int → Option Int) (x3 : Int) (s0 : Int) (s1 : Int) : Option Int :=
  (qb (s1 + s0) fun (y2 : Int) => (k4 y2 (x3 + 1)))
set_option maxRecDepth 100000 in
set_option maxHeartbeats 4000000 in
theorem tX6_pairs_c70 {p : Program} {l : Launch} {e : Env} {s : State} {m : MethodId} {args : Array Value} {below : List Frame} {meth : Method} {c : Code} {z0 : Nat} {g : qG} {w : qWd} {ad : Nat → Nat} {σ : qSt} (cx : qCx p s m meth c cX6_pairs 5 RX6 (some .long) g z0) (hM : qBM g ad w) {k4 : Int → Int → Option Int} (hk4 : ∀ (x1 : Int) (x3 : Int), qS p l e qrm1 s m args below meth c 5 g z0 w 0 0 (fun r => qQ below g z0 w qrj args s 0 0 (r, σ)) (k4 x1 x3) σ 4 [(0, some (.ref (ad 47))), (1, some (.long (qJ x1))), (3, some (.int (qI x3)))] []) (x3 : Int) (s0 : Int) (s1 : Int) : qS p l e qrm1 s m args below meth c 5 g z0 w 0 0 (fun r => qQ below g z0 w qrj args s 0 0 (r, σ)) (fX6_pairs_c70 σ k4 x3 s0 s1) σ 70 [(0, some (.ref (ad 47))), (3, some (.int (qI x3)))] [.long (qJ s0), .long (qJ s1)] := by
  unfold fX6_pairs_c70
  refine r_ladd (pc := 70) cx dX6_pairs_70 ?_
  refine r_nml (fun y2 => ?_)
  refine r_lstore_n (pc := 71) cx dX6_pairs_71 (by decide) rfl ?_
  refine r_iinc (pc := 72) cx dX6_pairs_72 rfl (by decide) rfl ?_
  refine r_goto (pc := 75) (tgt := 4) cx dX6_pairs_75 (by decide) ?_
  exact qS.sub (qsub_cons rfl (qsub_cons rfl (qsub_cons rfl (qsub_nil _)))) (hk4 _ _)
def fX6_pairs_c69 (σ : qSt) (k4 : Int → Int → Option Int) (x3 : Int) (s0 : Int) : Option Int :=
  (fX6_pairs_c70 σ k4 x3 0 s0)
set_option maxRecDepth 100000 in
set_option maxHeartbeats 4000000 in
theorem tX6_pairs_c69 {p : Program} {l : Launch} {e : Env} {s : State} {m : MethodId} {args : Array Value} {below : List Frame} {meth : Method} {c : Code} {z0 : Nat} {g : qG} {w : qWd} {ad : Nat → Nat} {σ : qSt} (cx : qCx p s m meth c cX6_pairs 5 RX6 (some .long) g z0) (hM : qBM g ad w) {k4 : Int → Int → Option Int} (hk4 : ∀ (x1 : Int) (x3 : Int), qS p l e qrm1 s m args below meth c 5 g z0 w 0 0 (fun r => qQ below g z0 w qrj args s 0 0 (r, σ)) (k4 x1 x3) σ 4 [(0, some (.ref (ad 47))), (1, some (.long (qJ x1))), (3, some (.int (qI x3)))] []) (x3 : Int) (s0 : Int) : qS p l e qrm1 s m args below meth c 5 g z0 w 0 0 (fun r => qQ below g z0 w qrj args s 0 0 (r, σ)) (fX6_pairs_c69 σ k4 x3 s0) σ 69 [(0, some (.ref (ad 47))), (3, some (.int (qI x3)))] [.long (qJ s0)] := by
  unfold fX6_pairs_c69
  refine r_lconst (pc := 69) (z := 0) cx dX6_pairs_69 (by decide +kernel) ?_
  exact qS.sub (qsub_cons rfl (qsub_cons rfl (qsub_nil _))) (tX6_pairs_c70 cx hM hk4 _ _ _)
def fX6_pairs_c41 (σ : qSt) (k4 : Int → Int → Option Int) (x3 : Int) (x4 : Int) (s0 : Int) (s1 : Int) : Option Int :=
  (qb (s1 + s0) fun (y1 : Int) => (if qI x4 = qI (-1) then (fX6_pairs_c69 σ k4 x3 y1) else ((fX6_shade σ x3).bind fun (r52 : Int) => ((fX6_shade σ x4).bind fun (r58 : Int) => (if 0 ≤ qI (r52 * r58) then (fX6_pairs_c69 σ k4 x3 y1) else (fX6_pairs_c70 σ k4 x3 1 y1))))))
set_option maxRecDepth 100000 in
set_option maxHeartbeats 4000000 in
theorem tX6_pairs_c41 {p : Program} {l : Launch} {e : Env} {s : State} {m : MethodId} {args : Array Value} {below : List Frame} {meth : Method} {c : Code} {z0 : Nat} {g : qG} {w : qWd} {ad : Nat → Nat} {σ : qSt} (cx : qCx p s m meth c cX6_pairs 5 RX6 (some .long) g z0) (hM : qBM g ad w) {k4 : Int → Int → Option Int} (hk4 : ∀ (x1 : Int) (x3 : Int), qS p l e qrm1 s m args below meth c 5 g z0 w 0 0 (fun r => qQ below g z0 w qrj args s 0 0 (r, σ)) (k4 x1 x3) σ 4 [(0, some (.ref (ad 47))), (1, some (.long (qJ x1))), (3, some (.int (qI x3)))] []) (x3 : Int) (x4 : Int) (s0 : Int) (s1 : Int) : qS p l e qrm1 s m args below meth c 5 g z0 w 0 0 (fun r => qQ below g z0 w qrj args s 0 0 (r, σ)) (fX6_pairs_c41 σ k4 x3 x4 s0 s1) σ 41 [(0, some (.ref (ad 47))), (3, some (.int (qI x3))), (4, some (.int (qI x4)))] [.long (qJ s0), .long (qJ s1)] := by
  unfold fX6_pairs_c41
  refine r_ladd (pc := 41) cx dX6_pairs_41 ?_
  refine r_nml (fun y1 => ?_)
  refine r_lstore_n (pc := 42) cx dX6_pairs_42 (by decide) rfl ?_
  refine r_lload_n (pc := 43) cx dX6_pairs_43 rfl ?_
  refine r_iload (pc := 44) cx dX6_pairs_44 rfl ?_
  refine r_iconst (pc := 46) cx dX6_pairs_46 ?_
  refine r_icmp_eq (tgt := 69) cx dX6_pairs_47 (by decide) ?_ ?_
  · exact qS.sub (qsub_cons rfl (qsub_cons rfl (qsub_nil _))) (tX6_pairs_c69 cx hM hk4 _ _)
  · refine r_aload_n (pc := 50) cx dX6_pairs_50 rfl ?_
    refine r_iload_n (pc := 51) cx dX6_pairs_51 rfl ?_
    refine r_pVi (pc := 52) cx (tX6_shade hM x3 σ) qm_X6_shade qv_X6_shade hcl_X6 (lw47 hM) wm_X6_186 dX6_pairs_52 rfl rfl (Nat.le_of_ble_eq_true rfl) ⟨Nat.le_of_ble_eq_true rfl, Nat.le_of_ble_eq_true rfl⟩ ⟨rfl, rfl⟩ ⟨Nat.zero_le _, Nat.zero_le _⟩ (fun r52 => ?_)
    refine r_aload_n (pc := 55) cx dX6_pairs_55 rfl ?_
    refine r_iload (pc := 56) cx dX6_pairs_56 rfl ?_
    refine r_pVi (pc := 58) cx (tX6_shade hM x4 σ) qm_X6_shade qv_X6_shade hcl_X6 (lw47 hM) wm_X6_186 dX6_pairs_58 rfl rfl (Nat.le_of_ble_eq_true rfl) ⟨Nat.le_of_ble_eq_true rfl, Nat.le_of_ble_eq_true rfl⟩ ⟨rfl, rfl⟩ ⟨Nat.zero_le _, Nat.zero_le _⟩ (fun r58 => ?_)
    refine r_imul (pc := 61) cx dX6_pairs_61 ?_
    refine r_if_ge (tgt := 69) cx dX6_pairs_62 (by decide) ?_ ?_
    · exact qS.sub (qsub_cons rfl (qsub_cons rfl (qsub_nil _))) (tX6_pairs_c69 cx hM hk4 _ _)
    · refine r_lconst (pc := 65) (z := 1) cx dX6_pairs_65 (by decide +kernel) ?_
      refine r_goto (pc := 66) (tgt := 70) cx dX6_pairs_66 (by decide) ?_
      exact qS.sub (qsub_cons rfl (qsub_cons rfl (qsub_nil _))) (tX6_pairs_c70 cx hM hk4 _ _ _)
def fX6_pairs_c4 (σ : qSt) : Nat → Int → Int → Option Int
  | 0, _, _ => none
  | f + 1, x1, x3 => (if qI 96 ≤ qI x3 then (some x1) else ((fX6_beside σ x3 3).bind fun (r12 : Int) => ((fX6_shade σ x3).bind fun (r20 : Int) => ((fX6_beside σ x3 0).bind fun (r26 : Int) => ((fX6_shade σ r26).bind fun (r29 : Int) => (if 0 ≤ qI (r20 * r29) then (fX6_pairs_c41 σ (fX6_pairs_c4 σ f) x3 r12 0 x1) else (fX6_pairs_c41 σ (fX6_pairs_c4 σ f) x3 r12 1 x1)))))))
set_option maxRecDepth 100000 in
set_option maxHeartbeats 4000000 in
theorem tX6_pairs_c4 {p : Program} {l : Launch} {e : Env} {s : State} {m : MethodId} {args : Array Value} {below : List Frame} {meth : Method} {c : Code} {z0 : Nat} {g : qG} {w : qWd} {ad : Nat → Nat} {σ : qSt} (cx : qCx p s m meth c cX6_pairs 5 RX6 (some .long) g z0) (hM : qBM g ad w) : ∀ (f : Nat) (x1 : Int) (x3 : Int), qS p l e qrm1 s m args below meth c 5 g z0 w 0 0 (fun r => qQ below g z0 w qrj args s 0 0 (r, σ)) (fX6_pairs_c4 σ f x1 x3) σ 4 [(0, some (.ref (ad 47))), (1, some (.long (qJ x1))), (3, some (.int (qI x3)))] [] := by
  intro f
  induction f with
  | zero => exact fun _ _ => qS.fail
  | succ f ih =>
    intro x1 x3
    unfold fX6_pairs_c4
    refine r_iload_n (pc := 4) cx dX6_pairs_4 rfl ?_
    refine r_bipush (pc := 5) (v := 96) cx dX6_pairs_5 (by decide +kernel) ?_
    refine r_icmp_ge (tgt := 78) cx dX6_pairs_7 (by decide) ?_ ?_
    · refine r_lload_n (pc := 78) cx dX6_pairs_78 rfl ?_
      exact r_lreturn (w0 := w) (fun _ _ h => h) (Nat.zero_le _) (Nat.zero_le _) cx dX6_pairs_79 rfl
    · refine r_iload_n (pc := 10) cx dX6_pairs_10 rfl ?_
      refine r_iconst (pc := 11) cx dX6_pairs_11 ?_
      refine r_pSi (pc := 12) cx (tX6_beside  x3 3 σ) qm_X6_beside qs_X6_beside wm_X6_109 dX6_pairs_12 rfl rfl (Nat.le_of_ble_eq_true rfl) ⟨Nat.le_of_ble_eq_true rfl, Nat.le_of_ble_eq_true rfl⟩ ⟨rfl, rfl⟩ ⟨Nat.zero_le _, Nat.zero_le _⟩ (fun r12 => ?_)
      refine r_istore (pc := 15) cx dX6_pairs_15 (by decide) rfl ?_
      refine r_lload_n (pc := 17) cx dX6_pairs_17 rfl ?_
      refine r_aload_n (pc := 18) cx dX6_pairs_18 rfl ?_
      refine r_iload_n (pc := 19) cx dX6_pairs_19 rfl ?_
      refine r_pVi (pc := 20) cx (tX6_shade hM x3 σ) qm_X6_shade qv_X6_shade hcl_X6 (lw47 hM) wm_X6_186 dX6_pairs_20 rfl rfl (Nat.le_of_ble_eq_true rfl) ⟨Nat.le_of_ble_eq_true rfl, Nat.le_of_ble_eq_true rfl⟩ ⟨rfl, rfl⟩ ⟨Nat.zero_le _, Nat.zero_le _⟩ (fun r20 => ?_)
      refine r_aload_n (pc := 23) cx dX6_pairs_23 rfl ?_
      refine r_iload_n (pc := 24) cx dX6_pairs_24 rfl ?_
      refine r_iconst (pc := 25) cx dX6_pairs_25 ?_
      refine r_pSi (pc := 26) cx (tX6_beside  x3 0 σ) qm_X6_beside qs_X6_beside wm_X6_109 dX6_pairs_26 rfl rfl (Nat.le_of_ble_eq_true rfl) ⟨Nat.le_of_ble_eq_true rfl, Nat.le_of_ble_eq_true rfl⟩ ⟨rfl, rfl⟩ ⟨Nat.zero_le _, Nat.zero_le _⟩ (fun r26 => ?_)
      refine r_pVi (pc := 29) cx (tX6_shade hM r26 σ) qm_X6_shade qv_X6_shade hcl_X6 (lw47 hM) wm_X6_186 dX6_pairs_29 rfl rfl (Nat.le_of_ble_eq_true rfl) ⟨Nat.le_of_ble_eq_true rfl, Nat.le_of_ble_eq_true rfl⟩ ⟨rfl, rfl⟩ ⟨Nat.zero_le _, Nat.zero_le _⟩ (fun r29 => ?_)
      refine r_imul (pc := 32) cx dX6_pairs_32 ?_
      refine r_if_ge (tgt := 40) cx dX6_pairs_33 (by decide) ?_ ?_
      · refine r_lconst (pc := 40) (z := 0) cx dX6_pairs_40 (by decide +kernel) ?_
        exact qS.sub (qsub_cons rfl (qsub_cons rfl (qsub_cons rfl (qsub_nil _)))) (tX6_pairs_c41 cx hM ih _ _ _ _)
      · refine r_lconst (pc := 36) (z := 1) cx dX6_pairs_36 (by decide +kernel) ?_
        refine r_goto (pc := 37) (tgt := 41) cx dX6_pairs_37 (by decide) ?_
        exact qS.sub (qsub_cons rfl (qsub_cons rfl (qsub_cons rfl (qsub_nil _)))) (tX6_pairs_c41 cx hM ih _ _ _ _)
def fX6_pairs (σ : qSt) : Option Int :=
  (fX6_pairs_c4 σ qFU 0 0)
set_option maxRecDepth 100000 in
set_option maxHeartbeats 4000000 in
theorem tX6_pairs {l : Launch} {z0 : Nat} {g : qG} {w : qWd} {ad : Nat → Nat} (hM : qBM g ad w) (σ : qSt) : qCT l yX6_pairs cX6_pairs 5 (some .long) qrm1 g z0 w [.ref (ad 47)] σ (qlift (fX6_pairs σ) σ) qrj := by
  refine qCTp.of [(0, some (.ref (ad 47)))] (by decide +kernel) (Nat.le_of_ble_eq_true rfl) rfl ?_
  intro p e s m args below meth c cx
  unfold fX6_pairs
  refine r_lconst (pc := 0) (z := 0) cx dX6_pairs_0 (by decide +kernel) ?_
  refine r_lstore_n (pc := 1) cx dX6_pairs_1 (by decide) rfl ?_
  refine r_iconst (pc := 2) cx dX6_pairs_2 ?_
  refine r_istore_n (pc := 3) cx dX6_pairs_3 (by decide) rfl ?_
  exact qS.sub (qsub_cons rfl (qsub_cons rfl (qsub_cons rfl (qsub_nil _)))) (tX6_pairs_c4 cx hM _ _ _)
def fX6_blocksOff_c218 (σ : qSt) (k56 : Int → Int → Int → Int → Option Int) (x1 : Int) (x3 : Int) (x5 : Int) (x7 : Int) : Option Int :=
  (k56 x1 x3 x5 (x7 + 1))
set_option maxRecDepth 100000 in
set_option maxHeartbeats 4000000 in
theorem tX6_blocksOff_c218 {p : Program} {l : Launch} {e : Env} {s : State} {m : MethodId} {args : Array Value} {below : List Frame} {meth : Method} {c : Code} {z0 : Nat} {g : qG} {w : qWd} {ad : Nat → Nat} {σ : qSt} (cx : qCx p s m meth c cX6_blocksOff 14 RX6 (some .long) g z0) (hM : qBM g ad w) {k56 : Int → Int → Int → Int → Option Int} (hk56 : ∀ (x1 : Int) (x3 : Int) (x5 : Int) (x7 : Int), qS p l e qrm1 s m args below meth c 14 g z0 w 0 0 (fun r => qQ below g z0 w qrj args s 0 0 (r, σ)) (k56 x1 x3 x5 x7) σ 56 [(0, some (.ref (ad 47))), (1, some (.long (qJ x1))), (3, some (.long (qJ x3))), (5, some (.long (qJ x5))), (7, some (.int (qI x7)))] []) (x1 : Int) (x3 : Int) (x5 : Int) (x7 : Int) : qS p l e qrm1 s m args below meth c 14 g z0 w 0 0 (fun r => qQ below g z0 w qrj args s 0 0 (r, σ)) (fX6_blocksOff_c218 σ k56 x1 x3 x5 x7) σ 218 [(0, some (.ref (ad 47))), (1, some (.long (qJ x1))), (3, some (.long (qJ x3))), (5, some (.long (qJ x5))), (7, some (.int (qI x7)))] [] := by
  unfold fX6_blocksOff_c218
  refine r_iinc (pc := 218) cx dX6_blocksOff_218 rfl (by decide) rfl ?_
  refine r_goto (pc := 221) (tgt := 56) cx dX6_blocksOff_221 (by decide) ?_
  exact qS.sub (qsub_cons rfl (qsub_cons rfl (qsub_cons rfl (qsub_cons rfl (qsub_cons rfl (qsub_nil _)))))) (hk56 _ _ _ _)
def fX6_blocksOff_c216 (σ : qSt) (k56 : Int → Int → Int → Int → Option Int) (x3 : Int) (x5 : Int) (x7 : Int) (s0 : Int) (s1 : Int) : Option Int :=
  (qb (s1 + s0) fun (y6 : Int) => (fX6_blocksOff_c218 σ k56 y6 x3 x5 x7))
set_option maxRecDepth 100000 in
set_option maxHeartbeats 4000000 in
theorem tX6_blocksOff_c216 {p : Program} {l : Launch} {e : Env} {s : State} {m : MethodId} {args : Array Value} {below : List Frame} {meth : Method} {c : Code} {z0 : Nat} {g : qG} {w : qWd} {ad : Nat → Nat} {σ : qSt} (cx : qCx p s m meth c cX6_blocksOff 14 RX6 (some .long) g z0) (hM : qBM g ad w) {k56 : Int → Int → Int → Int → Option Int} (hk56 : ∀ (x1 : Int) (x3 : Int) (x5 : Int) (x7 : Int), qS p l e qrm1 s m args below meth c 14 g z0 w 0 0 (fun r => qQ below g z0 w qrj args s 0 0 (r, σ)) (k56 x1 x3 x5 x7) σ 56 [(0, some (.ref (ad 47))), (1, some (.long (qJ x1))), (3, some (.long (qJ x3))), (5, some (.long (qJ x5))), (7, some (.int (qI x7)))] []) (x3 : Int) (x5 : Int) (x7 : Int) (s0 : Int) (s1 : Int) : qS p l e qrm1 s m args below meth c 14 g z0 w 0 0 (fun r => qQ below g z0 w qrj args s 0 0 (r, σ)) (fX6_blocksOff_c216 σ k56 x3 x5 x7 s0 s1) σ 216 [(0, some (.ref (ad 47))), (3, some (.long (qJ x3))), (5, some (.long (qJ x5))), (7, some (.int (qI x7)))] [.long (qJ s0), .long (qJ s1)] := by
  unfold fX6_blocksOff_c216
  refine r_ladd (pc := 216) cx dX6_blocksOff_216 ?_
  refine r_nml (fun y6 => ?_)
  refine r_lstore_n (pc := 217) cx dX6_blocksOff_217 (by decide) rfl ?_
  exact qS.sub (qsub_cons rfl (qsub_cons rfl (qsub_cons rfl (qsub_cons rfl (qsub_cons rfl (qsub_nil _)))))) (tX6_blocksOff_c218 cx hM hk56 _ _ _ _)
def fX6_blocksOff_c56 (σ : qSt) : Nat → Int → Int → Int → Int → Option Int
  | 0, _, _, _, _ => none
  | f + 1, x1, x3, x5, x7 => (if qI 96 ≤ qI x7 then (some x1) else (if qI (qrem (qdiv x7 12) 2) = 0 then (if qI (qrem x7 2) = 0 then (if 0 ≤ x7 ∧ x7 < 96 then ((fX6_many σ (σ 50 x7)).bind fun (r87 : Int) => (if 0 ≤ (x7 + 1) ∧ (x7 + 1) < 96 then ((fX6_many σ (σ 50 (x7 + 1))).bind fun (r99 : Int) => (if 0 ≤ (x7 + 12) ∧ (x7 + 12) < 96 then ((fX6_many σ (σ 50 (x7 + 12))).bind fun (r113 : Int) => (if 0 ≤ (x7 + 13) ∧ (x7 + 13) < 96 then ((fX6_many σ (σ 50 (x7 + 13))).bind fun (r127 : Int) => (qb (qi2l (((r87 + r99) + r113) + r127)) fun (y3 : Int) => (if 0 ≤ x7 ∧ x7 < 96 then ((fX6_many σ (σ 51 x7)).bind fun (r141 : Int) => (if 0 ≤ (x7 + 1) ∧ (x7 + 1) < 96 then ((fX6_many σ (σ 51 (x7 + 1))).bind fun (r153 : Int) => (if 0 ≤ (x7 + 12) ∧ (x7 + 12) < 96 then ((fX6_many σ (σ 51 (x7 + 12))).bind fun (r167 : Int) => (if 0 ≤ (x7 + 13) ∧ (x7 + 13) < 96 then ((fX6_many σ (σ 51 (x7 + 13))).bind fun (r181 : Int) => (qb (qi2l (((r141 + r153) + r167) + r181)) fun (y4 : Int) => (qb ((y4 * x3) - (x5 * y3)) fun (y5 : Int) => (if 0 ≤ qI (qlcmp y5 0) then (fX6_blocksOff_c216 σ (fX6_blocksOff_c56 σ f) x3 x5 x7 y5 x1) else (fX6_blocksOff_c216 σ (fX6_blocksOff_c56 σ f) x3 x5 x7 (-y5) x1))))) else none)) else none)) else none)) else none))) else none)) else none)) else none)) else none) else (fX6_blocksOff_c218 σ (fX6_blocksOff_c56 σ f) x1 x3 x5 x7)) else (fX6_blocksOff_c218 σ (fX6_blocksOff_c56 σ f) x1 x3 x5 x7)))
set_option maxRecDepth 100000 in
set_option maxHeartbeats 4000000 in
theorem tX6_blocksOff_c56 {p : Program} {l : Launch} {e : Env} {s : State} {m : MethodId} {args : Array Value} {below : List Frame} {meth : Method} {c : Code} {z0 : Nat} {g : qG} {w : qWd} {ad : Nat → Nat} {σ : qSt} (cx : qCx p s m meth c cX6_blocksOff 14 RX6 (some .long) g z0) (hM : qBM g ad w) : ∀ (f : Nat) (x1 : Int) (x3 : Int) (x5 : Int) (x7 : Int), qS p l e qrm1 s m args below meth c 14 g z0 w 0 0 (fun r => qQ below g z0 w qrj args s 0 0 (r, σ)) (fX6_blocksOff_c56 σ f x1 x3 x5 x7) σ 56 [(0, some (.ref (ad 47))), (1, some (.long (qJ x1))), (3, some (.long (qJ x3))), (5, some (.long (qJ x5))), (7, some (.int (qI x7)))] [] := by
  intro f
  induction f with
  | zero => exact fun _ _ _ _ => qS.fail
  | succ f ih =>
    intro x1 x3 x5 x7
    unfold fX6_blocksOff_c56
    refine r_iload (pc := 56) cx dX6_blocksOff_56 rfl ?_
    refine r_bipush (pc := 58) (v := 96) cx dX6_blocksOff_58 (by decide +kernel) ?_
    refine r_icmp_ge (tgt := 224) cx dX6_blocksOff_60 (by decide) ?_ ?_
    · refine r_lload_n (pc := 224) cx dX6_blocksOff_224 rfl ?_
      exact r_lreturn (w0 := w) (fun _ _ h => h) (Nat.zero_le _) (Nat.zero_le _) cx dX6_blocksOff_225 rfl
    · refine r_iload (pc := 63) cx dX6_blocksOff_63 rfl ?_
      refine r_bipush (pc := 65) (v := 12) cx dX6_blocksOff_65 (by decide +kernel) ?_
      refine r_idiv (pc := 67) cx dX6_blocksOff_67 (by decide +kernel) ?_
      refine r_iconst (pc := 68) cx dX6_blocksOff_68 ?_
      refine r_irem (pc := 69) cx dX6_blocksOff_69 (by decide +kernel) ?_
      refine r_if_ne (tgt := 218) cx dX6_blocksOff_70 (by decide) ?_ ?_
      · exact qS.sub (qsub_cons rfl (qsub_cons rfl (qsub_cons rfl (qsub_cons rfl (qsub_cons rfl (qsub_nil _)))))) (tX6_blocksOff_c218 cx hM ih _ _ _ _)
      · refine r_iload (pc := 73) cx dX6_blocksOff_73 rfl ?_
        refine r_iconst (pc := 75) cx dX6_blocksOff_75 ?_
        refine r_irem (pc := 76) cx dX6_blocksOff_76 (by decide +kernel) ?_
        refine r_if_ne (tgt := 218) cx dX6_blocksOff_77 (by decide) ?_ ?_
        · exact qS.sub (qsub_cons rfl (qsub_cons rfl (qsub_cons rfl (qsub_cons rfl (qsub_cons rfl (qsub_nil _)))))) (tX6_blocksOff_c218 cx hM ih _ _ _ _)
        · refine r_aload_n (pc := 80) cx dX6_blocksOff_80 rfl ?_
          refine r_get (pc := 81) cx hcl_X6 qc_X6 (lw47 hM) (j := 3) (by decide) wf_X6_16 dX6_blocksOff_81 (x := .ref (ad 50)) rfl ?_
          refine r_iload (pc := 84) cx dX6_blocksOff_84 rfl ?_
          refine r_iaload (pc := 86) cx (lw50 hM) rfl (by decide) dX6_blocksOff_86 ?_
          refine r_pSi (pc := 87) cx (tX6_many  (σ 50 x7) σ) qm_X6_many qs_X6_many wm_X6_90 dX6_blocksOff_87 rfl rfl (Nat.le_of_ble_eq_true rfl) ⟨Nat.le_of_ble_eq_true rfl, Nat.le_of_ble_eq_true rfl⟩ ⟨rfl, rfl⟩ ⟨Nat.zero_le _, Nat.zero_le _⟩ (fun r87 => ?_)
          refine r_aload_n (pc := 90) cx dX6_blocksOff_90 rfl ?_
          refine r_get (pc := 91) cx hcl_X6 qc_X6 (lw47 hM) (j := 3) (by decide) wf_X6_16 dX6_blocksOff_91 (x := .ref (ad 50)) rfl ?_
          refine r_iload (pc := 94) cx dX6_blocksOff_94 rfl ?_
          refine r_iconst (pc := 96) cx dX6_blocksOff_96 ?_
          refine r_iadd (pc := 97) cx dX6_blocksOff_97 ?_
          refine r_iaload (pc := 98) cx (lw50 hM) rfl (by decide) dX6_blocksOff_98 ?_
          refine r_pSi (pc := 99) cx (tX6_many  (σ 50 (x7 + 1)) σ) qm_X6_many qs_X6_many wm_X6_90 dX6_blocksOff_99 rfl rfl (Nat.le_of_ble_eq_true rfl) ⟨Nat.le_of_ble_eq_true rfl, Nat.le_of_ble_eq_true rfl⟩ ⟨rfl, rfl⟩ ⟨Nat.zero_le _, Nat.zero_le _⟩ (fun r99 => ?_)
          refine r_iadd (pc := 102) cx dX6_blocksOff_102 ?_
          refine r_aload_n (pc := 103) cx dX6_blocksOff_103 rfl ?_
          refine r_get (pc := 104) cx hcl_X6 qc_X6 (lw47 hM) (j := 3) (by decide) wf_X6_16 dX6_blocksOff_104 (x := .ref (ad 50)) rfl ?_
          refine r_iload (pc := 107) cx dX6_blocksOff_107 rfl ?_
          refine r_bipush (pc := 109) (v := 12) cx dX6_blocksOff_109 (by decide +kernel) ?_
          refine r_iadd (pc := 111) cx dX6_blocksOff_111 ?_
          refine r_iaload (pc := 112) cx (lw50 hM) rfl (by decide) dX6_blocksOff_112 ?_
          refine r_pSi (pc := 113) cx (tX6_many  (σ 50 (x7 + 12)) σ) qm_X6_many qs_X6_many wm_X6_90 dX6_blocksOff_113 rfl rfl (Nat.le_of_ble_eq_true rfl) ⟨Nat.le_of_ble_eq_true rfl, Nat.le_of_ble_eq_true rfl⟩ ⟨rfl, rfl⟩ ⟨Nat.zero_le _, Nat.zero_le _⟩ (fun r113 => ?_)
          refine r_iadd (pc := 116) cx dX6_blocksOff_116 ?_
          refine r_aload_n (pc := 117) cx dX6_blocksOff_117 rfl ?_
          refine r_get (pc := 118) cx hcl_X6 qc_X6 (lw47 hM) (j := 3) (by decide) wf_X6_16 dX6_blocksOff_118 (x := .ref (ad 50)) rfl ?_
          refine r_iload (pc := 121) cx dX6_blocksOff_121 rfl ?_
          refine r_bipush (pc := 123) (v := 13) cx dX6_blocksOff_123 (by decide +kernel) ?_
          refine r_iadd (pc := 125) cx dX6_blocksOff_125 ?_
          refine r_iaload (pc := 126) cx (lw50 hM) rfl (by decide) dX6_blocksOff_126 ?_
          refine r_pSi (pc := 127) cx (tX6_many  (σ 50 (x7 + 13)) σ) qm_X6_many qs_X6_many wm_X6_90 dX6_blocksOff_127 rfl rfl (Nat.le_of_ble_eq_true rfl) ⟨Nat.le_of_ble_eq_true rfl, Nat.le_of_ble_eq_true rfl⟩ ⟨rfl, rfl⟩ ⟨Nat.zero_le _, Nat.zero_le _⟩ (fun r127 => ?_)
          refine r_iadd (pc := 130) cx dX6_blocksOff_130 ?_
          refine r_i2l (pc := 131) cx dX6_blocksOff_131 ?_
          refine r_nml (fun y3 => ?_)
          refine r_lstore (pc := 132) cx dX6_blocksOff_132 (by decide) rfl ?_
          refine r_aload_n (pc := 134) cx dX6_blocksOff_134 rfl ?_
          refine r_get (pc := 135) cx hcl_X6 qc_X6 (lw47 hM) (j := 4) (by decide) wf_X6_19 dX6_blocksOff_135 (x := .ref (ad 51)) rfl ?_
          refine r_iload (pc := 138) cx dX6_blocksOff_138 rfl ?_
          refine r_iaload (pc := 140) cx (lw51 hM) rfl (by decide) dX6_blocksOff_140 ?_
          refine r_pSi (pc := 141) cx (tX6_many  (σ 51 x7) σ) qm_X6_many qs_X6_many wm_X6_90 dX6_blocksOff_141 rfl rfl (Nat.le_of_ble_eq_true rfl) ⟨Nat.le_of_ble_eq_true rfl, Nat.le_of_ble_eq_true rfl⟩ ⟨rfl, rfl⟩ ⟨Nat.zero_le _, Nat.zero_le _⟩ (fun r141 => ?_)
          refine r_aload_n (pc := 144) cx dX6_blocksOff_144 rfl ?_
          refine r_get (pc := 145) cx hcl_X6 qc_X6 (lw47 hM) (j := 4) (by decide) wf_X6_19 dX6_blocksOff_145 (x := .ref (ad 51)) rfl ?_
          refine r_iload (pc := 148) cx dX6_blocksOff_148 rfl ?_
          refine r_iconst (pc := 150) cx dX6_blocksOff_150 ?_
          refine r_iadd (pc := 151) cx dX6_blocksOff_151 ?_
          refine r_iaload (pc := 152) cx (lw51 hM) rfl (by decide) dX6_blocksOff_152 ?_
          refine r_pSi (pc := 153) cx (tX6_many  (σ 51 (x7 + 1)) σ) qm_X6_many qs_X6_many wm_X6_90 dX6_blocksOff_153 rfl rfl (Nat.le_of_ble_eq_true rfl) ⟨Nat.le_of_ble_eq_true rfl, Nat.le_of_ble_eq_true rfl⟩ ⟨rfl, rfl⟩ ⟨Nat.zero_le _, Nat.zero_le _⟩ (fun r153 => ?_)
          refine r_iadd (pc := 156) cx dX6_blocksOff_156 ?_
          refine r_aload_n (pc := 157) cx dX6_blocksOff_157 rfl ?_
          refine r_get (pc := 158) cx hcl_X6 qc_X6 (lw47 hM) (j := 4) (by decide) wf_X6_19 dX6_blocksOff_158 (x := .ref (ad 51)) rfl ?_
          refine r_iload (pc := 161) cx dX6_blocksOff_161 rfl ?_
          refine r_bipush (pc := 163) (v := 12) cx dX6_blocksOff_163 (by decide +kernel) ?_
          refine r_iadd (pc := 165) cx dX6_blocksOff_165 ?_
          refine r_iaload (pc := 166) cx (lw51 hM) rfl (by decide) dX6_blocksOff_166 ?_
          refine r_pSi (pc := 167) cx (tX6_many  (σ 51 (x7 + 12)) σ) qm_X6_many qs_X6_many wm_X6_90 dX6_blocksOff_167 rfl rfl (Nat.le_of_ble_eq_true rfl) ⟨Nat.le_of_ble_eq_true rfl, Nat.le_of_ble_eq_true rfl⟩ ⟨rfl, rfl⟩ ⟨Nat.zero_le _, Nat.zero_le _⟩ (fun r167 => ?_)
          refine r_iadd (pc := 170) cx dX6_blocksOff_170 ?_
          refine r_aload_n (pc := 171) cx dX6_blocksOff_171 rfl ?_
          refine r_get (pc := 172) cx hcl_X6 qc_X6 (lw47 hM) (j := 4) (by decide) wf_X6_19 dX6_blocksOff_172 (x := .ref (ad 51)) rfl ?_
          refine r_iload (pc := 175) cx dX6_blocksOff_175 rfl ?_
          refine r_bipush (pc := 177) (v := 13) cx dX6_blocksOff_177 (by decide +kernel) ?_
          refine r_iadd (pc := 179) cx dX6_blocksOff_179 ?_
          refine r_iaload (pc := 180) cx (lw51 hM) rfl (by decide) dX6_blocksOff_180 ?_
          refine r_pSi (pc := 181) cx (tX6_many  (σ 51 (x7 + 13)) σ) qm_X6_many qs_X6_many wm_X6_90 dX6_blocksOff_181 rfl rfl (Nat.le_of_ble_eq_true rfl) ⟨Nat.le_of_ble_eq_true rfl, Nat.le_of_ble_eq_true rfl⟩ ⟨rfl, rfl⟩ ⟨Nat.zero_le _, Nat.zero_le _⟩ (fun r181 => ?_)
          refine r_iadd (pc := 184) cx dX6_blocksOff_184 ?_
          refine r_i2l (pc := 185) cx dX6_blocksOff_185 ?_
          refine r_nml (fun y4 => ?_)
          refine r_lstore (pc := 186) cx dX6_blocksOff_186 (by decide) rfl ?_
          refine r_lload (pc := 188) cx dX6_blocksOff_188 rfl ?_
          refine r_lload_n (pc := 190) cx dX6_blocksOff_190 rfl ?_
          refine r_lmul (pc := 191) cx dX6_blocksOff_191 ?_
          refine r_lload (pc := 192) cx dX6_blocksOff_192 rfl ?_
          refine r_lload (pc := 194) cx dX6_blocksOff_194 rfl ?_
          refine r_lmul (pc := 196) cx dX6_blocksOff_196 ?_
          refine r_lsub (pc := 197) cx dX6_blocksOff_197 ?_
          refine r_nml (fun y5 => ?_)
          refine r_lstore (pc := 198) cx dX6_blocksOff_198 (by decide) rfl ?_
          refine r_lload_n (pc := 200) cx dX6_blocksOff_200 rfl ?_
          refine r_lload (pc := 201) cx dX6_blocksOff_201 rfl ?_
          refine r_lconst (pc := 203) (z := 0) cx dX6_blocksOff_203 (by decide +kernel) ?_
          refine r_lcmp (pc := 204) cx dX6_blocksOff_204 ?_
          refine r_if_ge (tgt := 214) cx dX6_blocksOff_205 (by decide) ?_ ?_
          · refine r_lload (pc := 214) cx dX6_blocksOff_214 rfl ?_
            exact qS.sub (qsub_cons rfl (qsub_cons rfl (qsub_cons rfl (qsub_cons rfl (qsub_nil _))))) (tX6_blocksOff_c216 cx hM ih _ _ _ _ _)
          · refine r_lload (pc := 208) cx dX6_blocksOff_208 rfl ?_
            refine r_lneg (pc := 210) cx dX6_blocksOff_210 ?_
            refine r_goto (pc := 211) (tgt := 216) cx dX6_blocksOff_211 (by decide) ?_
            exact qS.sub (qsub_cons rfl (qsub_cons rfl (qsub_cons rfl (qsub_cons rfl (qsub_nil _))))) (tX6_blocksOff_c216 cx hM ih _ _ _ _ _)
def fX6_blocksOff_c10 (σ : qSt) : Nat → Int → Int → Int → Int → Option Int
  | 0, _, _, _, _ => none
  | f + 1, x1, x3, x5, x7 => (if qI 96 ≤ qI x7 then (fX6_blocksOff_c56 σ qFU x1 x3 x5 0) else (if 0 ≤ x7 ∧ x7 < 96 then ((fX6_many σ (σ 50 x7)).bind fun (r25 : Int) => (qb (x3 + (qi2l r25)) fun (y1 : Int) => (if 0 ≤ x7 ∧ x7 < 96 then ((fX6_many σ (σ 51 x7)).bind fun (r40 : Int) => (qb (x5 + (qi2l r40)) fun (y2 : Int) => (fX6_blocksOff_c10 σ f x1 y1 y2 (x7 + 1)))) else none))) else none))
set_option maxRecDepth 100000 in
set_option maxHeartbeats 4000000 in
theorem tX6_blocksOff_c10 {p : Program} {l : Launch} {e : Env} {s : State} {m : MethodId} {args : Array Value} {below : List Frame} {meth : Method} {c : Code} {z0 : Nat} {g : qG} {w : qWd} {ad : Nat → Nat} {σ : qSt} (cx : qCx p s m meth c cX6_blocksOff 14 RX6 (some .long) g z0) (hM : qBM g ad w) : ∀ (f : Nat) (x1 : Int) (x3 : Int) (x5 : Int) (x7 : Int), qS p l e qrm1 s m args below meth c 14 g z0 w 0 0 (fun r => qQ below g z0 w qrj args s 0 0 (r, σ)) (fX6_blocksOff_c10 σ f x1 x3 x5 x7) σ 10 [(0, some (.ref (ad 47))), (1, some (.long (qJ x1))), (3, some (.long (qJ x3))), (5, some (.long (qJ x5))), (7, some (.int (qI x7)))] [] := by
  intro f
  induction f with
  | zero => exact fun _ _ _ _ => qS.fail
  | succ f ih =>
    intro x1 x3 x5 x7
    unfold fX6_blocksOff_c10
    refine r_iload (pc := 10) cx dX6_blocksOff_10 rfl ?_
    refine r_bipush (pc := 12) (v := 96) cx dX6_blocksOff_12 (by decide +kernel) ?_
    refine r_icmp_ge (tgt := 53) cx dX6_blocksOff_14 (by decide) ?_ ?_
    · refine r_iconst (pc := 53) cx dX6_blocksOff_53 ?_
      refine r_istore (pc := 54) cx dX6_blocksOff_54 (by decide) rfl ?_
      exact qS.sub (qsub_cons rfl (qsub_cons rfl (qsub_cons rfl (qsub_cons rfl (qsub_cons rfl (qsub_nil _)))))) (tX6_blocksOff_c56 cx hM _ _ _ _ _)
    · refine r_lload_n (pc := 17) cx dX6_blocksOff_17 rfl ?_
      refine r_aload_n (pc := 18) cx dX6_blocksOff_18 rfl ?_
      refine r_get (pc := 19) cx hcl_X6 qc_X6 (lw47 hM) (j := 3) (by decide) wf_X6_16 dX6_blocksOff_19 (x := .ref (ad 50)) rfl ?_
      refine r_iload (pc := 22) cx dX6_blocksOff_22 rfl ?_
      refine r_iaload (pc := 24) cx (lw50 hM) rfl (by decide) dX6_blocksOff_24 ?_
      refine r_pSi (pc := 25) cx (tX6_many  (σ 50 x7) σ) qm_X6_many qs_X6_many wm_X6_90 dX6_blocksOff_25 rfl rfl (Nat.le_of_ble_eq_true rfl) ⟨Nat.le_of_ble_eq_true rfl, Nat.le_of_ble_eq_true rfl⟩ ⟨rfl, rfl⟩ ⟨Nat.zero_le _, Nat.zero_le _⟩ (fun r25 => ?_)
      refine r_i2l (pc := 28) cx dX6_blocksOff_28 ?_
      refine r_ladd (pc := 29) cx dX6_blocksOff_29 ?_
      refine r_nml (fun y1 => ?_)
      refine r_lstore_n (pc := 30) cx dX6_blocksOff_30 (by decide) rfl ?_
      refine r_lload (pc := 31) cx dX6_blocksOff_31 rfl ?_
      refine r_aload_n (pc := 33) cx dX6_blocksOff_33 rfl ?_
      refine r_get (pc := 34) cx hcl_X6 qc_X6 (lw47 hM) (j := 4) (by decide) wf_X6_19 dX6_blocksOff_34 (x := .ref (ad 51)) rfl ?_
      refine r_iload (pc := 37) cx dX6_blocksOff_37 rfl ?_
      refine r_iaload (pc := 39) cx (lw51 hM) rfl (by decide) dX6_blocksOff_39 ?_
      refine r_pSi (pc := 40) cx (tX6_many  (σ 51 x7) σ) qm_X6_many qs_X6_many wm_X6_90 dX6_blocksOff_40 rfl rfl (Nat.le_of_ble_eq_true rfl) ⟨Nat.le_of_ble_eq_true rfl, Nat.le_of_ble_eq_true rfl⟩ ⟨rfl, rfl⟩ ⟨Nat.zero_le _, Nat.zero_le _⟩ (fun r40 => ?_)
      refine r_i2l (pc := 43) cx dX6_blocksOff_43 ?_
      refine r_ladd (pc := 44) cx dX6_blocksOff_44 ?_
      refine r_nml (fun y2 => ?_)
      refine r_lstore (pc := 45) cx dX6_blocksOff_45 (by decide) rfl ?_
      refine r_iinc (pc := 47) cx dX6_blocksOff_47 rfl (by decide) rfl ?_
      refine r_goto (pc := 50) (tgt := 10) cx dX6_blocksOff_50 (by decide) ?_
      exact qS.sub (qsub_cons rfl (qsub_cons rfl (qsub_cons rfl (qsub_cons rfl (qsub_cons rfl (qsub_nil _)))))) (ih _ _ _ _)
def fX6_blocksOff (σ : qSt) : Option Int :=
  (fX6_blocksOff_c10 σ qFU 0 0 0 0)
set_option maxRecDepth 100000 in
set_option maxHeartbeats 4000000 in
theorem tX6_blocksOff {l : Launch} {z0 : Nat} {g : qG} {w : qWd} {ad : Nat → Nat} (hM : qBM g ad w) (σ : qSt) : qCT l yX6_blocksOff cX6_blocksOff 14 (some .long) qrm1 g z0 w [.ref (ad 47)] σ (qlift (fX6_blocksOff σ) σ) qrj := by
  refine qCTp.of [(0, some (.ref (ad 47)))] (by decide +kernel) (Nat.le_of_ble_eq_true rfl) rfl ?_
  intro p e s m args below meth c cx
  unfold fX6_blocksOff
  refine r_lconst (pc := 0) (z := 0) cx dX6_blocksOff_0 (by decide +kernel) ?_
  refine r_lstore_n (pc := 1) cx dX6_blocksOff_1 (by decide) rfl ?_
  refine r_lconst (pc := 2) (z := 0) cx dX6_blocksOff_2 (by decide +kernel) ?_
  refine r_lstore_n (pc := 3) cx dX6_blocksOff_3 (by decide) rfl ?_
  refine r_lconst (pc := 4) (z := 0) cx dX6_blocksOff_4 (by decide +kernel) ?_
  refine r_lstore (pc := 5) cx dX6_blocksOff_5 (by decide) rfl ?_
  refine r_iconst (pc := 7) cx dX6_blocksOff_7 ?_
  refine r_istore (pc := 8) cx dX6_blocksOff_8 (by decide) rfl ?_
  exact qS.sub (qsub_cons rfl (qsub_cons rfl (qsub_cons rfl (qsub_cons rfl (qsub_cons rfl (qsub_nil _)))))) (tX6_blocksOff_c10 cx hM _ _ _ _ _)
def fX6_mixed_c15 (x1 : Int) (s0 : Int) (σ : qSt) : Option (Int × qSt) :=
  (qbd (fX6_refused s0 σ) fun (r15 : Int) (σ1 : qSt) => (if qI r15 = 0 then (if qI x1 = 0 then ((fX6_pairs σ1).bind fun (r30 : Int) => (some (r30, σ1))) else ((fX6_blocksOff σ1).bind fun (r37 : Int) => (some (r37, σ1)))) else (some (0, σ1))))
set_option maxRecDepth 100000 in
set_option maxHeartbeats 4000000 in
theorem tX6_mixed_c15 {p : Program} {l : Launch} {e : Env} {s : State} {m : MethodId} {args : Array Value} {below : List Frame} {meth : Method} {c : Code} {z0 : Nat} {g : qG} {w : qWd} {ad : Nat → Nat} (cx : qCx p s m meth c cX6_mixed 2 RX6 (some .long) g z0) (hM : qBM g ad w) (x1 : Int) (s0 : Int) (σ : qSt) : qS p l e qrm2 s m args below meth c 2 g z0 w 0 0 (qQ below g z0 w qrj args s 0 0) (fX6_mixed_c15 x1 s0 σ) σ 15 [(0, some (.ref (ad 47))), (1, some (.int (qI x1)))] [.int (qI s0), .ref (ad 47)] := by
  unfold fX6_mixed_c15
  refine r_dVi (pc := 15) cx (tX6_refused hM s0 σ) qm_X6_refused qv_X6_refused hcl_X6 (lw47 hM) wm_X6_84 dX6_mixed_15 rfl rfl (Nat.le_of_ble_eq_true rfl) ⟨Nat.le_of_ble_eq_true rfl, Nat.le_of_ble_eq_true rfl⟩ ⟨rfl, rfl⟩ ⟨Nat.zero_le _, Nat.zero_le _⟩ (fun r15 σ1 => ?_)
  refine r_if_eq (tgt := 25) cx dX6_mixed_18 (by decide) ?_ ?_
  · refine r_iload_n (pc := 25) cx dX6_mixed_25 rfl ?_
    refine r_if_ne (tgt := 36) cx dX6_mixed_26 (by decide) ?_ ?_
    · refine r_aload_n (pc := 36) cx dX6_mixed_36 rfl ?_
      refine r_pVj (pc := 37) cx (tX6_blocksOff hM  σ1) qm_X6_blocksOff qv_X6_blocksOff hcl_X6 (lw47 hM) wm_X6_192 dX6_mixed_37 rfl rfl (Nat.le_of_ble_eq_true rfl) ⟨Nat.le_of_ble_eq_true rfl, Nat.le_of_ble_eq_true rfl⟩ ⟨rfl, rfl⟩ ⟨Nat.zero_le _, Nat.zero_le _⟩ (fun r37 => ?_)
      exact r_lreturn (w0 := w) (fun _ _ h => h) (Nat.zero_le _) (Nat.zero_le _) cx dX6_mixed_40 rfl
    · refine r_aload_n (pc := 29) cx dX6_mixed_29 rfl ?_
      refine r_pVj (pc := 30) cx (tX6_pairs hM  σ1) qm_X6_pairs qv_X6_pairs hcl_X6 (lw47 hM) wm_X6_189 dX6_mixed_30 rfl rfl (Nat.le_of_ble_eq_true rfl) ⟨Nat.le_of_ble_eq_true rfl, Nat.le_of_ble_eq_true rfl⟩ ⟨rfl, rfl⟩ ⟨Nat.zero_le _, Nat.zero_le _⟩ (fun r30 => ?_)
      refine r_goto (pc := 33) (tgt := 40) cx dX6_mixed_33 (by decide) ?_
      exact r_lreturn (w0 := w) (fun _ _ h => h) (Nat.zero_le _) (Nat.zero_le _) cx dX6_mixed_40 rfl
  · refine r_lconst (pc := 21) (z := 0) cx dX6_mixed_21 (by decide +kernel) ?_
    refine r_goto (pc := 22) (tgt := 40) cx dX6_mixed_22 (by decide) ?_
    exact r_lreturn (w0 := w) (fun _ _ h => h) (Nat.zero_le _) (Nat.zero_le _) cx dX6_mixed_40 rfl
def fX6_mixed (p0 : Int) (σ : qSt) : Option (Int × qSt) :=
  ((fX6_within σ p0 0 1).bind fun (r4 : Int) => (if qI r4 = 0 then (fX6_mixed_c15 p0 1 σ) else (fX6_mixed_c15 p0 0 σ)))
set_option maxRecDepth 100000 in
set_option maxHeartbeats 4000000 in
theorem tX6_mixed {l : Launch} {z0 : Nat} {g : qG} {w : qWd} {ad : Nat → Nat} (hM : qBM g ad w) (p0 : Int) (σ : qSt) : qCT l yX6_mixed cX6_mixed 2 (some .long) qrm2 g z0 w [.ref (ad 47), .int (qI p0)] σ (fX6_mixed p0 σ) qrj := by
  refine qCT.of [(0, some (.ref (ad 47))), (1, some (.int (qI p0)))] (by decide +kernel) (Nat.le_of_ble_eq_true rfl) rfl ?_
  intro p e s m args below meth c cx
  unfold fX6_mixed
  refine r_aload_n (pc := 0) cx dX6_mixed_0 rfl ?_
  refine r_iload_n (pc := 1) cx dX6_mixed_1 rfl ?_
  refine r_iconst (pc := 2) cx dX6_mixed_2 ?_
  refine r_iconst (pc := 3) cx dX6_mixed_3 ?_
  refine r_pSi (pc := 4) cx (tX6_within  p0 0 1 σ) qm_X6_within qs_X6_within wm_X6_62 dX6_mixed_4 rfl rfl (Nat.le_of_ble_eq_true rfl) ⟨Nat.le_of_ble_eq_true rfl, Nat.le_of_ble_eq_true rfl⟩ ⟨rfl, rfl⟩ ⟨Nat.zero_le _, Nat.zero_le _⟩ (fun r4 => ?_)
  refine r_if_eq (tgt := 14) cx dX6_mixed_7 (by decide) ?_ ?_
  · refine r_iconst (pc := 14) cx dX6_mixed_14 ?_
    exact qS.sub (qsub_cons rfl (qsub_cons rfl (qsub_nil _))) (tX6_mixed_c15 cx hM _ _ _)
  · refine r_iconst (pc := 10) cx dX6_mixed_10 ?_
    refine r_goto (pc := 11) (tgt := 15) cx dX6_mixed_11 (by decide) ?_
    exact qS.sub (qsub_cons rfl (qsub_cons rfl (qsub_nil _))) (tX6_mixed_c15 cx hM _ _ _)
def fX6_record_c46 (x1 : Int) (x2 : Int) (s0 : Int) (σ : qSt) : Option (Int × qSt) :=
  (qbd (fX6_refused s0 σ) fun (r46 : Int) (σ1 : qSt) => (if qI r46 = 0 then (if 0 ≤ x1 ∧ x1 < 4 then (if 0 ≤ ((((5000 * x1) + (σ1 62 x1)) - 1) - x2) ∧ ((((5000 * x1) + (σ1 62 x1)) - 1) - x2) < 20000 then (some ((σ1 63 ((((5000 * x1) + (σ1 62 x1)) - 1) - x2)), σ1)) else none) else none) else (some (0, σ1))))
set_option maxRecDepth 100000 in
set_option maxHeartbeats 4000000 in
theorem tX6_record_c46 {p : Program} {l : Launch} {e : Env} {s : State} {m : MethodId} {args : Array Value} {below : List Frame} {meth : Method} {c : Code} {z0 : Nat} {g : qG} {w : qWd} {ad : Nat → Nat} (cx : qCx p s m meth c cX6_record 4 RX6 (some .int) g z0) (hM : qBM g ad w) (x1 : Int) (x2 : Int) (s0 : Int) (σ : qSt) : qS p l e qrm1 s m args below meth c 4 g z0 w 0 0 (qQ below g z0 w qri args s 0 0) (fX6_record_c46 x1 x2 s0 σ) σ 46 [(0, some (.ref (ad 47))), (1, some (.int (qI x1))), (2, some (.int (qI x2)))] [.int (qI s0), .ref (ad 47)] := by
  unfold fX6_record_c46
  refine r_dVi (pc := 46) cx (tX6_refused hM s0 σ) qm_X6_refused qv_X6_refused hcl_X6 (lw47 hM) wm_X6_84 dX6_record_46 rfl rfl (Nat.le_of_ble_eq_true rfl) ⟨Nat.le_of_ble_eq_true rfl, Nat.le_of_ble_eq_true rfl⟩ ⟨rfl, rfl⟩ ⟨Nat.zero_le _, Nat.zero_le _⟩ (fun r46 σ1 => ?_)
  refine r_if_eq (tgt := 56) cx dX6_record_49 (by decide) ?_ ?_
  · refine r_aload_n (pc := 56) cx dX6_record_56 rfl ?_
    refine r_get (pc := 57) cx hcl_X6 qc_X6 (lw47 hM) (j := 22) (by decide) wf_X6_55 dX6_record_57 (x := .ref (ad 63)) rfl ?_
    refine r_sipush (pc := 60) (v := 5000) cx dX6_record_60 (by decide +kernel) ?_
    refine r_iload_n (pc := 63) cx dX6_record_63 rfl ?_
    refine r_imul (pc := 64) cx dX6_record_64 ?_
    refine r_aload_n (pc := 65) cx dX6_record_65 rfl ?_
    refine r_get (pc := 66) cx hcl_X6 qc_X6 (lw47 hM) (j := 21) (by decide) wf_X6_52 dX6_record_66 (x := .ref (ad 62)) rfl ?_
    refine r_iload_n (pc := 69) cx dX6_record_69 rfl ?_
    refine r_iaload (pc := 70) cx (lw62 hM) rfl (by decide) dX6_record_70 ?_
    refine r_iadd (pc := 71) cx dX6_record_71 ?_
    refine r_iconst (pc := 72) cx dX6_record_72 ?_
    refine r_isub (pc := 73) cx dX6_record_73 ?_
    refine r_iload_n (pc := 74) cx dX6_record_74 rfl ?_
    refine r_isub (pc := 75) cx dX6_record_75 ?_
    refine r_iaload (pc := 76) cx (lw63 hM) rfl (by decide) dX6_record_76 ?_
    exact r_ireturn (w0 := w) (fun _ _ h => h) (Nat.zero_le _) (Nat.zero_le _) cx dX6_record_77 rfl
  · refine r_iconst (pc := 52) cx dX6_record_52 ?_
    refine r_goto (pc := 53) (tgt := 77) cx dX6_record_53 (by decide) ?_
    exact r_ireturn (w0 := w) (fun _ _ h => h) (Nat.zero_le _) (Nat.zero_le _) cx dX6_record_77 rfl
def fX6_record_c45 (x1 : Int) (x2 : Int) (σ : qSt) : Option (Int × qSt) :=
  (fX6_record_c46 x1 x2 1 σ)
set_option maxRecDepth 100000 in
set_option maxHeartbeats 4000000 in
theorem tX6_record_c45 {p : Program} {l : Launch} {e : Env} {s : State} {m : MethodId} {args : Array Value} {below : List Frame} {meth : Method} {c : Code} {z0 : Nat} {g : qG} {w : qWd} {ad : Nat → Nat} (cx : qCx p s m meth c cX6_record 4 RX6 (some .int) g z0) (hM : qBM g ad w) (x1 : Int) (x2 : Int) (σ : qSt) : qS p l e qrm1 s m args below meth c 4 g z0 w 0 0 (qQ below g z0 w qri args s 0 0) (fX6_record_c45 x1 x2 σ) σ 45 [(0, some (.ref (ad 47))), (1, some (.int (qI x1))), (2, some (.int (qI x2)))] [.ref (ad 47)] := by
  unfold fX6_record_c45
  refine r_iconst (pc := 45) cx dX6_record_45 ?_
  exact qS.sub (qsub_cons rfl (qsub_cons rfl (qsub_cons rfl (qsub_nil _)))) (tX6_record_c46 cx hM _ _ _ _)
def fX6_record_c32 (x1 : Int) (x2 : Int) (s0 : Int) (s2 : Int) (s3 : Int) (σ : qSt) : Option (Int × qSt) :=
  (if 0 ≤ s0 ∧ s0 < 4 then ((fX6_within σ s3 s2 ((σ 62 s0) - 1)).bind fun (r35 : Int) => (if qI r35 = 0 then (fX6_record_c45 x1 x2 σ) else (fX6_record_c46 x1 x2 0 σ))) else none)
set_option maxRecDepth 100000 in
set_option maxHeartbeats 4000000 in
theorem tX6_record_c32 {p : Program} {l : Launch} {e : Env} {s : State} {m : MethodId} {args : Array Value} {below : List Frame} {meth : Method} {c : Code} {z0 : Nat} {g : qG} {w : qWd} {ad : Nat → Nat} (cx : qCx p s m meth c cX6_record 4 RX6 (some .int) g z0) (hM : qBM g ad w) (x1 : Int) (x2 : Int) (s0 : Int) (s2 : Int) (s3 : Int) (σ : qSt) : qS p l e qrm1 s m args below meth c 4 g z0 w 0 0 (qQ below g z0 w qri args s 0 0) (fX6_record_c32 x1 x2 s0 s2 s3 σ) σ 32 [(0, some (.ref (ad 47))), (1, some (.int (qI x1))), (2, some (.int (qI x2)))] [.int (qI s0), .ref (ad 62), .int (qI s2), .int (qI s3), .ref (ad 47)] := by
  unfold fX6_record_c32
  refine r_iaload (pc := 32) cx (lw62 hM) rfl (by decide) dX6_record_32 ?_
  refine r_iconst (pc := 33) cx dX6_record_33 ?_
  refine r_isub (pc := 34) cx dX6_record_34 ?_
  refine r_pSi (pc := 35) cx (tX6_within  s3 s2 ((σ 62 s0) - 1) σ) qm_X6_within qs_X6_within wm_X6_62 dX6_record_35 rfl rfl (Nat.le_of_ble_eq_true rfl) ⟨Nat.le_of_ble_eq_true rfl, Nat.le_of_ble_eq_true rfl⟩ ⟨rfl, rfl⟩ ⟨Nat.zero_le _, Nat.zero_le _⟩ (fun r35 => ?_)
  refine r_if_eq (tgt := 45) cx dX6_record_38 (by decide) ?_ ?_
  · exact qS.sub (qsub_cons rfl (qsub_cons rfl (qsub_cons rfl (qsub_nil _)))) (tX6_record_c45 cx hM _ _ _)
  · refine r_iconst (pc := 41) cx dX6_record_41 ?_
    refine r_goto (pc := 42) (tgt := 46) cx dX6_record_42 (by decide) ?_
    exact qS.sub (qsub_cons rfl (qsub_cons rfl (qsub_cons rfl (qsub_nil _)))) (tX6_record_c46 cx hM _ _ _ _)
def fX6_record (p0 : Int) (p1 : Int) (σ : qSt) : Option (Int × qSt) :=
  ((fX6_within σ p0 0 ((σ 47 19) - 1)).bind fun (r8 : Int) => (if qI r8 = 0 then (fX6_record_c45 p0 p1 σ) else (if qI r8 = 0 then (fX6_record_c32 p0 p1 0 0 p1 σ) else (fX6_record_c32 p0 p1 p0 0 p1 σ))))
set_option maxRecDepth 100000 in
set_option maxHeartbeats 4000000 in
theorem tX6_record {l : Launch} {z0 : Nat} {g : qG} {w : qWd} {ad : Nat → Nat} (hM : qBM g ad w) (p0 : Int) (p1 : Int) (σ : qSt) : qCT l yX6_record cX6_record 4 (some .int) qrm1 g z0 w [.ref (ad 47), .int (qI p0), .int (qI p1)] σ (fX6_record p0 p1 σ) qri := by
  refine qCT.of [(0, some (.ref (ad 47))), (1, some (.int (qI p0))), (2, some (.int (qI p1)))] (by decide +kernel) (Nat.le_of_ble_eq_true rfl) rfl ?_
  intro p e s m args below meth c cx
  unfold fX6_record
  refine r_iload_n (pc := 0) cx dX6_record_0 rfl ?_
  refine r_iconst (pc := 1) cx dX6_record_1 ?_
  refine r_aload_n (pc := 2) cx dX6_record_2 rfl ?_
  refine r_get (pc := 3) cx hcl_X6 qc_X6 (lw47 hM) (j := 19) (by decide) wf_X6_66 dX6_record_3 (x := .int (qI (σ 47 19))) rfl ?_
  refine r_iconst (pc := 6) cx dX6_record_6 ?_
  refine r_isub (pc := 7) cx dX6_record_7 ?_
  refine r_pSi (pc := 8) cx (tX6_within  p0 0 ((σ 47 19) - 1) σ) qm_X6_within qs_X6_within wm_X6_62 dX6_record_8 rfl rfl (Nat.le_of_ble_eq_true rfl) ⟨Nat.le_of_ble_eq_true rfl, Nat.le_of_ble_eq_true rfl⟩ ⟨rfl, rfl⟩ ⟨Nat.zero_le _, Nat.zero_le _⟩ (fun r8 => ?_)
  refine r_istore_n (pc := 11) cx dX6_record_11 (by decide) rfl ?_
  refine r_aload_n (pc := 12) cx dX6_record_12 rfl ?_
  refine r_iload_n (pc := 13) cx dX6_record_13 rfl ?_
  refine r_if_eq (tgt := 45) cx dX6_record_14 (by decide) ?_ ?_
  · exact qS.sub (qsub_cons rfl (qsub_cons rfl (qsub_cons rfl (qsub_nil _)))) (tX6_record_c45 cx hM _ _ _)
  · refine r_iload_n (pc := 17) cx dX6_record_17 rfl ?_
    refine r_iconst (pc := 18) cx dX6_record_18 ?_
    refine r_aload_n (pc := 19) cx dX6_record_19 rfl ?_
    refine r_get (pc := 20) cx hcl_X6 qc_X6 (lw47 hM) (j := 21) (by decide) wf_X6_52 dX6_record_20 (x := .ref (ad 62)) rfl ?_
    refine r_iload_n (pc := 23) cx dX6_record_23 rfl ?_
    refine r_if_eq (tgt := 31) cx dX6_record_24 (by decide) ?_ ?_
    · refine r_iconst (pc := 31) cx dX6_record_31 ?_
      exact qS.sub (qsub_cons rfl (qsub_cons rfl (qsub_cons rfl (qsub_nil _)))) (tX6_record_c32 cx hM _ _ _ _ _ _)
    · refine r_iload_n (pc := 27) cx dX6_record_27 rfl ?_
      refine r_goto (pc := 28) (tgt := 32) cx dX6_record_28 (by decide) ?_
      exact qS.sub (qsub_cons rfl (qsub_cons rfl (qsub_cons rfl (qsub_nil _)))) (tX6_record_c32 cx hM _ _ _ _ _ _)
def fX6_beat_c87 (k35 : Int → Int → Int → Int → qSt → Option (Int × qSt)) (x1 : Int) (x2 : Int) (x4 : Int) (s0 : Int) (σ : qSt) : Option (Int × qSt) :=
  (k35 x1 x2 s0 (x4 + 1) σ)
set_option maxRecDepth 100000 in
set_option maxHeartbeats 4000000 in
theorem tX6_beat_c87 {p : Program} {l : Launch} {e : Env} {s : State} {m : MethodId} {args : Array Value} {below : List Frame} {meth : Method} {c : Code} {z0 : Nat} {g : qG} {w : qWd} {ad : Nat → Nat} (cx : qCx p s m meth c cX6_beat 6 RX6 (some .int) g z0) (hM : qBM g ad w) {k35 : Int → Int → Int → Int → qSt → Option (Int × qSt)} (hk35 : ∀ (x1 : Int) (x2 : Int) (x3 : Int) (x4 : Int) (σ : qSt), qS p l e qrm1 s m args below meth c 6 g z0 w 0 0 (qQ below g z0 w qri args s 0 0) (k35 x1 x2 x3 x4 σ) σ 35 [(0, some (.ref (ad 47))), (1, some (.int (qI x1))), (2, some (.int (qI x2))), (3, some (.int (qI x3))), (4, some (.int (qI x4)))] []) (x1 : Int) (x2 : Int) (x4 : Int) (s0 : Int) (σ : qSt) : qS p l e qrm1 s m args below meth c 6 g z0 w 0 0 (qQ below g z0 w qri args s 0 0) (fX6_beat_c87 k35 x1 x2 x4 s0 σ) σ 87 [(0, some (.ref (ad 47))), (1, some (.int (qI x1))), (2, some (.int (qI x2))), (4, some (.int (qI x4)))] [.int (qI s0)] := by
  unfold fX6_beat_c87
  refine r_istore_n (pc := 87) cx dX6_beat_87 (by decide) rfl ?_
  refine r_iinc (pc := 88) cx dX6_beat_88 rfl (by decide) rfl ?_
  refine r_goto (pc := 91) (tgt := 35) cx dX6_beat_91 (by decide) ?_
  exact qS.sub (qsub_cons rfl (qsub_cons rfl (qsub_cons rfl (qsub_cons rfl (qsub_cons rfl (qsub_nil _)))))) (hk35 _ _ _ _ _)
def fX6_beat_c74 (k35 : Int → Int → Int → Int → qSt → Option (Int × qSt)) (x1 : Int) (x3 : Int) (x4 : Int) (x5 : Int) (s0 : Int) (s1 : Int) (σ : qSt) : Option (Int × qSt) :=
  (qb (s1 + s0) fun (y3 : Int) => (if qI x5 = 0 then (fX6_beat_c87 k35 x1 y3 x4 x3 σ) else (fX6_beat_c87 k35 x1 y3 x4 x5 σ)))
set_option maxRecDepth 100000 in
set_option maxHeartbeats 4000000 in
theorem tX6_beat_c74 {p : Program} {l : Launch} {e : Env} {s : State} {m : MethodId} {args : Array Value} {below : List Frame} {meth : Method} {c : Code} {z0 : Nat} {g : qG} {w : qWd} {ad : Nat → Nat} (cx : qCx p s m meth c cX6_beat 6 RX6 (some .int) g z0) (hM : qBM g ad w) {k35 : Int → Int → Int → Int → qSt → Option (Int × qSt)} (hk35 : ∀ (x1 : Int) (x2 : Int) (x3 : Int) (x4 : Int) (σ : qSt), qS p l e qrm1 s m args below meth c 6 g z0 w 0 0 (qQ below g z0 w qri args s 0 0) (k35 x1 x2 x3 x4 σ) σ 35 [(0, some (.ref (ad 47))), (1, some (.int (qI x1))), (2, some (.int (qI x2))), (3, some (.int (qI x3))), (4, some (.int (qI x4)))] []) (x1 : Int) (x3 : Int) (x4 : Int) (x5 : Int) (s0 : Int) (s1 : Int) (σ : qSt) : qS p l e qrm1 s m args below meth c 6 g z0 w 0 0 (qQ below g z0 w qri args s 0 0) (fX6_beat_c74 k35 x1 x3 x4 x5 s0 s1 σ) σ 74 [(0, some (.ref (ad 47))), (1, some (.int (qI x1))), (3, some (.int (qI x3))), (4, some (.int (qI x4))), (5, some (.int (qI x5)))] [.int (qI s0), .int (qI s1)] := by
  unfold fX6_beat_c74
  refine r_iadd (pc := 74) cx dX6_beat_74 ?_
  refine r_nmi (fun y3 => ?_)
  refine r_istore_n (pc := 75) cx dX6_beat_75 (by decide) rfl ?_
  refine r_iload (pc := 76) cx dX6_beat_76 rfl ?_
  refine r_if_ne (tgt := 85) cx dX6_beat_78 (by decide) ?_ ?_
  · refine r_iload (pc := 85) cx dX6_beat_85 rfl ?_
    exact qS.sub (qsub_cons rfl (qsub_cons rfl (qsub_cons rfl (qsub_cons rfl (qsub_nil _))))) (tX6_beat_c87 cx hM hk35 _ _ _ _ _)
  · refine r_iload_n (pc := 81) cx dX6_beat_81 rfl ?_
    refine r_goto (pc := 82) (tgt := 87) cx dX6_beat_82 (by decide) ?_
    exact qS.sub (qsub_cons rfl (qsub_cons rfl (qsub_cons rfl (qsub_cons rfl (qsub_nil _))))) (tX6_beat_c87 cx hM hk35 _ _ _ _ _)
def fX6_beat_c35 : Nat → Int → Int → Int → Int → qSt → Option (Int × qSt)
  | 0, _, _, _, _, _ => none
  | f + 1, x1, x2, x3, x4, σ => (if 0 ≤ x1 ∧ x1 < 4 then (if qI (σ 62 x1) ≤ qI x4 then (some (x2, σ)) else (if 0 ≤ ((5000 * x1) + x4) ∧ ((5000 * x1) + x4) < 20000 then (qb (σ 63 ((5000 * x1) + x4)) fun (y2 : Int) => (if 0 ≤ qI (y2 * x3) then (fX6_beat_c74 (fX6_beat_c35 f) x1 x3 x4 y2 0 x2 σ) else (fX6_beat_c74 (fX6_beat_c35 f) x1 x3 x4 y2 1 x2 σ))) else none)) else none)
set_option maxRecDepth 100000 in
set_option maxHeartbeats 4000000 in
theorem tX6_beat_c35 {p : Program} {l : Launch} {e : Env} {s : State} {m : MethodId} {args : Array Value} {below : List Frame} {meth : Method} {c : Code} {z0 : Nat} {g : qG} {w : qWd} {ad : Nat → Nat} (cx : qCx p s m meth c cX6_beat 6 RX6 (some .int) g z0) (hM : qBM g ad w) : ∀ (f : Nat) (x1 : Int) (x2 : Int) (x3 : Int) (x4 : Int) (σ : qSt), qS p l e qrm1 s m args below meth c 6 g z0 w 0 0 (qQ below g z0 w qri args s 0 0) (fX6_beat_c35 f x1 x2 x3 x4 σ) σ 35 [(0, some (.ref (ad 47))), (1, some (.int (qI x1))), (2, some (.int (qI x2))), (3, some (.int (qI x3))), (4, some (.int (qI x4)))] [] := by
  intro f
  induction f with
  | zero => exact fun _ _ _ _ _ => qS.fail
  | succ f ih =>
    intro x1 x2 x3 x4 σ
    unfold fX6_beat_c35
    refine r_iload (pc := 35) cx dX6_beat_35 rfl ?_
    refine r_aload_n (pc := 37) cx dX6_beat_37 rfl ?_
    refine r_get (pc := 38) cx hcl_X6 qc_X6 (lw47 hM) (j := 21) (by decide) wf_X6_52 dX6_beat_38 (x := .ref (ad 62)) rfl ?_
    refine r_iload_n (pc := 41) cx dX6_beat_41 rfl ?_
    refine r_iaload (pc := 42) cx (lw62 hM) rfl (by decide) dX6_beat_42 ?_
    refine r_icmp_ge (tgt := 94) cx dX6_beat_43 (by decide) ?_ ?_
    · refine r_iload_n (pc := 94) cx dX6_beat_94 rfl ?_
      exact r_ireturn (w0 := w) (fun _ _ h => h) (Nat.zero_le _) (Nat.zero_le _) cx dX6_beat_95 rfl
    · refine r_aload_n (pc := 46) cx dX6_beat_46 rfl ?_
      refine r_get (pc := 47) cx hcl_X6 qc_X6 (lw47 hM) (j := 22) (by decide) wf_X6_55 dX6_beat_47 (x := .ref (ad 63)) rfl ?_
      refine r_sipush (pc := 50) (v := 5000) cx dX6_beat_50 (by decide +kernel) ?_
      refine r_iload_n (pc := 53) cx dX6_beat_53 rfl ?_
      refine r_imul (pc := 54) cx dX6_beat_54 ?_
      refine r_iload (pc := 55) cx dX6_beat_55 rfl ?_
      refine r_iadd (pc := 57) cx dX6_beat_57 ?_
      refine r_iaload (pc := 58) cx (lw63 hM) rfl (by decide) dX6_beat_58 ?_
      refine r_nmi (fun y2 => ?_)
      refine r_istore (pc := 59) cx dX6_beat_59 (by decide) rfl ?_
      refine r_iload_n (pc := 61) cx dX6_beat_61 rfl ?_
      refine r_iload (pc := 62) cx dX6_beat_62 rfl ?_
      refine r_iload_n (pc := 64) cx dX6_beat_64 rfl ?_
      refine r_imul (pc := 65) cx dX6_beat_65 ?_
      refine r_if_ge (tgt := 73) cx dX6_beat_66 (by decide) ?_ ?_
      · refine r_iconst (pc := 73) cx dX6_beat_73 ?_
        exact qS.sub (qsub_cons rfl (qsub_cons rfl (qsub_cons rfl (qsub_cons rfl (qsub_cons rfl (qsub_nil _)))))) (tX6_beat_c74 cx hM ih _ _ _ _ _ _ _)
      · refine r_iconst (pc := 69) cx dX6_beat_69 ?_
        refine r_goto (pc := 70) (tgt := 74) cx dX6_beat_70 (by decide) ?_
        exact qS.sub (qsub_cons rfl (qsub_cons rfl (qsub_cons rfl (qsub_cons rfl (qsub_cons rfl (qsub_nil _)))))) (tX6_beat_c74 cx hM ih _ _ _ _ _ _ _)
def fX6_beat_c20 (x1 : Int) (s0 : Int) (σ : qSt) : Option (Int × qSt) :=
  (qbd (fX6_refused s0 σ) fun (r20 : Int) (σ1 : qSt) => (if qI r20 = 0 then (fX6_beat_c35 qFU x1 0 0 0 σ1) else (some (0, σ1))))
set_option maxRecDepth 100000 in
set_option maxHeartbeats 4000000 in
theorem tX6_beat_c20 {p : Program} {l : Launch} {e : Env} {s : State} {m : MethodId} {args : Array Value} {below : List Frame} {meth : Method} {c : Code} {z0 : Nat} {g : qG} {w : qWd} {ad : Nat → Nat} (cx : qCx p s m meth c cX6_beat 6 RX6 (some .int) g z0) (hM : qBM g ad w) (x1 : Int) (s0 : Int) (σ : qSt) : qS p l e qrm1 s m args below meth c 6 g z0 w 0 0 (qQ below g z0 w qri args s 0 0) (fX6_beat_c20 x1 s0 σ) σ 20 [(0, some (.ref (ad 47))), (1, some (.int (qI x1)))] [.int (qI s0), .ref (ad 47)] := by
  unfold fX6_beat_c20
  refine r_dVi (pc := 20) cx (tX6_refused hM s0 σ) qm_X6_refused qv_X6_refused hcl_X6 (lw47 hM) wm_X6_84 dX6_beat_20 rfl rfl (Nat.le_of_ble_eq_true rfl) ⟨Nat.le_of_ble_eq_true rfl, Nat.le_of_ble_eq_true rfl⟩ ⟨rfl, rfl⟩ ⟨Nat.zero_le _, Nat.zero_le _⟩ (fun r20 σ1 => ?_)
  refine r_if_eq (tgt := 28) cx dX6_beat_23 (by decide) ?_ ?_
  · refine r_iconst (pc := 28) cx dX6_beat_28 ?_
    refine r_istore_n (pc := 29) cx dX6_beat_29 (by decide) rfl ?_
    refine r_iconst (pc := 30) cx dX6_beat_30 ?_
    refine r_istore_n (pc := 31) cx dX6_beat_31 (by decide) rfl ?_
    refine r_iconst (pc := 32) cx dX6_beat_32 ?_
    refine r_istore (pc := 33) cx dX6_beat_33 (by decide) rfl ?_
    exact qS.sub (qsub_cons rfl (qsub_cons rfl (qsub_cons rfl (qsub_cons rfl (qsub_cons rfl (qsub_nil _)))))) (tX6_beat_c35 cx hM _ _ _ _ _ _)
  · refine r_iconst (pc := 26) cx dX6_beat_26 ?_
    exact r_ireturn (w0 := w) (fun _ _ h => h) (Nat.zero_le _) (Nat.zero_le _) cx dX6_beat_27 rfl
def fX6_beat (p0 : Int) (σ : qSt) : Option (Int × qSt) :=
  ((fX6_within σ p0 0 ((σ 47 19) - 1)).bind fun (r9 : Int) => (if qI r9 = 0 then (fX6_beat_c20 p0 1 σ) else (fX6_beat_c20 p0 0 σ)))
set_option maxRecDepth 100000 in
set_option maxHeartbeats 4000000 in
theorem tX6_beat {l : Launch} {z0 : Nat} {g : qG} {w : qWd} {ad : Nat → Nat} (hM : qBM g ad w) (p0 : Int) (σ : qSt) : qCT l yX6_beat cX6_beat 6 (some .int) qrm1 g z0 w [.ref (ad 47), .int (qI p0)] σ (fX6_beat p0 σ) qri := by
  refine qCT.of [(0, some (.ref (ad 47))), (1, some (.int (qI p0)))] (by decide +kernel) (Nat.le_of_ble_eq_true rfl) rfl ?_
  intro p e s m args below meth c cx
  unfold fX6_beat
  refine r_aload_n (pc := 0) cx dX6_beat_0 rfl ?_
  refine r_iload_n (pc := 1) cx dX6_beat_1 rfl ?_
  refine r_iconst (pc := 2) cx dX6_beat_2 ?_
  refine r_aload_n (pc := 3) cx dX6_beat_3 rfl ?_
  refine r_get (pc := 4) cx hcl_X6 qc_X6 (lw47 hM) (j := 19) (by decide) wf_X6_66 dX6_beat_4 (x := .int (qI (σ 47 19))) rfl ?_
  refine r_iconst (pc := 7) cx dX6_beat_7 ?_
  refine r_isub (pc := 8) cx dX6_beat_8 ?_
  refine r_pSi (pc := 9) cx (tX6_within  p0 0 ((σ 47 19) - 1) σ) qm_X6_within qs_X6_within wm_X6_62 dX6_beat_9 rfl rfl (Nat.le_of_ble_eq_true rfl) ⟨Nat.le_of_ble_eq_true rfl, Nat.le_of_ble_eq_true rfl⟩ ⟨rfl, rfl⟩ ⟨Nat.zero_le _, Nat.zero_le _⟩ (fun r9 => ?_)
  refine r_if_eq (tgt := 19) cx dX6_beat_12 (by decide) ?_ ?_
  · refine r_iconst (pc := 19) cx dX6_beat_19 ?_
    exact qS.sub (qsub_cons rfl (qsub_cons rfl (qsub_nil _))) (tX6_beat_c20 cx hM _ _ _)
  · refine r_iconst (pc := 15) cx dX6_beat_15 ?_
    refine r_goto (pc := 16) (tgt := 20) cx dX6_beat_16 (by decide) ?_
    exact qS.sub (qsub_cons rfl (qsub_cons rfl (qsub_nil _))) (tX6_beat_c20 cx hM _ _ _)
def fX6_pushIn_c9 : Nat → Int → Int → Int → Int → qSt → Option (Int × qSt)
  | 0, _, _, _, _, _ => none
  | f + 1, x1, x2, x3, x4, σ => (if qI x2 ≤ qI x4 then (some (x3, σ)) else (qbd (fX6_advance 54 55 σ) fun (r24 : Int) (σ2 : qSt) => (if 0 ≤ ((3 * x1) + 1) ∧ ((3 * x1) + 1) < 12 then (qb (x3 + (σ2 60 ((3 * x1) + 1))) fun (y3 : Int) => (fX6_pushIn_c9 f x1 x2 y3 (x4 + 1) σ2)) else none)))
set_option maxRecDepth 100000 in
set_option maxHeartbeats 4000000 in
theorem tX6_pushIn_c9 {p : Program} {l : Launch} {e : Env} {s : State} {m : MethodId} {args : Array Value} {below : List Frame} {meth : Method} {c : Code} {z0 : Nat} {g : qG} {w : qWd} {ad : Nat → Nat} (cx : qCx p s m meth c cX6_pushIn 5 RX6 (some .int) g z0) (hM : qBM g ad w) : ∀ (f : Nat) (x1 : Int) (x2 : Int) (x3 : Int) (x4 : Int) (σ : qSt), qS p l e qrm2 s m args below meth c 5 g z0 w 0 0 (qQ below g z0 w qri args s 0 0) (fX6_pushIn_c9 f x1 x2 x3 x4 σ) σ 9 [(0, some (.ref (ad 47))), (1, some (.int (qI x1))), (2, some (.int (qI x2))), (3, some (.int (qI x3))), (4, some (.int (qI x4)))] [] := by
  intro f
  induction f with
  | zero => exact fun _ _ _ _ _ => qS.fail
  | succ f ih =>
    intro x1 x2 x3 x4 σ
    unfold fX6_pushIn_c9
    refine r_iload (pc := 9) cx dX6_pushIn_9 rfl ?_
    refine r_iload_n (pc := 11) cx dX6_pushIn_11 rfl ?_
    refine r_icmp_ge (tgt := 46) cx dX6_pushIn_12 (by decide) ?_ ?_
    · refine r_iload_n (pc := 46) cx dX6_pushIn_46 rfl ?_
      exact r_ireturn (w0 := w) (fun _ _ h => h) (Nat.zero_le _) (Nat.zero_le _) cx dX6_pushIn_47 rfl
    · refine r_aload_n (pc := 15) cx dX6_pushIn_15 rfl ?_
      refine r_aload_n (pc := 16) cx dX6_pushIn_16 rfl ?_
      refine r_get (pc := 17) cx hcl_X6 qc_X6 (lw47 hM) (j := 7) (by decide) wf_X6_28 dX6_pushIn_17 (x := .ref (ad 54)) rfl ?_
      refine r_aload_n (pc := 20) cx dX6_pushIn_20 rfl ?_
      refine r_get (pc := 21) cx hcl_X6 qc_X6 (lw47 hM) (j := 8) (by decide) wf_X6_31 dX6_pushIn_21 (x := .ref (ad 55)) rfl ?_
      refine r_dVv (pc := 24) cx (tX6_advance hM (lw54 hM) (lw55 hM)  σ) qm_X6_advance qv_X6_advance hcl_X6 (lw47 hM) wm_X6_130 dX6_pushIn_24 rfl rfl (Nat.le_of_ble_eq_true rfl) ⟨Nat.le_of_ble_eq_true rfl, Nat.le_of_ble_eq_true rfl⟩ ⟨rfl, rfl⟩ ⟨Nat.zero_le _, Nat.zero_le _⟩ (fun r24 σ2 => ?_)
      refine r_iload_n (pc := 27) cx dX6_pushIn_27 rfl ?_
      refine r_aload_n (pc := 28) cx dX6_pushIn_28 rfl ?_
      refine r_get (pc := 29) cx hcl_X6 qc_X6 (lw47 hM) (j := 13) (by decide) wf_X6_46 dX6_pushIn_29 (x := .ref (ad 60)) rfl ?_
      refine r_iconst (pc := 32) cx dX6_pushIn_32 ?_
      refine r_iload_n (pc := 33) cx dX6_pushIn_33 rfl ?_
      refine r_imul (pc := 34) cx dX6_pushIn_34 ?_
      refine r_iconst (pc := 35) cx dX6_pushIn_35 ?_
      refine r_iadd (pc := 36) cx dX6_pushIn_36 ?_
      refine r_iaload (pc := 37) cx (lw60 hM) rfl (by decide) dX6_pushIn_37 ?_
      refine r_iadd (pc := 38) cx dX6_pushIn_38 ?_
      refine r_nmi (fun y3 => ?_)
      refine r_istore_n (pc := 39) cx dX6_pushIn_39 (by decide) rfl ?_
      refine r_iinc (pc := 40) cx dX6_pushIn_40 rfl (by decide) rfl ?_
      refine r_goto (pc := 43) (tgt := 9) cx dX6_pushIn_43 (by decide) ?_
      exact qS.sub (qsub_cons rfl (qsub_cons rfl (qsub_cons rfl (qsub_cons rfl (qsub_cons rfl (qsub_nil _)))))) (ih _ _ _ _ _)
def fX6_pushIn (p0 : Int) (p1 : Int) (σ : qSt) : Option (Int × qSt) :=
  (qbd (fX6_copy σ) fun (r1 : Int) (σ1 : qSt) => (fX6_pushIn_c9 qFU p0 p1 0 0 σ1))
set_option maxRecDepth 100000 in
set_option maxHeartbeats 4000000 in
theorem tX6_pushIn {l : Launch} {z0 : Nat} {g : qG} {w : qWd} {ad : Nat → Nat} (hM : qBM g ad w) (p0 : Int) (p1 : Int) (σ : qSt) : qCT l yX6_pushIn cX6_pushIn 5 (some .int) qrm2 g z0 w [.ref (ad 47), .int (qI p0), .int (qI p1)] σ (fX6_pushIn p0 p1 σ) qri := by
  refine qCT.of [(0, some (.ref (ad 47))), (1, some (.int (qI p0))), (2, some (.int (qI p1)))] (by decide +kernel) (Nat.le_of_ble_eq_true rfl) rfl ?_
  intro p e s m args below meth c cx
  unfold fX6_pushIn
  refine r_aload_n (pc := 0) cx dX6_pushIn_0 rfl ?_
  refine r_dVv (pc := 1) cx (tX6_copy hM  σ) qm_X6_copy qv_X6_copy hcl_X6 (lw47 hM) wm_X6_180 dX6_pushIn_1 rfl rfl (Nat.le_of_ble_eq_true rfl) ⟨Nat.le_of_ble_eq_true rfl, Nat.le_of_ble_eq_true rfl⟩ ⟨rfl, rfl⟩ ⟨Nat.zero_le _, Nat.zero_le _⟩ (fun r1 σ1 => ?_)
  refine r_iconst (pc := 4) cx dX6_pushIn_4 ?_
  refine r_istore_n (pc := 5) cx dX6_pushIn_5 (by decide) rfl ?_
  refine r_iconst (pc := 6) cx dX6_pushIn_6 ?_
  refine r_istore (pc := 7) cx dX6_pushIn_7 (by decide) rfl ?_
  exact qS.sub (qsub_cons rfl (qsub_cons rfl (qsub_cons rfl (qsub_cons rfl (qsub_cons rfl (qsub_nil _)))))) (tX6_pushIn_c9 cx hM _ _ _ _ _ _)
def fX6_better_c136 (k50 : Int → Int → Int → Int → Int → qSt → Option (Int × qSt)) (x1 : Int) (x2 : Int) (x3 : Int) (x4 : Int) (x5 : Int) (σ : qSt) : Option (Int × qSt) :=
  (k50 x1 x2 x3 x4 (x5 + 1) σ)
set_option maxRecDepth 100000 in
set_option maxHeartbeats 4000000 in
theorem tX6_better_c136 {p : Program} {l : Launch} {e : Env} {s : State} {m : MethodId} {args : Array Value} {below : List Frame} {meth : Method} {c : Code} {z0 : Nat} {g : qG} {w : qWd} {ad : Nat → Nat} (cx : qCx p s m meth c cX6_better 7 RX6 (some .int) g z0) (hM : qBM g ad w) {k50 : Int → Int → Int → Int → Int → qSt → Option (Int × qSt)} (hk50 : ∀ (x1 : Int) (x2 : Int) (x3 : Int) (x4 : Int) (x5 : Int) (σ : qSt), qS p l e qrm3 s m args below meth c 7 g z0 w 0 0 (qQ below g z0 w qri args s 0 0) (k50 x1 x2 x3 x4 x5 σ) σ 50 [(0, some (.ref (ad 47))), (1, some (.int (qI x1))), (2, some (.int (qI x2))), (3, some (.int (qI x3))), (4, some (.int (qI x4))), (5, some (.int (qI x5)))] []) (x1 : Int) (x2 : Int) (x3 : Int) (x4 : Int) (x5 : Int) (σ : qSt) : qS p l e qrm3 s m args below meth c 7 g z0 w 0 0 (qQ below g z0 w qri args s 0 0) (fX6_better_c136 k50 x1 x2 x3 x4 x5 σ) σ 136 [(0, some (.ref (ad 47))), (1, some (.int (qI x1))), (2, some (.int (qI x2))), (3, some (.int (qI x3))), (4, some (.int (qI x4))), (5, some (.int (qI x5)))] [] := by
  unfold fX6_better_c136
  refine r_iinc (pc := 136) cx dX6_better_136 rfl (by decide) rfl ?_
  refine r_goto (pc := 139) (tgt := 50) cx dX6_better_139 (by decide) ?_
  exact qS.sub (qsub_cons rfl (qsub_cons rfl (qsub_cons rfl (qsub_cons rfl (qsub_cons rfl (qsub_cons rfl (qsub_nil _))))))) (hk50 _ _ _ _ _ _)
def fX6_better_c135 (k50 : Int → Int → Int → Int → Int → qSt → Option (Int × qSt)) (x1 : Int) (x2 : Int) (x4 : Int) (x5 : Int) (s0 : Int) (σ : qSt) : Option (Int × qSt) :=
  (fX6_better_c136 k50 x1 x2 s0 x4 x5 σ)
set_option maxRecDepth 100000 in
set_option maxHeartbeats 4000000 in
theorem tX6_better_c135 {p : Program} {l : Launch} {e : Env} {s : State} {m : MethodId} {args : Array Value} {below : List Frame} {meth : Method} {c : Code} {z0 : Nat} {g : qG} {w : qWd} {ad : Nat → Nat} (cx : qCx p s m meth c cX6_better 7 RX6 (some .int) g z0) (hM : qBM g ad w) {k50 : Int → Int → Int → Int → Int → qSt → Option (Int × qSt)} (hk50 : ∀ (x1 : Int) (x2 : Int) (x3 : Int) (x4 : Int) (x5 : Int) (σ : qSt), qS p l e qrm3 s m args below meth c 7 g z0 w 0 0 (qQ below g z0 w qri args s 0 0) (k50 x1 x2 x3 x4 x5 σ) σ 50 [(0, some (.ref (ad 47))), (1, some (.int (qI x1))), (2, some (.int (qI x2))), (3, some (.int (qI x3))), (4, some (.int (qI x4))), (5, some (.int (qI x5)))] []) (x1 : Int) (x2 : Int) (x4 : Int) (x5 : Int) (s0 : Int) (σ : qSt) : qS p l e qrm3 s m args below meth c 7 g z0 w 0 0 (qQ below g z0 w qri args s 0 0) (fX6_better_c135 k50 x1 x2 x4 x5 s0 σ) σ 135 [(0, some (.ref (ad 47))), (1, some (.int (qI x1))), (2, some (.int (qI x2))), (4, some (.int (qI x4))), (5, some (.int (qI x5)))] [.int (qI s0)] := by
  unfold fX6_better_c135
  refine r_istore_n (pc := 135) cx dX6_better_135 (by decide) rfl ?_
  exact qS.sub (qsub_cons rfl (qsub_cons rfl (qsub_cons rfl (qsub_cons rfl (qsub_cons rfl (qsub_cons rfl (qsub_nil _))))))) (tX6_better_c136 cx hM hk50 _ _ _ _ _ _)
def fX6_better_c121 (k50 : Int → Int → Int → Int → Int → qSt → Option (Int × qSt)) (x1 : Int) (x2 : Int) (x3 : Int) (x5 : Int) (x6 : Int) (s0 : Int) (σ : qSt) : Option (Int × qSt) :=
  (if qI x3 ≤ qI x6 then (fX6_better_c135 k50 x1 x2 s0 x5 x3 σ) else (fX6_better_c135 k50 x1 x2 s0 x5 x6 σ))
set_option maxRecDepth 100000 in
set_option maxHeartbeats 4000000 in
theorem tX6_better_c121 {p : Program} {l : Launch} {e : Env} {s : State} {m : MethodId} {args : Array Value} {below : List Frame} {meth : Method} {c : Code} {z0 : Nat} {g : qG} {w : qWd} {ad : Nat → Nat} (cx : qCx p s m meth c cX6_better 7 RX6 (some .int) g z0) (hM : qBM g ad w) {k50 : Int → Int → Int → Int → Int → qSt → Option (Int × qSt)} (hk50 : ∀ (x1 : Int) (x2 : Int) (x3 : Int) (x4 : Int) (x5 : Int) (σ : qSt), qS p l e qrm3 s m args below meth c 7 g z0 w 0 0 (qQ below g z0 w qri args s 0 0) (k50 x1 x2 x3 x4 x5 σ) σ 50 [(0, some (.ref (ad 47))), (1, some (.int (qI x1))), (2, some (.int (qI x2))), (3, some (.int (qI x3))), (4, some (.int (qI x4))), (5, some (.int (qI x5)))] []) (x1 : Int) (x2 : Int) (x3 : Int) (x5 : Int) (x6 : Int) (s0 : Int) (σ : qSt) : qS p l e qrm3 s m args below meth c 7 g z0 w 0 0 (qQ below g z0 w qri args s 0 0) (fX6_better_c121 k50 x1 x2 x3 x5 x6 s0 σ) σ 121 [(0, some (.ref (ad 47))), (1, some (.int (qI x1))), (2, some (.int (qI x2))), (3, some (.int (qI x3))), (5, some (.int (qI x5))), (6, some (.int (qI x6)))] [.int (qI s0)] := by
  unfold fX6_better_c121
  refine r_istore (pc := 121) cx dX6_better_121 (by decide) rfl ?_
  refine r_iload (pc := 123) cx dX6_better_123 rfl ?_
  refine r_iload_n (pc := 125) cx dX6_better_125 rfl ?_
  refine r_icmp_ge (tgt := 134) cx dX6_better_126 (by decide) ?_ ?_
  · refine r_iload_n (pc := 134) cx dX6_better_134 rfl ?_
    exact qS.sub (qsub_cons rfl (qsub_cons rfl (qsub_cons rfl (qsub_cons rfl (qsub_cons rfl (qsub_nil _)))))) (tX6_better_c135 cx hM hk50 _ _ _ _ _ _)
  · refine r_iload (pc := 129) cx dX6_better_129 rfl ?_
    refine r_goto (pc := 131) (tgt := 135) cx dX6_better_131 (by decide) ?_
    exact qS.sub (qsub_cons rfl (qsub_cons rfl (qsub_cons rfl (qsub_cons rfl (qsub_cons rfl (qsub_nil _)))))) (tX6_better_c135 cx hM hk50 _ _ _ _ _ _)
def fX6_better_c50 : Nat → Int → Int → Int → Int → Int → qSt → Option (Int × qSt)
  | 0, _, _, _, _, _, _ => none
  | f + 1, x1, x2, x3, x4, x5, σ => (if qI 96 ≤ qI x5 then (some (x4, σ)) else (if 0 ≤ x5 ∧ x5 < 96 then (if qI (σ 49 x5) = qI x1 then (if 0 ≤ x5 ∧ x5 < 96 then (qb (qset σ 48 x5 0) fun (σ3 : qSt) => (if 0 ≤ x5 ∧ x5 < 96 then (qb (qset σ3 49 x5 (-1)) fun (σ4 : qSt) => (qbd (fX6_pushIn x1 x2 σ4) fun (r87 : Int) (σ5 : qSt) => (if 0 ≤ x5 ∧ x5 < 96 then (qb (qset σ5 48 x5 1) fun (σ6 : qSt) => (if 0 ≤ x5 ∧ x5 < 96 then (qb (qset σ6 49 x5 x1) fun (σ7 : qSt) => (if qI x3 ≤ qI r87 then (fX6_better_c121 (fX6_better_c50 f) x1 x2 x3 x5 r87 x4 σ7) else (fX6_better_c121 (fX6_better_c50 f) x1 x2 x3 x5 r87 x5 σ7))) else none)) else none))) else none)) else none) else (fX6_better_c136 (fX6_better_c50 f) x1 x2 x3 x4 x5 σ)) else none))
set_option maxRecDepth 100000 in
set_option maxHeartbeats 4000000 in
theorem tX6_better_c50 {p : Program} {l : Launch} {e : Env} {s : State} {m : MethodId} {args : Array Value} {below : List Frame} {meth : Method} {c : Code} {z0 : Nat} {g : qG} {w : qWd} {ad : Nat → Nat} (cx : qCx p s m meth c cX6_better 7 RX6 (some .int) g z0) (hM : qBM g ad w) : ∀ (f : Nat) (x1 : Int) (x2 : Int) (x3 : Int) (x4 : Int) (x5 : Int) (σ : qSt), qS p l e qrm3 s m args below meth c 7 g z0 w 0 0 (qQ below g z0 w qri args s 0 0) (fX6_better_c50 f x1 x2 x3 x4 x5 σ) σ 50 [(0, some (.ref (ad 47))), (1, some (.int (qI x1))), (2, some (.int (qI x2))), (3, some (.int (qI x3))), (4, some (.int (qI x4))), (5, some (.int (qI x5)))] [] := by
  intro f
  induction f with
  | zero => exact fun _ _ _ _ _ _ => qS.fail
  | succ f ih =>
    intro x1 x2 x3 x4 x5 σ
    unfold fX6_better_c50
    refine r_iload (pc := 50) cx dX6_better_50 rfl ?_
    refine r_bipush (pc := 52) (v := 96) cx dX6_better_52 (by decide +kernel) ?_
    refine r_icmp_ge (tgt := 142) cx dX6_better_54 (by decide) ?_ ?_
    · refine r_iload (pc := 142) cx dX6_better_142 rfl ?_
      exact r_ireturn (w0 := w) (fun _ _ h => h) (Nat.zero_le _) (Nat.zero_le _) cx dX6_better_144 rfl
    · refine r_aload_n (pc := 57) cx dX6_better_57 rfl ?_
      refine r_get (pc := 58) cx hcl_X6 qc_X6 (lw47 hM) (j := 2) (by decide) wf_X6_13 dX6_better_58 (x := .ref (ad 49)) rfl ?_
      refine r_iload (pc := 61) cx dX6_better_61 rfl ?_
      refine r_iaload (pc := 63) cx (lw49 hM) rfl (by decide) dX6_better_63 ?_
      refine r_iload_n (pc := 64) cx dX6_better_64 rfl ?_
      refine r_icmp_ne (tgt := 136) cx dX6_better_65 (by decide) ?_ ?_
      · exact qS.sub (qsub_cons rfl (qsub_cons rfl (qsub_cons rfl (qsub_cons rfl (qsub_cons rfl (qsub_cons rfl (qsub_nil _))))))) (tX6_better_c136 cx hM ih _ _ _ _ _ _)
      · refine r_aload_n (pc := 68) cx dX6_better_68 rfl ?_
        refine r_get (pc := 69) cx hcl_X6 qc_X6 (lw47 hM) (j := 1) (by decide) wf_X6_7 dX6_better_69 (x := .ref (ad 48)) rfl ?_
        refine r_iload (pc := 72) cx dX6_better_72 rfl ?_
        refine r_iconst (pc := 74) cx dX6_better_74 ?_
        refine r_iastore (pc := 75) cx (lw48 hM) rfl (by decide) dX6_better_75 (fun σ3 => ?_)
        refine r_aload_n (pc := 76) cx dX6_better_76 rfl ?_
        refine r_get (pc := 77) cx hcl_X6 qc_X6 (lw47 hM) (j := 2) (by decide) wf_X6_13 dX6_better_77 (x := .ref (ad 49)) rfl ?_
        refine r_iload (pc := 80) cx dX6_better_80 rfl ?_
        refine r_iconst (pc := 82) cx dX6_better_82 ?_
        refine r_iastore (pc := 83) cx (lw49 hM) rfl (by decide) dX6_better_83 (fun σ4 => ?_)
        refine r_aload_n (pc := 84) cx dX6_better_84 rfl ?_
        refine r_iload_n (pc := 85) cx dX6_better_85 rfl ?_
        refine r_iload_n (pc := 86) cx dX6_better_86 rfl ?_
        refine r_dVi (pc := 87) cx (tX6_pushIn hM x1 x2 σ4) qm_X6_pushIn qv_X6_pushIn hcl_X6 (lw47 hM) wm_X6_195 dX6_better_87 rfl rfl (Nat.le_of_ble_eq_true rfl) ⟨Nat.le_of_ble_eq_true rfl, Nat.le_of_ble_eq_true rfl⟩ ⟨rfl, rfl⟩ ⟨Nat.zero_le _, Nat.zero_le _⟩ (fun r87 σ5 => ?_)
        refine r_istore (pc := 90) cx dX6_better_90 (by decide) rfl ?_
        refine r_aload_n (pc := 92) cx dX6_better_92 rfl ?_
        refine r_get (pc := 93) cx hcl_X6 qc_X6 (lw47 hM) (j := 1) (by decide) wf_X6_7 dX6_better_93 (x := .ref (ad 48)) rfl ?_
        refine r_iload (pc := 96) cx dX6_better_96 rfl ?_
        refine r_iconst (pc := 98) cx dX6_better_98 ?_
        refine r_iastore (pc := 99) cx (lw48 hM) rfl (by decide) dX6_better_99 (fun σ6 => ?_)
        refine r_aload_n (pc := 100) cx dX6_better_100 rfl ?_
        refine r_get (pc := 101) cx hcl_X6 qc_X6 (lw47 hM) (j := 2) (by decide) wf_X6_13 dX6_better_101 (x := .ref (ad 49)) rfl ?_
        refine r_iload (pc := 104) cx dX6_better_104 rfl ?_
        refine r_iload_n (pc := 106) cx dX6_better_106 rfl ?_
        refine r_iastore (pc := 107) cx (lw49 hM) rfl (by decide) dX6_better_107 (fun σ7 => ?_)
        refine r_iload (pc := 108) cx dX6_better_108 rfl ?_
        refine r_iload_n (pc := 110) cx dX6_better_110 rfl ?_
        refine r_icmp_ge (tgt := 119) cx dX6_better_111 (by decide) ?_ ?_
        · refine r_iload (pc := 119) cx dX6_better_119 rfl ?_
          exact qS.sub (qsub_cons rfl (qsub_cons rfl (qsub_cons rfl (qsub_cons rfl (qsub_cons rfl (qsub_cons rfl (qsub_nil _))))))) (tX6_better_c121 cx hM ih _ _ _ _ _ _ _)
        · refine r_iload (pc := 114) cx dX6_better_114 rfl ?_
          refine r_goto (pc := 116) (tgt := 121) cx dX6_better_116 (by decide) ?_
          exact qS.sub (qsub_cons rfl (qsub_cons rfl (qsub_cons rfl (qsub_cons rfl (qsub_cons rfl (qsub_cons rfl (qsub_nil _))))))) (tX6_better_c121 cx hM ih _ _ _ _ _ _ _)
def fX6_better_c29 (x1 : Int) (x2 : Int) (s0 : Int) (σ : qSt) : Option (Int × qSt) :=
  (qbd (fX6_refused s0 σ) fun (r29 : Int) (σ1 : qSt) => (if qI r29 = 0 then (qbd (fX6_pushIn x1 x2 σ1) fun (r40 : Int) (σ2 : qSt) => (fX6_better_c50 qFU x1 x2 r40 (-1) 0 σ2)) else (some (0, σ1))))
set_option maxRecDepth 100000 in
set_option maxHeartbeats 4000000 in
theorem tX6_better_c29 {p : Program} {l : Launch} {e : Env} {s : State} {m : MethodId} {args : Array Value} {below : List Frame} {meth : Method} {c : Code} {z0 : Nat} {g : qG} {w : qWd} {ad : Nat → Nat} (cx : qCx p s m meth c cX6_better 7 RX6 (some .int) g z0) (hM : qBM g ad w) (x1 : Int) (x2 : Int) (s0 : Int) (σ : qSt) : qS p l e qrm3 s m args below meth c 7 g z0 w 0 0 (qQ below g z0 w qri args s 0 0) (fX6_better_c29 x1 x2 s0 σ) σ 29 [(0, some (.ref (ad 47))), (1, some (.int (qI x1))), (2, some (.int (qI x2)))] [.int (qI s0), .ref (ad 47)] := by
  unfold fX6_better_c29
  refine r_dVi (pc := 29) cx (tX6_refused hM s0 σ) qm_X6_refused qv_X6_refused hcl_X6 (lw47 hM) wm_X6_84 dX6_better_29 rfl rfl (Nat.le_of_ble_eq_true rfl) ⟨Nat.le_of_ble_eq_true rfl, Nat.le_of_ble_eq_true rfl⟩ ⟨rfl, rfl⟩ ⟨Nat.zero_le _, Nat.zero_le _⟩ (fun r29 σ1 => ?_)
  refine r_if_eq (tgt := 37) cx dX6_better_32 (by decide) ?_ ?_
  · refine r_aload_n (pc := 37) cx dX6_better_37 rfl ?_
    refine r_iload_n (pc := 38) cx dX6_better_38 rfl ?_
    refine r_iload_n (pc := 39) cx dX6_better_39 rfl ?_
    refine r_dVi (pc := 40) cx (tX6_pushIn hM x1 x2 σ1) qm_X6_pushIn qv_X6_pushIn hcl_X6 (lw47 hM) wm_X6_195 dX6_better_40 rfl rfl (Nat.le_of_ble_eq_true rfl) ⟨Nat.le_of_ble_eq_true rfl, Nat.le_of_ble_eq_true rfl⟩ ⟨rfl, rfl⟩ ⟨Nat.zero_le _, Nat.zero_le _⟩ (fun r40 σ2 => ?_)
    refine r_istore_n (pc := 43) cx dX6_better_43 (by decide) rfl ?_
    refine r_iconst (pc := 44) cx dX6_better_44 ?_
    refine r_istore (pc := 45) cx dX6_better_45 (by decide) rfl ?_
    refine r_iconst (pc := 47) cx dX6_better_47 ?_
    refine r_istore (pc := 48) cx dX6_better_48 (by decide) rfl ?_
    exact qS.sub (qsub_cons rfl (qsub_cons rfl (qsub_cons rfl (qsub_cons rfl (qsub_cons rfl (qsub_cons rfl (qsub_nil _))))))) (tX6_better_c50 cx hM _ _ _ _ _ _ _)
  · refine r_iconst (pc := 35) cx dX6_better_35 ?_
    exact r_ireturn (w0 := w) (fun _ _ h => h) (Nat.zero_le _) (Nat.zero_le _) cx dX6_better_36 rfl
def fX6_better (p0 : Int) (p1 : Int) (σ : qSt) : Option (Int × qSt) :=
  ((fX6_within σ p0 0 3).bind fun (r4 : Int) => (if qI r4 = 0 then (fX6_better_c29 p0 p1 1 σ) else ((fX6_within σ p1 1 10).bind fun (r18 : Int) => (if qI r18 = 0 then (fX6_better_c29 p0 p1 2 σ) else (fX6_better_c29 p0 p1 0 σ)))))
set_option maxRecDepth 100000 in
set_option maxHeartbeats 4000000 in
theorem tX6_better {l : Launch} {z0 : Nat} {g : qG} {w : qWd} {ad : Nat → Nat} (hM : qBM g ad w) (p0 : Int) (p1 : Int) (σ : qSt) : qCT l yX6_better cX6_better 7 (some .int) qrm3 g z0 w [.ref (ad 47), .int (qI p0), .int (qI p1)] σ (fX6_better p0 p1 σ) qri := by
  refine qCT.of [(0, some (.ref (ad 47))), (1, some (.int (qI p0))), (2, some (.int (qI p1)))] (by decide +kernel) (Nat.le_of_ble_eq_true rfl) rfl ?_
  intro p e s m args below meth c cx
  unfold fX6_better
  refine r_aload_n (pc := 0) cx dX6_better_0 rfl ?_
  refine r_iload_n (pc := 1) cx dX6_better_1 rfl ?_
  refine r_iconst (pc := 2) cx dX6_better_2 ?_
  refine r_iconst (pc := 3) cx dX6_better_3 ?_
  refine r_pSi (pc := 4) cx (tX6_within  p0 0 3 σ) qm_X6_within qs_X6_within wm_X6_62 dX6_better_4 rfl rfl (Nat.le_of_ble_eq_true rfl) ⟨Nat.le_of_ble_eq_true rfl, Nat.le_of_ble_eq_true rfl⟩ ⟨rfl, rfl⟩ ⟨Nat.zero_le _, Nat.zero_le _⟩ (fun r4 => ?_)
  refine r_if_ne (tgt := 14) cx dX6_better_7 (by decide) ?_ ?_
  · refine r_iload_n (pc := 14) cx dX6_better_14 rfl ?_
    refine r_iconst (pc := 15) cx dX6_better_15 ?_
    refine r_bipush (pc := 16) (v := 10) cx dX6_better_16 (by decide +kernel) ?_
    refine r_pSi (pc := 18) cx (tX6_within  p1 1 10 σ) qm_X6_within qs_X6_within wm_X6_62 dX6_better_18 rfl rfl (Nat.le_of_ble_eq_true rfl) ⟨Nat.le_of_ble_eq_true rfl, Nat.le_of_ble_eq_true rfl⟩ ⟨rfl, rfl⟩ ⟨Nat.zero_le _, Nat.zero_le _⟩ (fun r18 => ?_)
    refine r_if_ne (tgt := 28) cx dX6_better_21 (by decide) ?_ ?_
    · refine r_iconst (pc := 28) cx dX6_better_28 ?_
      exact qS.sub (qsub_cons rfl (qsub_cons rfl (qsub_cons rfl (qsub_nil _)))) (tX6_better_c29 cx hM _ _ _ _)
    · refine r_iconst (pc := 24) cx dX6_better_24 ?_
      refine r_goto (pc := 25) (tgt := 29) cx dX6_better_25 (by decide) ?_
      exact qS.sub (qsub_cons rfl (qsub_cons rfl (qsub_cons rfl (qsub_nil _)))) (tX6_better_c29 cx hM _ _ _ _)
  · refine r_iconst (pc := 10) cx dX6_better_10 ?_
    refine r_goto (pc := 11) (tgt := 29) cx dX6_better_11 (by decide) ?_
    exact qS.sub (qsub_cons rfl (qsub_cons rfl (qsub_cons rfl (qsub_nil _)))) (tX6_better_c29 cx hM _ _ _ _)
