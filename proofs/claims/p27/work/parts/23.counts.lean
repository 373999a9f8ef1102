def fX0_areAt_c11 (σ : qSt) : Nat → Int → Int → Int → Option Int
  | 0, _, _, _ => none
  | f + 1, x1, x3, x4 => (if qI x3 ≤ qI x4 then (some 0) else (if 0 ≤ x4 ∧ x4 < 4 then (if 0 ≤ x1 ∧ x1 < 96 then (if qI (σ (30 + Int.toNat x4) x1) ≤ 0 then (fX0_areAt_c11 σ f x1 x3 (x4 + 1)) else (some 1)) else none) else none))
set_option maxRecDepth 100000 in
set_option maxHeartbeats 4000000 in
theorem tX0_areAt_c11 {p : Program} {l : Launch} {e : Env} {s : State} {m : MethodId} {args : Array Value} {below : List Frame} {meth : Method} {c : Code} {z0 : Nat} {g : qG} {w : qWd} {ad : Nat → Nat} {σ : qSt} (cx : qCx p s m meth c cX0_areAt 6 RX0 (some .boolean) g z0) (hB : qBC g ad w) : ∀ (f : Nat) (x1 : Int) (x3 : Int) (x4 : Int), qS p l e qrm0 s m args below meth c 6 g z0 w 0 0 (fun r => qQ below g z0 w qri args s 0 0 (r, σ)) (fX0_areAt_c11 σ f x1 x3 x4) σ 11 [(1, some (.int (qI x1))), (2, some (.ref (ad 28))), (3, some (.int (qI x3))), (4, some (.int (qI x4)))] [] := by
  intro f
  induction f with
  | zero => exact fun _ _ _ => qS.fail
  | succ f ih =>
    intro x1 x3 x4
    unfold fX0_areAt_c11
    refine r_iload (pc := 11) cx dX0_areAt_11 rfl ?_
    refine r_iload_n (pc := 13) cx dX0_areAt_13 rfl ?_
    refine r_icmp_ge (tgt := 38) cx dX0_areAt_14 (by decide) ?_ ?_
    · refine r_iconst (pc := 38) cx dX0_areAt_38 ?_
      exact r_zreturn (w0 := w) (fun _ _ h => h) (Nat.zero_le _) (Nat.zero_le _) cx (by decide +kernel) dX0_areAt_39 rfl
    · refine r_aload_n (pc := 17) cx dX0_areAt_17 rfl ?_
      refine r_iload (pc := 18) cx dX0_areAt_18 rfl ?_
      refine r_aaload2 (pc := 20) cx (lw28 hB) rfl (by decide) dX0_areAt_20 (fun h20 => ?_)
      refine r_astore (pc := 21) cx dX0_areAt_21 (by decide) rfl ?_
      refine r_aload (pc := 23) cx dX0_areAt_23 rfl ?_
      refine r_iload_n (pc := 25) cx dX0_areAt_25 rfl ?_
      refine r_iaload (pc := 26) cx (lw_rows hB h20) rfl (by decide) dX0_areAt_26 ?_
      refine r_if_le (tgt := 32) cx dX0_areAt_27 (by decide) ?_ ?_
      · refine r_iinc (pc := 32) cx dX0_areAt_32 rfl (by decide) rfl ?_
        refine r_goto (pc := 35) (tgt := 11) cx dX0_areAt_35 (by decide) ?_
        exact qS.sub (qsub_cons rfl (qsub_cons rfl (qsub_cons rfl (qsub_cons rfl (qsub_nil _))))) (ih _ _ _)
      · refine r_iconst (pc := 30) cx dX0_areAt_30 ?_
        exact r_zreturn (w0 := w) (fun _ _ h => h) (Nat.zero_le _) (Nat.zero_le _) cx (by decide +kernel) dX0_areAt_31 rfl
def fX0_areAt (σ : qSt) (p0 : Int) : Option Int :=
  (fX0_areAt_c11 σ qFU p0 4 0)
set_option maxRecDepth 100000 in
set_option maxHeartbeats 4000000 in
theorem tX0_areAt {l : Launch} {z0 : Nat} {g : qG} {w : qWd} {ad : Nat → Nat} (hB : qBC g ad w) (p0 : Int) (σ : qSt) : qCT l yX0_areAt cX0_areAt 6 (some .boolean) qrm0 g z0 w [.ref (ad 27), .int (qI p0)] σ (qlift (fX0_areAt σ p0) σ) qri := by
  refine qCTp.of [(0, some (.ref (ad 27))), (1, some (.int (qI p0)))] (by decide +kernel) (Nat.le_of_ble_eq_true rfl) rfl ?_
  intro p e s m args below meth c cx
  unfold fX0_areAt
  refine r_aload_n (pc := 0) cx dX0_areAt_0 rfl ?_
  refine r_get (pc := 1) cx hcl_X0 qc_X0 (lw27 hB) (j := 0) (by decide) wf_X0_11 dX0_areAt_1 (x := .ref (ad 28)) rfl ?_
  refine r_astore_n (pc := 4) cx dX0_areAt_4 (by decide) rfl ?_
  refine r_aload_n (pc := 5) cx dX0_areAt_5 rfl ?_
  refine r_alen_qAR (pc := 6) cx (t0 := 2) (ty := .array .int) rfl (lw28 hB) (M := 4) rfl dX0_areAt_6 ?_
  refine r_istore_n (pc := 7) cx dX0_areAt_7 (by decide) rfl ?_
  refine r_iconst (pc := 8) cx dX0_areAt_8 ?_
  refine r_istore (pc := 9) cx dX0_areAt_9 (by decide) rfl ?_
  exact qS.sub (qsub_cons rfl (qsub_cons rfl (qsub_cons rfl (qsub_cons rfl (qsub_nil _))))) (tX0_areAt_c11 cx hB _ _ _ _)
def fX0_numberAt (σ : qSt) (p0 : Int) (p1 : Int) : Option Int :=
  (if 0 ≤ p0 ∧ p0 < 96 then (if 0 ≤ p0 ∧ p0 < 96 then (qb ((σ 30 p0) + (σ 32 p0)) fun (y1 : Int) => (if 0 ≤ p0 ∧ p0 < 96 then (if 0 ≤ p0 ∧ p0 < 96 then (qb ((σ 31 p0) + (σ 33 p0)) fun (y2 : Int) => (if qI p1 = 0 then (some (y1 + y2)) else (if qI p1 = qI 1 then (if 0 ≤ p0 ∧ p0 < 96 then (if 0 ≤ p0 ∧ p0 < 96 then (some ((σ 30 p0) - (σ 32 p0))) else none) else none) else (if 0 ≤ p0 ∧ p0 < 96 then (if 0 ≤ p0 ∧ p0 < 96 then (some ((σ 31 p0) - (σ 33 p0))) else none) else none)))) else none) else none)) else none) else none)
set_option maxRecDepth 100000 in
set_option maxHeartbeats 4000000 in
theorem tX0_numberAt {l : Launch} {z0 : Nat} {g : qG} {w : qWd} {ad : Nat → Nat} (hB : qBC g ad w) (p0 : Int) (p1 : Int) (σ : qSt) : qCT l yX0_numberAt cX0_numberAt 5 (some .int) qrm0 g z0 w [.ref (ad 27), .int (qI p0), .int (qI p1)] σ (qlift (fX0_numberAt σ p0 p1) σ) qri := by
  refine qCTp.of [(0, some (.ref (ad 27))), (1, some (.int (qI p0))), (2, some (.int (qI p1)))] (by decide +kernel) (Nat.le_of_ble_eq_true rfl) rfl ?_
  intro p e s m args below meth c cx
  unfold fX0_numberAt
  refine r_aload_n (pc := 0) cx dX0_numberAt_0 rfl ?_
  refine r_get (pc := 1) cx hcl_X0 qc_X0 (lw27 hB) (j := 0) (by decide) wf_X0_11 dX0_numberAt_1 (x := .ref (ad 28)) rfl ?_
  refine r_iconst (pc := 4) cx dX0_numberAt_4 ?_
  refine r_true (C := (0 : Int) ≤ 0 ∧ (0 : Int) < 4) (hC := instDecidableAnd) (by decide) ?_
  refine r_aaload2 (pc := 5) cx (lw28 hB) rfl (by decide) dX0_numberAt_5 (fun _ => ?_)
  refine r_iload_n (pc := 6) cx dX0_numberAt_6 rfl ?_
  refine r_iaload (pc := 7) cx (lw30 hB) rfl (by decide) dX0_numberAt_7 ?_
  refine r_aload_n (pc := 8) cx dX0_numberAt_8 rfl ?_
  refine r_get (pc := 9) cx hcl_X0 qc_X0 (lw27 hB) (j := 0) (by decide) wf_X0_11 dX0_numberAt_9 (x := .ref (ad 28)) rfl ?_
  refine r_iconst (pc := 12) cx dX0_numberAt_12 ?_
  refine r_true (C := (0 : Int) ≤ 2 ∧ (2 : Int) < 4) (hC := instDecidableAnd) (by decide) ?_
  refine r_aaload2 (pc := 13) cx (lw28 hB) rfl (by decide) dX0_numberAt_13 (fun _ => ?_)
  refine r_iload_n (pc := 14) cx dX0_numberAt_14 rfl ?_
  refine r_iaload (pc := 15) cx (lw32 hB) rfl (by decide) dX0_numberAt_15 ?_
  refine r_iadd (pc := 16) cx dX0_numberAt_16 ?_
  refine r_nmi (fun y1 => ?_)
  refine r_istore_n (pc := 17) cx dX0_numberAt_17 (by decide) rfl ?_
  refine r_aload_n (pc := 18) cx dX0_numberAt_18 rfl ?_
  refine r_get (pc := 19) cx hcl_X0 qc_X0 (lw27 hB) (j := 0) (by decide) wf_X0_11 dX0_numberAt_19 (x := .ref (ad 28)) rfl ?_
  refine r_iconst (pc := 22) cx dX0_numberAt_22 ?_
  refine r_true (C := (0 : Int) ≤ 1 ∧ (1 : Int) < 4) (hC := instDecidableAnd) (by decide) ?_
  refine r_aaload2 (pc := 23) cx (lw28 hB) rfl (by decide) dX0_numberAt_23 (fun _ => ?_)
  refine r_iload_n (pc := 24) cx dX0_numberAt_24 rfl ?_
  refine r_iaload (pc := 25) cx (lw31 hB) rfl (by decide) dX0_numberAt_25 ?_
  refine r_aload_n (pc := 26) cx dX0_numberAt_26 rfl ?_
  refine r_get (pc := 27) cx hcl_X0 qc_X0 (lw27 hB) (j := 0) (by decide) wf_X0_11 dX0_numberAt_27 (x := .ref (ad 28)) rfl ?_
  refine r_iconst (pc := 30) cx dX0_numberAt_30 ?_
  refine r_true (C := (0 : Int) ≤ 3 ∧ (3 : Int) < 4) (hC := instDecidableAnd) (by decide) ?_
  refine r_aaload2 (pc := 31) cx (lw28 hB) rfl (by decide) dX0_numberAt_31 (fun _ => ?_)
  refine r_iload_n (pc := 32) cx dX0_numberAt_32 rfl ?_
  refine r_iaload (pc := 33) cx (lw33 hB) rfl (by decide) dX0_numberAt_33 ?_
  refine r_iadd (pc := 34) cx dX0_numberAt_34 ?_
  refine r_nmi (fun y2 => ?_)
  refine r_istore (pc := 35) cx dX0_numberAt_35 (by decide) rfl ?_
  refine r_iload_n (pc := 37) cx dX0_numberAt_37 rfl ?_
  refine r_if_ne (tgt := 46) cx dX0_numberAt_38 (by decide) ?_ ?_
  · refine r_iload_n (pc := 46) cx dX0_numberAt_46 rfl ?_
    refine r_iconst (pc := 47) cx dX0_numberAt_47 ?_
    refine r_icmp_ne (tgt := 71) cx dX0_numberAt_48 (by decide) ?_ ?_
    · refine r_aload_n (pc := 71) cx dX0_numberAt_71 rfl ?_
      refine r_get (pc := 72) cx hcl_X0 qc_X0 (lw27 hB) (j := 0) (by decide) wf_X0_11 dX0_numberAt_72 (x := .ref (ad 28)) rfl ?_
      refine r_iconst (pc := 75) cx dX0_numberAt_75 ?_
      refine r_true (C := (0 : Int) ≤ 1 ∧ (1 : Int) < 4) (hC := instDecidableAnd) (by decide) ?_
      refine r_aaload2 (pc := 76) cx (lw28 hB) rfl (by decide) dX0_numberAt_76 (fun _ => ?_)
      refine r_iload_n (pc := 77) cx dX0_numberAt_77 rfl ?_
      refine r_iaload (pc := 78) cx (lw31 hB) rfl (by decide) dX0_numberAt_78 ?_
      refine r_aload_n (pc := 79) cx dX0_numberAt_79 rfl ?_
      refine r_get (pc := 80) cx hcl_X0 qc_X0 (lw27 hB) (j := 0) (by decide) wf_X0_11 dX0_numberAt_80 (x := .ref (ad 28)) rfl ?_
      refine r_iconst (pc := 83) cx dX0_numberAt_83 ?_
      refine r_true (C := (0 : Int) ≤ 3 ∧ (3 : Int) < 4) (hC := instDecidableAnd) (by decide) ?_
      refine r_aaload2 (pc := 84) cx (lw28 hB) rfl (by decide) dX0_numberAt_84 (fun _ => ?_)
      refine r_iload_n (pc := 85) cx dX0_numberAt_85 rfl ?_
      refine r_iaload (pc := 86) cx (lw33 hB) rfl (by decide) dX0_numberAt_86 ?_
      refine r_isub (pc := 87) cx dX0_numberAt_87 ?_
      exact r_ireturn (w0 := w) (fun _ _ h => h) (Nat.zero_le _) (Nat.zero_le _) cx dX0_numberAt_88 rfl
    · refine r_aload_n (pc := 51) cx dX0_numberAt_51 rfl ?_
      refine r_get (pc := 52) cx hcl_X0 qc_X0 (lw27 hB) (j := 0) (by decide) wf_X0_11 dX0_numberAt_52 (x := .ref (ad 28)) rfl ?_
      refine r_iconst (pc := 55) cx dX0_numberAt_55 ?_
      refine r_true (C := (0 : Int) ≤ 0 ∧ (0 : Int) < 4) (hC := instDecidableAnd) (by decide) ?_
      refine r_aaload2 (pc := 56) cx (lw28 hB) rfl (by decide) dX0_numberAt_56 (fun _ => ?_)
      refine r_iload_n (pc := 57) cx dX0_numberAt_57 rfl ?_
      refine r_iaload (pc := 58) cx (lw30 hB) rfl (by decide) dX0_numberAt_58 ?_
      refine r_aload_n (pc := 59) cx dX0_numberAt_59 rfl ?_
      refine r_get (pc := 60) cx hcl_X0 qc_X0 (lw27 hB) (j := 0) (by decide) wf_X0_11 dX0_numberAt_60 (x := .ref (ad 28)) rfl ?_
      refine r_iconst (pc := 63) cx dX0_numberAt_63 ?_
      refine r_true (C := (0 : Int) ≤ 2 ∧ (2 : Int) < 4) (hC := instDecidableAnd) (by decide) ?_
      refine r_aaload2 (pc := 64) cx (lw28 hB) rfl (by decide) dX0_numberAt_64 (fun _ => ?_)
      refine r_iload_n (pc := 65) cx dX0_numberAt_65 rfl ?_
      refine r_iaload (pc := 66) cx (lw32 hB) rfl (by decide) dX0_numberAt_66 ?_
      refine r_isub (pc := 67) cx dX0_numberAt_67 ?_
      refine r_goto (pc := 68) (tgt := 88) cx dX0_numberAt_68 (by decide) ?_
      exact r_ireturn (w0 := w) (fun _ _ h => h) (Nat.zero_le _) (Nat.zero_le _) cx dX0_numberAt_88 rfl
  · refine r_iload_n (pc := 41) cx dX0_numberAt_41 rfl ?_
    refine r_iload (pc := 42) cx dX0_numberAt_42 rfl ?_
    refine r_iadd (pc := 44) cx dX0_numberAt_44 ?_
    exact r_ireturn (w0 := w) (fun _ _ h => h) (Nat.zero_le _) (Nat.zero_le _) cx dX0_numberAt_45 rfl
def fX0_shiftToUpright (p0 : Int) (p1 : Int) (σ : qSt) : Option (Int × qSt) :=
  (if 0 ≤ p0 ∧ p0 < 96 then (if 0 ≤ p0 ∧ p0 < 96 then (qb (qset σ 30 p0 ((σ 30 p0) - p1)) fun (σ1 : qSt) => (if 0 ≤ p0 ∧ p0 < 96 then (if 0 ≤ p0 ∧ p0 < 96 then (qb (qset σ1 32 p0 ((σ1 32 p0) - p1)) fun (σ2 : qSt) => (if 0 ≤ p0 ∧ p0 < 96 then (if 0 ≤ p0 ∧ p0 < 96 then (qb (qset σ2 31 p0 ((σ2 31 p0) + p1)) fun (σ3 : qSt) => (if 0 ≤ p0 ∧ p0 < 96 then (if 0 ≤ p0 ∧ p0 < 96 then (qb (qset σ3 33 p0 ((σ3 33 p0) + p1)) fun (σ4 : qSt) => (some (0, σ4))) else none) else none)) else none) else none)) else none) else none)) else none) else none)
set_option maxRecDepth 100000 in
set_option maxHeartbeats 4000000 in
theorem tX0_shiftToUpright {l : Launch} {z0 : Nat} {g : qG} {w : qWd} {ad : Nat → Nat} (hB : qBC g ad w) (p0 : Int) (p1 : Int) (σ : qSt) : qCT l yX0_shiftToUpright cX0_shiftToUpright 3 none qrm0 g z0 w [.ref (ad 27), .int (qI p0), .int (qI p1)] σ (fX0_shiftToUpright p0 p1 σ) qrv := by
  refine qCT.of [(0, some (.ref (ad 27))), (1, some (.int (qI p0))), (2, some (.int (qI p1)))] (by decide +kernel) (Nat.le_of_ble_eq_true rfl) rfl ?_
  intro p e s m args below meth c cx
  unfold fX0_shiftToUpright
  refine r_aload_n (pc := 0) cx dX0_shiftToUpright_0 rfl ?_
  refine r_get (pc := 1) cx hcl_X0 qc_X0 (lw27 hB) (j := 0) (by decide) wf_X0_11 dX0_shiftToUpright_1 (x := .ref (ad 28)) rfl ?_
  refine r_iconst (pc := 4) cx dX0_shiftToUpright_4 ?_
  refine r_true (C := (0 : Int) ≤ 0 ∧ (0 : Int) < 4) (hC := instDecidableAnd) (by decide) ?_
  refine r_aaload2 (pc := 5) cx (lw28 hB) rfl (by decide) dX0_shiftToUpright_5 (fun _ => ?_)
  refine r_iload_n (pc := 6) cx dX0_shiftToUpright_6 rfl ?_
  refine r_dup2 (pc := 7) cx dX0_shiftToUpright_7 rfl rfl ?_
  refine r_iaload (pc := 8) cx (lw30 hB) rfl (by decide) dX0_shiftToUpright_8 ?_
  refine r_iload_n (pc := 9) cx dX0_shiftToUpright_9 rfl ?_
  refine r_isub (pc := 10) cx dX0_shiftToUpright_10 ?_
  refine r_iastore (pc := 11) cx (lw30 hB) rfl (by decide) dX0_shiftToUpright_11 (fun σ1 => ?_)
  refine r_aload_n (pc := 12) cx dX0_shiftToUpright_12 rfl ?_
  refine r_get (pc := 13) cx hcl_X0 qc_X0 (lw27 hB) (j := 0) (by decide) wf_X0_11 dX0_shiftToUpright_13 (x := .ref (ad 28)) rfl ?_
  refine r_iconst (pc := 16) cx dX0_shiftToUpright_16 ?_
  refine r_true (C := (0 : Int) ≤ 2 ∧ (2 : Int) < 4) (hC := instDecidableAnd) (by decide) ?_
  refine r_aaload2 (pc := 17) cx (lw28 hB) rfl (by decide) dX0_shiftToUpright_17 (fun _ => ?_)
  refine r_iload_n (pc := 18) cx dX0_shiftToUpright_18 rfl ?_
  refine r_dup2 (pc := 19) cx dX0_shiftToUpright_19 rfl rfl ?_
  refine r_iaload (pc := 20) cx (lw32 hB) rfl (by decide) dX0_shiftToUpright_20 ?_
  refine r_iload_n (pc := 21) cx dX0_shiftToUpright_21 rfl ?_
  refine r_isub (pc := 22) cx dX0_shiftToUpright_22 ?_
  refine r_iastore (pc := 23) cx (lw32 hB) rfl (by decide) dX0_shiftToUpright_23 (fun σ2 => ?_)
  refine r_aload_n (pc := 24) cx dX0_shiftToUpright_24 rfl ?_
  refine r_get (pc := 25) cx hcl_X0 qc_X0 (lw27 hB) (j := 0) (by decide) wf_X0_11 dX0_shiftToUpright_25 (x := .ref (ad 28)) rfl ?_
  refine r_iconst (pc := 28) cx dX0_shiftToUpright_28 ?_
  refine r_true (C := (0 : Int) ≤ 1 ∧ (1 : Int) < 4) (hC := instDecidableAnd) (by decide) ?_
  refine r_aaload2 (pc := 29) cx (lw28 hB) rfl (by decide) dX0_shiftToUpright_29 (fun _ => ?_)
  refine r_iload_n (pc := 30) cx dX0_shiftToUpright_30 rfl ?_
  refine r_dup2 (pc := 31) cx dX0_shiftToUpright_31 rfl rfl ?_
  refine r_iaload (pc := 32) cx (lw31 hB) rfl (by decide) dX0_shiftToUpright_32 ?_
  refine r_iload_n (pc := 33) cx dX0_shiftToUpright_33 rfl ?_
  refine r_iadd (pc := 34) cx dX0_shiftToUpright_34 ?_
  refine r_iastore (pc := 35) cx (lw31 hB) rfl (by decide) dX0_shiftToUpright_35 (fun σ3 => ?_)
  refine r_aload_n (pc := 36) cx dX0_shiftToUpright_36 rfl ?_
  refine r_get (pc := 37) cx hcl_X0 qc_X0 (lw27 hB) (j := 0) (by decide) wf_X0_11 dX0_shiftToUpright_37 (x := .ref (ad 28)) rfl ?_
  refine r_iconst (pc := 40) cx dX0_shiftToUpright_40 ?_
  refine r_true (C := (0 : Int) ≤ 3 ∧ (3 : Int) < 4) (hC := instDecidableAnd) (by decide) ?_
  refine r_aaload2 (pc := 41) cx (lw28 hB) rfl (by decide) dX0_shiftToUpright_41 (fun _ => ?_)
  refine r_iload_n (pc := 42) cx dX0_shiftToUpright_42 rfl ?_
  refine r_dup2 (pc := 43) cx dX0_shiftToUpright_43 rfl rfl ?_
  refine r_iaload (pc := 44) cx (lw33 hB) rfl (by decide) dX0_shiftToUpright_44 ?_
  refine r_iload_n (pc := 45) cx dX0_shiftToUpright_45 rfl ?_
  refine r_iadd (pc := 46) cx dX0_shiftToUpright_46 ?_
  refine r_iastore (pc := 47) cx (lw33 hB) rfl (by decide) dX0_shiftToUpright_47 (fun σ4 => ?_)
  exact r_return (w0 := w) (fun _ _ h => h) (Nat.zero_le _) (Nat.zero_le _) cx dX0_shiftToUpright_48 rfl
def fX0_evenOut (p0 : Int) (σ : qSt) : Option (Int × qSt) :=
  (if 0 ≤ p0 ∧ p0 < 96 then (if 0 ≤ p0 ∧ p0 < 96 then (qb ((σ 30 p0) + (σ 32 p0)) fun (y1 : Int) => (if 0 ≤ p0 ∧ p0 < 96 then (if 0 ≤ p0 ∧ p0 < 96 then (qb ((σ 31 p0) + (σ 33 p0)) fun (y2 : Int) => (qb (qdiv (y1 - y2) 4) fun (y3 : Int) => (if qI y3 ≤ 0 then (if 0 ≤ qI y3 then (some (0, σ)) else (if 0 ≤ p0 ∧ p0 < 96 then (if 0 ≤ p0 ∧ p0 < 96 then ((fJ9_min_7cf53 σ (σ 31 p0) (σ 33 p0)).bind fun (r105 : Int) => ((fJ9_min_7cf53 σ (-y3) r105).bind fun (r117 : Int) => (qbd (fX0_shiftToUpright p0 (-r117) σ) fun (r121 : Int) (σ4 : qSt) => (some (0, σ4))))) else none) else none)) else (if 0 ≤ p0 ∧ p0 < 96 then (if 0 ≤ p0 ∧ p0 < 96 then ((fJ9_min_7cf53 σ (σ 30 p0) (σ 32 p0)).bind fun (r64 : Int) => ((fJ9_min_7cf53 σ y3 r64).bind fun (r75 : Int) => (qbd (fX0_shiftToUpright p0 r75 σ) fun (r78 : Int) (σ5 : qSt) => (some (0, σ5))))) else none) else none)))) else none) else none)) else none) else none)
set_option maxRecDepth 100000 in
set_option maxHeartbeats 4000000 in
theorem tX0_evenOut {l : Launch} {z0 : Nat} {g : qG} {w : qWd} {ad : Nat → Nat} (hB : qBC g ad w) (p0 : Int) (σ : qSt) : qCT l yX0_evenOut cX0_evenOut 6 none qrm1 g z0 w [.ref (ad 27), .int (qI p0)] σ (fX0_evenOut p0 σ) qrv := by
  refine qCT.of [(0, some (.ref (ad 27))), (1, some (.int (qI p0)))] (by decide +kernel) (Nat.le_of_ble_eq_true rfl) rfl ?_
  intro p e s m args below meth c cx
  unfold fX0_evenOut
  refine r_aload_n (pc := 0) cx dX0_evenOut_0 rfl ?_
  refine r_get (pc := 1) cx hcl_X0 qc_X0 (lw27 hB) (j := 0) (by decide) wf_X0_11 dX0_evenOut_1 (x := .ref (ad 28)) rfl ?_
  refine r_iconst (pc := 4) cx dX0_evenOut_4 ?_
  refine r_true (C := (0 : Int) ≤ 0 ∧ (0 : Int) < 4) (hC := instDecidableAnd) (by decide) ?_
  refine r_aaload2 (pc := 5) cx (lw28 hB) rfl (by decide) dX0_evenOut_5 (fun _ => ?_)
  refine r_iload_n (pc := 6) cx dX0_evenOut_6 rfl ?_
  refine r_iaload (pc := 7) cx (lw30 hB) rfl (by decide) dX0_evenOut_7 ?_
  refine r_aload_n (pc := 8) cx dX0_evenOut_8 rfl ?_
  refine r_get (pc := 9) cx hcl_X0 qc_X0 (lw27 hB) (j := 0) (by decide) wf_X0_11 dX0_evenOut_9 (x := .ref (ad 28)) rfl ?_
  refine r_iconst (pc := 12) cx dX0_evenOut_12 ?_
  refine r_true (C := (0 : Int) ≤ 2 ∧ (2 : Int) < 4) (hC := instDecidableAnd) (by decide) ?_
  refine r_aaload2 (pc := 13) cx (lw28 hB) rfl (by decide) dX0_evenOut_13 (fun _ => ?_)
  refine r_iload_n (pc := 14) cx dX0_evenOut_14 rfl ?_
  refine r_iaload (pc := 15) cx (lw32 hB) rfl (by decide) dX0_evenOut_15 ?_
  refine r_iadd (pc := 16) cx dX0_evenOut_16 ?_
  refine r_nmi (fun y1 => ?_)
  refine r_istore_n (pc := 17) cx dX0_evenOut_17 (by decide) rfl ?_
  refine r_aload_n (pc := 18) cx dX0_evenOut_18 rfl ?_
  refine r_get (pc := 19) cx hcl_X0 qc_X0 (lw27 hB) (j := 0) (by decide) wf_X0_11 dX0_evenOut_19 (x := .ref (ad 28)) rfl ?_
  refine r_iconst (pc := 22) cx dX0_evenOut_22 ?_
  refine r_true (C := (0 : Int) ≤ 1 ∧ (1 : Int) < 4) (hC := instDecidableAnd) (by decide) ?_
  refine r_aaload2 (pc := 23) cx (lw28 hB) rfl (by decide) dX0_evenOut_23 (fun _ => ?_)
  refine r_iload_n (pc := 24) cx dX0_evenOut_24 rfl ?_
  refine r_iaload (pc := 25) cx (lw31 hB) rfl (by decide) dX0_evenOut_25 ?_
  refine r_aload_n (pc := 26) cx dX0_evenOut_26 rfl ?_
  refine r_get (pc := 27) cx hcl_X0 qc_X0 (lw27 hB) (j := 0) (by decide) wf_X0_11 dX0_evenOut_27 (x := .ref (ad 28)) rfl ?_
  refine r_iconst (pc := 30) cx dX0_evenOut_30 ?_
  refine r_true (C := (0 : Int) ≤ 3 ∧ (3 : Int) < 4) (hC := instDecidableAnd) (by decide) ?_
  refine r_aaload2 (pc := 31) cx (lw28 hB) rfl (by decide) dX0_evenOut_31 (fun _ => ?_)
  refine r_iload_n (pc := 32) cx dX0_evenOut_32 rfl ?_
  refine r_iaload (pc := 33) cx (lw33 hB) rfl (by decide) dX0_evenOut_33 ?_
  refine r_iadd (pc := 34) cx dX0_evenOut_34 ?_
  refine r_nmi (fun y2 => ?_)
  refine r_istore_n (pc := 35) cx dX0_evenOut_35 (by decide) rfl ?_
  refine r_iload_n (pc := 36) cx dX0_evenOut_36 rfl ?_
  refine r_iload_n (pc := 37) cx dX0_evenOut_37 rfl ?_
  refine r_isub (pc := 38) cx dX0_evenOut_38 ?_
  refine r_iconst (pc := 39) cx dX0_evenOut_39 ?_
  refine r_idiv (pc := 40) cx dX0_evenOut_40 (by decide +kernel) ?_
  refine r_nmi (fun y3 => ?_)
  refine r_istore (pc := 41) cx dX0_evenOut_41 (by decide) rfl ?_
  refine r_iload (pc := 43) cx dX0_evenOut_43 rfl ?_
  refine r_if_le (tgt := 84) cx dX0_evenOut_45 (by decide) ?_ ?_
  · refine r_iload (pc := 84) cx dX0_evenOut_84 rfl ?_
    refine r_if_ge (tgt := 124) cx dX0_evenOut_86 (by decide) ?_ ?_
    · exact r_return (w0 := w) (fun _ _ h => h) (Nat.zero_le _) (Nat.zero_le _) cx dX0_evenOut_124 rfl
    · refine r_aload_n (pc := 89) cx dX0_evenOut_89 rfl ?_
      refine r_get (pc := 90) cx hcl_X0 qc_X0 (lw27 hB) (j := 0) (by decide) wf_X0_11 dX0_evenOut_90 (x := .ref (ad 28)) rfl ?_
      refine r_iconst (pc := 93) cx dX0_evenOut_93 ?_
      refine r_true (C := (0 : Int) ≤ 1 ∧ (1 : Int) < 4) (hC := instDecidableAnd) (by decide) ?_
      refine r_aaload2 (pc := 94) cx (lw28 hB) rfl (by decide) dX0_evenOut_94 (fun _ => ?_)
      refine r_iload_n (pc := 95) cx dX0_evenOut_95 rfl ?_
      refine r_iaload (pc := 96) cx (lw31 hB) rfl (by decide) dX0_evenOut_96 ?_
      refine r_aload_n (pc := 97) cx dX0_evenOut_97 rfl ?_
      refine r_get (pc := 98) cx hcl_X0 qc_X0 (lw27 hB) (j := 0) (by decide) wf_X0_11 dX0_evenOut_98 (x := .ref (ad 28)) rfl ?_
      refine r_iconst (pc := 101) cx dX0_evenOut_101 ?_
      refine r_true (C := (0 : Int) ≤ 3 ∧ (3 : Int) < 4) (hC := instDecidableAnd) (by decide) ?_
      refine r_aaload2 (pc := 102) cx (lw28 hB) rfl (by decide) dX0_evenOut_102 (fun _ => ?_)
      refine r_iload_n (pc := 103) cx dX0_evenOut_103 rfl ?_
      refine r_iaload (pc := 104) cx (lw33 hB) rfl (by decide) dX0_evenOut_104 ?_
      refine r_pSi (pc := 105) cx (tJ9_min_7cf53  (σ 31 p0) (σ 33 p0) σ) qm_J9_min_7cf53 qs_J9_min_7cf53 wm_X0_43 dX0_evenOut_105 rfl rfl (Nat.le_of_ble_eq_true rfl) ⟨Nat.le_of_ble_eq_true rfl, Nat.le_of_ble_eq_true rfl⟩ ⟨rfl, rfl⟩ ⟨Nat.zero_le _, Nat.zero_le _⟩ (fun r105 => ?_)
      refine r_istore (pc := 108) cx dX0_evenOut_108 (by decide) rfl ?_
      refine r_aload_n (pc := 110) cx dX0_evenOut_110 rfl ?_
      refine r_iload_n (pc := 111) cx dX0_evenOut_111 rfl ?_
      refine r_iload (pc := 112) cx dX0_evenOut_112 rfl ?_
      refine r_ineg (pc := 114) cx dX0_evenOut_114 ?_
      refine r_iload (pc := 115) cx dX0_evenOut_115 rfl ?_
      refine r_pSi (pc := 117) cx (tJ9_min_7cf53  (-y3) r105 σ) qm_J9_min_7cf53 qs_J9_min_7cf53 wm_X0_43 dX0_evenOut_117 rfl rfl (Nat.le_of_ble_eq_true rfl) ⟨Nat.le_of_ble_eq_true rfl, Nat.le_of_ble_eq_true rfl⟩ ⟨rfl, rfl⟩ ⟨Nat.zero_le _, Nat.zero_le _⟩ (fun r117 => ?_)
      refine r_ineg (pc := 120) cx dX0_evenOut_120 ?_
      refine r_dVv (pc := 121) cx (tX0_shiftToUpright hB p0 (-r117) σ) qm_X0_shiftToUpright qv_X0_shiftToUpright hcl_X0 (lw27 hB) wm_X0_49 dX0_evenOut_121 rfl rfl (Nat.le_of_ble_eq_true rfl) ⟨Nat.le_of_ble_eq_true rfl, Nat.le_of_ble_eq_true rfl⟩ ⟨rfl, rfl⟩ ⟨Nat.zero_le _, Nat.zero_le _⟩ (fun r121 σ4 => ?_)
      exact r_return (w0 := w) (fun _ _ h => h) (Nat.zero_le _) (Nat.zero_le _) cx dX0_evenOut_124 rfl
  · refine r_aload_n (pc := 48) cx dX0_evenOut_48 rfl ?_
    refine r_get (pc := 49) cx hcl_X0 qc_X0 (lw27 hB) (j := 0) (by decide) wf_X0_11 dX0_evenOut_49 (x := .ref (ad 28)) rfl ?_
    refine r_iconst (pc := 52) cx dX0_evenOut_52 ?_
    refine r_true (C := (0 : Int) ≤ 0 ∧ (0 : Int) < 4) (hC := instDecidableAnd) (by decide) ?_
    refine r_aaload2 (pc := 53) cx (lw28 hB) rfl (by decide) dX0_evenOut_53 (fun _ => ?_)
    refine r_iload_n (pc := 54) cx dX0_evenOut_54 rfl ?_
    refine r_iaload (pc := 55) cx (lw30 hB) rfl (by decide) dX0_evenOut_55 ?_
    refine r_aload_n (pc := 56) cx dX0_evenOut_56 rfl ?_
    refine r_get (pc := 57) cx hcl_X0 qc_X0 (lw27 hB) (j := 0) (by decide) wf_X0_11 dX0_evenOut_57 (x := .ref (ad 28)) rfl ?_
    refine r_iconst (pc := 60) cx dX0_evenOut_60 ?_
    refine r_true (C := (0 : Int) ≤ 2 ∧ (2 : Int) < 4) (hC := instDecidableAnd) (by decide) ?_
    refine r_aaload2 (pc := 61) cx (lw28 hB) rfl (by decide) dX0_evenOut_61 (fun _ => ?_)
    refine r_iload_n (pc := 62) cx dX0_evenOut_62 rfl ?_
    refine r_iaload (pc := 63) cx (lw32 hB) rfl (by decide) dX0_evenOut_63 ?_
    refine r_pSi (pc := 64) cx (tJ9_min_7cf53  (σ 30 p0) (σ 32 p0) σ) qm_J9_min_7cf53 qs_J9_min_7cf53 wm_X0_43 dX0_evenOut_64 rfl rfl (Nat.le_of_ble_eq_true rfl) ⟨Nat.le_of_ble_eq_true rfl, Nat.le_of_ble_eq_true rfl⟩ ⟨rfl, rfl⟩ ⟨Nat.zero_le _, Nat.zero_le _⟩ (fun r64 => ?_)
    refine r_istore (pc := 67) cx dX0_evenOut_67 (by decide) rfl ?_
    refine r_aload_n (pc := 69) cx dX0_evenOut_69 rfl ?_
    refine r_iload_n (pc := 70) cx dX0_evenOut_70 rfl ?_
    refine r_iload (pc := 71) cx dX0_evenOut_71 rfl ?_
    refine r_iload (pc := 73) cx dX0_evenOut_73 rfl ?_
    refine r_pSi (pc := 75) cx (tJ9_min_7cf53  y3 r64 σ) qm_J9_min_7cf53 qs_J9_min_7cf53 wm_X0_43 dX0_evenOut_75 rfl rfl (Nat.le_of_ble_eq_true rfl) ⟨Nat.le_of_ble_eq_true rfl, Nat.le_of_ble_eq_true rfl⟩ ⟨rfl, rfl⟩ ⟨Nat.zero_le _, Nat.zero_le _⟩ (fun r75 => ?_)
    refine r_dVv (pc := 78) cx (tX0_shiftToUpright hB p0 r75 σ) qm_X0_shiftToUpright qv_X0_shiftToUpright hcl_X0 (lw27 hB) wm_X0_49 dX0_evenOut_78 rfl rfl (Nat.le_of_ble_eq_true rfl) ⟨Nat.le_of_ble_eq_true rfl, Nat.le_of_ble_eq_true rfl⟩ ⟨rfl, rfl⟩ ⟨Nat.zero_le _, Nat.zero_le _⟩ (fun r78 σ5 => ?_)
    refine r_goto (pc := 81) (tgt := 124) cx dX0_evenOut_81 (by decide) ?_
    exact r_return (w0 := w) (fun _ _ h => h) (Nat.zero_le _) (Nat.zero_le _) cx dX0_evenOut_124 rfl
def fX0_moveAll_c69 (k2 : Int → Int → qSt → Option (Int × qSt)) (x2 : Int) (x3 : Int) (σ : qSt) : Option (Int × qSt) :=
  (k2 x2 (x3 + 1) σ)
set_option maxRecDepth 100000 in
set_option maxHeartbeats 4000000 in
theorem tX0_moveAll_c69 {p : Program} {l : Launch} {e : Env} {s : State} {m : MethodId} {args : Array Value} {below : List Frame} {meth : Method} {c : Code} {z0 : Nat} {g : qG} {w : qWd} {ad : Nat → Nat} (cx : qCx p s m meth c cX0_moveAll 5 RX0 none g z0) (hB : qBC g ad w) {k2 : Int → Int → qSt → Option (Int × qSt)} (hk2 : ∀ (x2 : Int) (x3 : Int) (σ : qSt), qS p l e qrm2 s m args below meth c 5 g z0 w 0 0 (qQ below g z0 w qrv args s 0 0) (k2 x2 x3 σ) σ 2 [(0, some (.ref (ad 27))), (1, some (.ref (ad 1))), (2, some (.int (qI x2))), (3, some (.int (qI x3)))] []) (x2 : Int) (x3 : Int) (σ : qSt) : qS p l e qrm2 s m args below meth c 5 g z0 w 0 0 (qQ below g z0 w qrv args s 0 0) (fX0_moveAll_c69 k2 x2 x3 σ) σ 69 [(0, some (.ref (ad 27))), (1, some (.ref (ad 1))), (2, some (.int (qI x2))), (3, some (.int (qI x3)))] [] := by
  unfold fX0_moveAll_c69
  refine r_iinc (pc := 69) cx dX0_moveAll_69 rfl (by decide) rfl ?_
  refine r_goto (pc := 72) (tgt := 2) cx dX0_moveAll_72 (by decide) ?_
  exact qS.sub (qsub_cons rfl (qsub_cons rfl (qsub_cons rfl (qsub_cons rfl (qsub_nil _))))) (hk2 _ _ _)
def fX0_moveAll_c2 : Nat → Int → Int → qSt → Option (Int × qSt)
  | 0, _, _, _ => none
  | f + 1, x2, x3, σ => (if qI 96 ≤ qI x3 then (some (0, σ)) else ((fX5_beside σ x3 x2).bind fun (r10 : Int) => ((fX3_isShut 1 σ r10).bind fun (r18 : Int) => (if qI r18 = 0 then (if 0 ≤ x2 ∧ x2 < 4 then (if 0 ≤ r10 ∧ r10 < 96 then (if 0 ≤ x2 ∧ x2 < 4 then (if 0 ≤ x3 ∧ x3 < 96 then (if 0 ≤ r10 ∧ r10 < 96 then (qb (qset σ (34 + Int.toNat x2) r10 ((σ (34 + Int.toNat x2) r10) + (σ (30 + Int.toNat x2) x3))) fun (σ1 : qSt) => (fX0_moveAll_c69 (fX0_moveAll_c2 f) x2 x3 σ1)) else none) else none) else none) else none) else none) else ((fX5_opposite σ x2).bind fun (r29 : Int) => (if 0 ≤ r29 ∧ r29 < 4 then (if 0 ≤ x3 ∧ x3 < 96 then (if 0 ≤ x2 ∧ x2 < 4 then (if 0 ≤ x3 ∧ x3 < 96 then (if 0 ≤ x3 ∧ x3 < 96 then (qb (qset σ (34 + Int.toNat r29) x3 ((σ (34 + Int.toNat r29) x3) + (σ (30 + Int.toNat x2) x3))) fun (σ2 : qSt) => (fX0_moveAll_c69 (fX0_moveAll_c2 f) x2 x3 σ2)) else none) else none) else none) else none) else none))))))
set_option maxRecDepth 100000 in
set_option maxHeartbeats 4000000 in
theorem tX0_moveAll_c2 {p : Program} {l : Launch} {e : Env} {s : State} {m : MethodId} {args : Array Value} {below : List Frame} {meth : Method} {c : Code} {z0 : Nat} {g : qG} {w : qWd} {ad : Nat → Nat} (cx : qCx p s m meth c cX0_moveAll 5 RX0 none g z0) (hB : qBC g ad w) : ∀ (f : Nat) (x2 : Int) (x3 : Int) (σ : qSt), qS p l e qrm2 s m args below meth c 5 g z0 w 0 0 (qQ below g z0 w qrv args s 0 0) (fX0_moveAll_c2 f x2 x3 σ) σ 2 [(0, some (.ref (ad 27))), (1, some (.ref (ad 1))), (2, some (.int (qI x2))), (3, some (.int (qI x3)))] [] := by
  intro f
  induction f with
  | zero => exact fun _ _ _ => qS.fail
  | succ f ih =>
    intro x2 x3 σ
    unfold fX0_moveAll_c2
    refine r_iload_n (pc := 2) cx dX0_moveAll_2 rfl ?_
    refine r_bipush (pc := 3) (v := 96) cx dX0_moveAll_3 (by decide +kernel) ?_
    refine r_icmp_ge (tgt := 75) cx dX0_moveAll_5 (by decide) ?_ ?_
    · exact r_return (w0 := w) (fun _ _ h => h) (Nat.zero_le _) (Nat.zero_le _) cx dX0_moveAll_75 rfl
    · refine r_iload_n (pc := 8) cx dX0_moveAll_8 rfl ?_
      refine r_iload_n (pc := 9) cx dX0_moveAll_9 rfl ?_
      refine r_pSNi (pc := 10) cx (tX5_beside  x3 x2 σ) qm_X5_beside qs_X5_beside wn_X0_53 dX0_moveAll_10 rfl rfl (Nat.le_of_ble_eq_true rfl) ⟨Nat.le_of_ble_eq_true rfl, Nat.le_of_ble_eq_true rfl⟩ ⟨rfl, rfl⟩ ⟨Nat.zero_le _, Nat.zero_le _⟩ (fun r10 => ?_)
      refine r_istore (pc := 13) cx dX0_moveAll_13 (by decide) rfl ?_
      refine r_aload_n (pc := 15) cx dX0_moveAll_15 rfl ?_
      refine r_iload (pc := 16) cx dX0_moveAll_16 rfl ?_
      refine r_pVNi (pc := 18) cx (tX3_isShut hB (Or.inl rfl) r10 σ) qm_X3_isShut qv_X3_isShut hcl_X3 (lw1 hB) wn_X0_56 dX0_moveAll_18 rfl rfl (Nat.le_of_ble_eq_true rfl) ⟨Nat.le_of_ble_eq_true rfl, Nat.le_of_ble_eq_true rfl⟩ ⟨rfl, rfl⟩ ⟨Nat.zero_le _, Nat.zero_le _⟩ (fun r18 => ?_)
      refine r_if_eq (tgt := 49) cx dX0_moveAll_21 (by decide) ?_ ?_
      · refine r_aload_n (pc := 49) cx dX0_moveAll_49 rfl ?_
        refine r_get (pc := 50) cx hcl_X0 qc_X0 (lw27 hB) (j := 1) (by decide) wf_X0_16 dX0_moveAll_50 (x := .ref (ad 29)) rfl ?_
        refine r_iload_n (pc := 53) cx dX0_moveAll_53 rfl ?_
        refine r_aaload2 (pc := 54) cx (lw29 hB) rfl (by decide) dX0_moveAll_54 (fun h54 => ?_)
        refine r_iload (pc := 55) cx dX0_moveAll_55 rfl ?_
        refine r_dup2 (pc := 57) cx dX0_moveAll_57 rfl rfl ?_
        refine r_iaload (pc := 58) cx (lw_moved hB h54) rfl (by decide) dX0_moveAll_58 ?_
        refine r_aload_n (pc := 59) cx dX0_moveAll_59 rfl ?_
        refine r_get (pc := 60) cx hcl_X0 qc_X0 (lw27 hB) (j := 0) (by decide) wf_X0_11 dX0_moveAll_60 (x := .ref (ad 28)) rfl ?_
        refine r_iload_n (pc := 63) cx dX0_moveAll_63 rfl ?_
        refine r_aaload2 (pc := 64) cx (lw28 hB) rfl (by decide) dX0_moveAll_64 (fun h64 => ?_)
        refine r_iload_n (pc := 65) cx dX0_moveAll_65 rfl ?_
        refine r_iaload (pc := 66) cx (lw_rows hB h64) rfl (by decide) dX0_moveAll_66 ?_
        refine r_iadd (pc := 67) cx dX0_moveAll_67 ?_
        refine r_iastore (pc := 68) cx (lw_moved hB h54) rfl (by decide) dX0_moveAll_68 (fun σ1 => ?_)
        exact qS.sub (qsub_cons rfl (qsub_cons rfl (qsub_cons rfl (qsub_cons rfl (qsub_nil _))))) (tX0_moveAll_c69 cx hB ih _ _ _)
      · refine r_aload_n (pc := 24) cx dX0_moveAll_24 rfl ?_
        refine r_get (pc := 25) cx hcl_X0 qc_X0 (lw27 hB) (j := 1) (by decide) wf_X0_16 dX0_moveAll_25 (x := .ref (ad 29)) rfl ?_
        refine r_iload_n (pc := 28) cx dX0_moveAll_28 rfl ?_
        refine r_pSNi (pc := 29) cx (tX5_opposite  x2 σ) qm_X5_opposite qs_X5_opposite wn_X0_62 dX0_moveAll_29 rfl rfl (Nat.le_of_ble_eq_true rfl) ⟨Nat.le_of_ble_eq_true rfl, Nat.le_of_ble_eq_true rfl⟩ ⟨rfl, rfl⟩ ⟨Nat.zero_le _, Nat.zero_le _⟩ (fun r29 => ?_)
        refine r_aaload2 (pc := 32) cx (lw29 hB) rfl (by decide) dX0_moveAll_32 (fun h32 => ?_)
        refine r_iload_n (pc := 33) cx dX0_moveAll_33 rfl ?_
        refine r_dup2 (pc := 34) cx dX0_moveAll_34 rfl rfl ?_
        refine r_iaload (pc := 35) cx (lw_moved hB h32) rfl (by decide) dX0_moveAll_35 ?_
        refine r_aload_n (pc := 36) cx dX0_moveAll_36 rfl ?_
        refine r_get (pc := 37) cx hcl_X0 qc_X0 (lw27 hB) (j := 0) (by decide) wf_X0_11 dX0_moveAll_37 (x := .ref (ad 28)) rfl ?_
        refine r_iload_n (pc := 40) cx dX0_moveAll_40 rfl ?_
        refine r_aaload2 (pc := 41) cx (lw28 hB) rfl (by decide) dX0_moveAll_41 (fun h41 => ?_)
        refine r_iload_n (pc := 42) cx dX0_moveAll_42 rfl ?_
        refine r_iaload (pc := 43) cx (lw_rows hB h41) rfl (by decide) dX0_moveAll_43 ?_
        refine r_iadd (pc := 44) cx dX0_moveAll_44 ?_
        refine r_iastore (pc := 45) cx (lw_moved hB h32) rfl (by decide) dX0_moveAll_45 (fun σ2 => ?_)
        refine r_goto (pc := 46) (tgt := 69) cx dX0_moveAll_46 (by decide) ?_
        exact qS.sub (qsub_cons rfl (qsub_cons rfl (qsub_cons rfl (qsub_cons rfl (qsub_nil _))))) (tX0_moveAll_c69 cx hB ih _ _ _)
def fX0_moveAll (p1 : Int) (σ : qSt) : Option (Int × qSt) :=
  (fX0_moveAll_c2 qFU p1 0 σ)
set_option maxRecDepth 100000 in
set_option maxHeartbeats 4000000 in
theorem tX0_moveAll {l : Launch} {z0 : Nat} {g : qG} {w : qWd} {ad : Nat → Nat} (hB : qBC g ad w) (p1 : Int) (σ : qSt) : qCT l yX0_moveAll cX0_moveAll 5 none qrm2 g z0 w [.ref (ad 27), .ref (ad 1), .int (qI p1)] σ (fX0_moveAll p1 σ) qrv := by
  refine qCT.of [(0, some (.ref (ad 27))), (1, some (.ref (ad 1))), (2, some (.int (qI p1)))] (by decide +kernel) (Nat.le_of_ble_eq_true rfl) rfl ?_
  intro p e s m args below meth c cx
  unfold fX0_moveAll
  refine r_iconst (pc := 0) cx dX0_moveAll_0 ?_
  refine r_istore_n (pc := 1) cx dX0_moveAll_1 (by decide) rfl ?_
  exact qS.sub (qsub_cons rfl (qsub_cons rfl (qsub_cons rfl (qsub_cons rfl (qsub_nil _))))) (tX0_moveAll_c2 cx hB _ _ _ _)
def fX0_passRound_c40 : Nat → Int → qSt → Option (Int × qSt)
  | 0, _, _ => none
  | f + 1, x2, σ => (if qI 4 ≤ qI x2 then (qb (qset σ 27 3 ((σ 27 3) + 1)) fun (σ3 : qSt) => (some (0, σ3))) else (if 0 ≤ x2 ∧ x2 < 4 then (if 0 ≤ x2 ∧ x2 < 4 then (qb (qrow σ (30 + Int.toNat x2) (fun i' => if 0 ≤ i' ∧ i' < 96 then σ (34 + Int.toNat x2) i' else σ (30 + Int.toNat x2) i')) fun (σ4 : qSt) => (if 0 ≤ x2 ∧ x2 < 4 then (qbd (fJ7_fill_53178 (34 + Int.toNat x2) 0 σ4) fun (r71 : Int) (σ5 : qSt) => (fX0_passRound_c40 f (x2 + 1) σ5)) else none)) else none) else none))
set_option maxRecDepth 100000 in
set_option maxHeartbeats 4000000 in
theorem tX0_passRound_c40 {p : Program} {l : Launch} {e : Env} {s : State} {m : MethodId} {args : Array Value} {below : List Frame} {meth : Method} {c : Code} {z0 : Nat} {g : qG} {w : qWd} {ad : Nat → Nat} (cx : qCx p s m meth c cX0_passRound 3 RX0 none g z0) (hB : qBC g ad w) : ∀ (f : Nat) (x2 : Int) (σ : qSt), qS p l e qrm3 s m args below meth c 3 g z0 w 0 0 (qQ below g z0 w qrv args s 0 0) (fX0_passRound_c40 f x2 σ) σ 40 [(0, some (.ref (ad 27))), (2, some (.int (qI x2)))] [] := by
  intro f
  induction f with
  | zero => exact fun _ _ => qS.fail
  | succ f ih =>
    intro x2 σ
    unfold fX0_passRound_c40
    refine r_iload_n (pc := 40) cx dX0_passRound_40 rfl ?_
    refine r_iconst (pc := 41) cx dX0_passRound_41 ?_
    refine r_icmp_ge (tgt := 80) cx dX0_passRound_42 (by decide) ?_ ?_
    · refine r_aload_n (pc := 80) cx dX0_passRound_80 rfl ?_
      refine r_dup (pc := 81) cx dX0_passRound_81 rfl ?_
      refine r_get (pc := 82) cx hcl_X0 qc_X0 (lw27 hB) (j := 3) (by decide) wf_X0_39 dX0_passRound_82 (x := .long (qJ (σ 27 3))) rfl ?_
      refine r_lconst (pc := 85) (z := 1) cx dX0_passRound_85 (by decide +kernel) ?_
      refine r_ladd (pc := 86) cx dX0_passRound_86 ?_
      refine r_putl (pc := 87) (J := 3) cx hcl_X0 qc_X0 (lw27 hB) (j := 3) (by decide) tyX0_ok nmX0 wf_X0_39 rfl (by decide +kernel) rfl (Nat.le_of_ble_eq_true rfl) (fun r => rfl) dX0_passRound_87 (fun σ3 => ?_)
      exact r_return (w0 := w) (fun _ _ h => h) (Nat.zero_le _) (Nat.zero_le _) cx dX0_passRound_90 rfl
    · refine r_aload_n (pc := 45) cx dX0_passRound_45 rfl ?_
      refine r_get (pc := 46) cx hcl_X0 qc_X0 (lw27 hB) (j := 1) (by decide) wf_X0_16 dX0_passRound_46 (x := .ref (ad 29)) rfl ?_
      refine r_iload_n (pc := 49) cx dX0_passRound_49 rfl ?_
      refine r_aaload2 (pc := 50) cx (lw29 hB) rfl (by decide) dX0_passRound_50 (fun h50 => ?_)
      refine r_iconst (pc := 51) cx dX0_passRound_51 ?_
      refine r_aload_n (pc := 52) cx dX0_passRound_52 rfl ?_
      refine r_get (pc := 53) cx hcl_X0 qc_X0 (lw27 hB) (j := 0) (by decide) wf_X0_11 dX0_passRound_53 (x := .ref (ad 28)) rfl ?_
      refine r_iload_n (pc := 56) cx dX0_passRound_56 rfl ?_
      refine r_aaload2 (pc := 57) cx (lw28 hB) rfl (by decide) dX0_passRound_57 (fun h57 => ?_)
      refine r_iconst (pc := 58) cx dX0_passRound_58 ?_
      refine r_bipush (pc := 59) (v := 96) cx dX0_passRound_59 (by decide +kernel) ?_
      refine r_copy (pc := 61) cx (lw_moved hB h50) (lw_rows hB h57) (len := 96) (by decide) wm_X0_27 wnat wnats wnati (Nat.le_of_ble_eq_true rfl) (by decide +kernel) dX0_passRound_61 (fun σ4 => ?_)
      refine r_aload_n (pc := 64) cx dX0_passRound_64 rfl ?_
      refine r_get (pc := 65) cx hcl_X0 qc_X0 (lw27 hB) (j := 1) (by decide) wf_X0_16 dX0_passRound_65 (x := .ref (ad 29)) rfl ?_
      refine r_iload_n (pc := 68) cx dX0_passRound_68 rfl ?_
      refine r_aaload2 (pc := 69) cx (lw29 hB) rfl (by decide) dX0_passRound_69 (fun h69 => ?_)
      refine r_iconst (pc := 70) cx dX0_passRound_70 ?_
      refine r_dSv (pc := 71) cx (tJ7_fill_53178 (lw_moved hB h69) 0 σ4) qm_J7_fill_53178 qs_J7_fill_53178 wm_X0_33 dX0_passRound_71 rfl rfl (Nat.le_of_ble_eq_true rfl) ⟨Nat.le_of_ble_eq_true rfl, Nat.le_of_ble_eq_true rfl⟩ ⟨rfl, rfl⟩ ⟨Nat.zero_le _, Nat.zero_le _⟩ (fun r71 σ5 => ?_)
      refine r_iinc (pc := 74) cx dX0_passRound_74 rfl (by decide) rfl ?_
      refine r_goto (pc := 77) (tgt := 40) cx dX0_passRound_77 (by decide) ?_
      exact qS.sub (qsub_cons rfl (qsub_cons rfl (qsub_nil _))) (ih _ _)
def fX0_passRound_c21 : Nat → Int → qSt → Option (Int × qSt)
  | 0, _, _ => none
  | f + 1, x2, σ => (if qI 4 ≤ qI x2 then (fX0_passRound_c40 qFU 0 σ) else (qbd (fX0_moveAll x2 σ) fun (r29 : Int) (σ2 : qSt) => (fX0_passRound_c21 f (x2 + 1) σ2)))
set_option maxRecDepth 100000 in
set_option maxHeartbeats 4000000 in
theorem tX0_passRound_c21 {p : Program} {l : Launch} {e : Env} {s : State} {m : MethodId} {args : Array Value} {below : List Frame} {meth : Method} {c : Code} {z0 : Nat} {g : qG} {w : qWd} {ad : Nat → Nat} (cx : qCx p s m meth c cX0_passRound 3 RX0 none g z0) (hB : qBC g ad w) : ∀ (f : Nat) (x2 : Int) (σ : qSt), qS p l e qrm3 s m args below meth c 3 g z0 w 0 0 (qQ below g z0 w qrv args s 0 0) (fX0_passRound_c21 f x2 σ) σ 21 [(0, some (.ref (ad 27))), (1, some (.ref (ad 1))), (2, some (.int (qI x2)))] [] := by
  intro f
  induction f with
  | zero => exact fun _ _ => qS.fail
  | succ f ih =>
    intro x2 σ
    unfold fX0_passRound_c21
    refine r_iload_n (pc := 21) cx dX0_passRound_21 rfl ?_
    refine r_iconst (pc := 22) cx dX0_passRound_22 ?_
    refine r_icmp_ge (tgt := 38) cx dX0_passRound_23 (by decide) ?_ ?_
    · refine r_iconst (pc := 38) cx dX0_passRound_38 ?_
      refine r_istore_n (pc := 39) cx dX0_passRound_39 (by decide) rfl ?_
      exact qS.sub (qsub_cons rfl (qsub_cons rfl (qsub_nil _))) (tX0_passRound_c40 cx hB _ _ _)
    · refine r_aload_n (pc := 26) cx dX0_passRound_26 rfl ?_
      refine r_aload_n (pc := 27) cx dX0_passRound_27 rfl ?_
      refine r_iload_n (pc := 28) cx dX0_passRound_28 rfl ?_
      refine r_dVv (pc := 29) cx (tX0_moveAll hB x2 σ) qm_X0_moveAll qv_X0_moveAll hcl_X0 (lw27 hB) wm_X0_23 dX0_passRound_29 rfl rfl (Nat.le_of_ble_eq_true rfl) ⟨Nat.le_of_ble_eq_true rfl, Nat.le_of_ble_eq_true rfl⟩ ⟨rfl, rfl⟩ ⟨Nat.zero_le _, Nat.zero_le _⟩ (fun r29 σ2 => ?_)
      refine r_iinc (pc := 32) cx dX0_passRound_32 rfl (by decide) rfl ?_
      refine r_goto (pc := 35) (tgt := 21) cx dX0_passRound_35 (by decide) ?_
      exact qS.sub (qsub_cons rfl (qsub_cons rfl (qsub_cons rfl (qsub_nil _)))) (ih _ _)
def fX0_passRound_c2 : Nat → Int → qSt → Option (Int × qSt)
  | 0, _, _ => none
  | f + 1, x2, σ => (if qI 96 ≤ qI x2 then (fX0_passRound_c21 qFU 0 σ) else (qbd (fX0_evenOut x2 σ) fun (r10 : Int) (σ1 : qSt) => (fX0_passRound_c2 f (x2 + 1) σ1)))
set_option maxRecDepth 100000 in
set_option maxHeartbeats 4000000 in
theorem tX0_passRound_c2 {p : Program} {l : Launch} {e : Env} {s : State} {m : MethodId} {args : Array Value} {below : List Frame} {meth : Method} {c : Code} {z0 : Nat} {g : qG} {w : qWd} {ad : Nat → Nat} (cx : qCx p s m meth c cX0_passRound 3 RX0 none g z0) (hB : qBC g ad w) : ∀ (f : Nat) (x2 : Int) (σ : qSt), qS p l e qrm3 s m args below meth c 3 g z0 w 0 0 (qQ below g z0 w qrv args s 0 0) (fX0_passRound_c2 f x2 σ) σ 2 [(0, some (.ref (ad 27))), (1, some (.ref (ad 1))), (2, some (.int (qI x2)))] [] := by
  intro f
  induction f with
  | zero => exact fun _ _ => qS.fail
  | succ f ih =>
    intro x2 σ
    unfold fX0_passRound_c2
    refine r_iload_n (pc := 2) cx dX0_passRound_2 rfl ?_
    refine r_bipush (pc := 3) (v := 96) cx dX0_passRound_3 (by decide +kernel) ?_
    refine r_icmp_ge (tgt := 19) cx dX0_passRound_5 (by decide) ?_ ?_
    · refine r_iconst (pc := 19) cx dX0_passRound_19 ?_
      refine r_istore_n (pc := 20) cx dX0_passRound_20 (by decide) rfl ?_
      exact qS.sub (qsub_cons rfl (qsub_cons rfl (qsub_cons rfl (qsub_nil _)))) (tX0_passRound_c21 cx hB _ _ _)
    · refine r_aload_n (pc := 8) cx dX0_passRound_8 rfl ?_
      refine r_iload_n (pc := 9) cx dX0_passRound_9 rfl ?_
      refine r_dVv (pc := 10) cx (tX0_evenOut hB x2 σ) qm_X0_evenOut qv_X0_evenOut hcl_X0 (lw27 hB) wm_X0_19 dX0_passRound_10 rfl rfl (Nat.le_of_ble_eq_true rfl) ⟨Nat.le_of_ble_eq_true rfl, Nat.le_of_ble_eq_true rfl⟩ ⟨rfl, rfl⟩ ⟨Nat.zero_le _, Nat.zero_le _⟩ (fun r10 σ1 => ?_)
      refine r_iinc (pc := 13) cx dX0_passRound_13 rfl (by decide) rfl ?_
      refine r_goto (pc := 16) (tgt := 2) cx dX0_passRound_16 (by decide) ?_
      exact qS.sub (qsub_cons rfl (qsub_cons rfl (qsub_cons rfl (qsub_nil _)))) (ih _ _)
def fX0_passRound (σ : qSt) : Option (Int × qSt) :=
  (fX0_passRound_c2 qFU 0 σ)
set_option maxRecDepth 100000 in
set_option maxHeartbeats 4000000 in
theorem tX0_passRound {l : Launch} {z0 : Nat} {g : qG} {w : qWd} {ad : Nat → Nat} (hB : qBC g ad w) (σ : qSt) : qCT l yX0_passRound cX0_passRound 3 none qrm3 g z0 w [.ref (ad 27), .ref (ad 1)] σ (fX0_passRound σ) qrv := by
  refine qCT.of [(0, some (.ref (ad 27))), (1, some (.ref (ad 1)))] (by decide +kernel) (Nat.le_of_ble_eq_true rfl) rfl ?_
  intro p e s m args below meth c cx
  unfold fX0_passRound
  refine r_iconst (pc := 0) cx dX0_passRound_0 ?_
  refine r_istore_n (pc := 1) cx dX0_passRound_1 (by decide) rfl ?_
  exact qS.sub (qsub_cons rfl (qsub_cons rfl (qsub_cons rfl (qsub_nil _)))) (tX0_passRound_c2 cx hB _ _ _)
