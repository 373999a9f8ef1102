def fX1_setInto (p0 : Int) (σ : qSt) : Option (Int × qSt) :=
  (if qI (σ 38 3) < qI 4 then (if 0 ≤ (σ 38 3) ∧ (σ 38 3) < 4 then (qb (qset σ 39 (σ 38 3) p0) fun (σ1 : qSt) => (qb (qset σ1 38 3 ((σ1 38 3) + 1)) fun (σ2 : qSt) => (some (((σ2 38 3) - 1), σ2)))) else none) else (some ((-1), σ)))
set_option maxRecDepth 100000 in
set_option maxHeartbeats 4000000 in
theorem tX1_setInto {l : Launch} {z0 : Nat} {g : qG} {w : qWd} {ad : Nat → Nat} (hB : qBC g ad w) (p0 : Int) (σ : qSt) : qCT l yX1_setInto cX1_setInto 2 (some .int) qrm0 g z0 w [.ref (ad 38), .int (qI p0)] σ (fX1_setInto p0 σ) qri := by
  refine qCT.of [(0, some (.ref (ad 38))), (1, some (.int (qI p0)))] (by decide +kernel) (Nat.le_of_ble_eq_true rfl) rfl ?_
  intro p e s m args below meth c cx
  unfold fX1_setInto
  refine r_aload_n (pc := 0) cx dX1_setInto_0 rfl ?_
  refine r_get (pc := 1) cx hcl_X1 qc_X1 (lw38 hB) (j := 3) (by decide) wf_X1_23 dX1_setInto_1 (x := .int (qI (σ 38 3))) rfl ?_
  refine r_iconst (pc := 4) cx dX1_setInto_4 ?_
  refine r_icmp_lt (tgt := 10) cx dX1_setInto_5 (by decide) ?_ ?_
  · refine r_aload_n (pc := 10) cx dX1_setInto_10 rfl ?_
    refine r_get (pc := 11) cx hcl_X1 qc_X1 (lw38 hB) (j := 0) (by decide) wf_X1_9 dX1_setInto_11 (x := .ref (ad 39)) rfl ?_
    refine r_aload_n (pc := 14) cx dX1_setInto_14 rfl ?_
    refine r_get (pc := 15) cx hcl_X1 qc_X1 (lw38 hB) (j := 3) (by decide) wf_X1_23 dX1_setInto_15 (x := .int (qI (σ 38 3))) rfl ?_
    refine r_iload_n (pc := 18) cx dX1_setInto_18 rfl ?_
    refine r_iastore (pc := 19) cx (lw39 hB) rfl (by decide) dX1_setInto_19 (fun σ1 => ?_)
    refine r_aload_n (pc := 20) cx dX1_setInto_20 rfl ?_
    refine r_dup (pc := 21) cx dX1_setInto_21 rfl ?_
    refine r_get (pc := 22) cx hcl_X1 qc_X1 (lw38 hB) (j := 3) (by decide) wf_X1_23 dX1_setInto_22 (x := .int (qI (σ1 38 3))) rfl ?_
    refine r_iconst (pc := 25) cx dX1_setInto_25 ?_
    refine r_iadd (pc := 26) cx dX1_setInto_26 ?_
    refine r_puti (pc := 27) (J := 3) cx hcl_X1 qc_X1 (lw38 hB) (j := 3) (by decide) tyX1_ok nmX1 wf_X1_23 rfl (by decide +kernel) rfl (Nat.le_of_ble_eq_true rfl) (fun r => rfl) dX1_setInto_27 (fun σ2 => ?_)
    refine r_aload_n (pc := 30) cx dX1_setInto_30 rfl ?_
    refine r_get (pc := 31) cx hcl_X1 qc_X1 (lw38 hB) (j := 3) (by decide) wf_X1_23 dX1_setInto_31 (x := .int (qI (σ2 38 3))) rfl ?_
    refine r_iconst (pc := 34) cx dX1_setInto_34 ?_
    refine r_isub (pc := 35) cx dX1_setInto_35 ?_
    exact r_ireturn (w0 := w) (fun _ _ h => h) (Nat.zero_le _) (Nat.zero_le _) cx dX1_setInto_36 rfl
  · refine r_iconst (pc := 8) cx dX1_setInto_8 ?_
    exact r_ireturn (w0 := w) (fun _ _ h => h) (Nat.zero_le _) (Nat.zero_le _) cx dX1_setInto_9 rfl
def fX1_areAt_c2 (σ : qSt) : Nat → Int → Int → Option Int
  | 0, _, _ => none
  | f + 1, x1, x2 => (if qI (σ 38 3) ≤ qI x2 then (some 0) else (if qI 4 ≤ qI x2 then (some 0) else (if 0 ≤ x2 ∧ x2 < 4 then (if qI (σ 39 x2) = qI x1 then (some 1) else (fX1_areAt_c2 σ f x1 (x2 + 1))) else none)))
set_option maxRecDepth 100000 in
set_option maxHeartbeats 4000000 in
theorem tX1_areAt_c2 {p : Program} {l : Launch} {e : Env} {s : State} {m : MethodId} {args : Array Value} {below : List Frame} {meth : Method} {c : Code} {z0 : Nat} {g : qG} {w : qWd} {ad : Nat → Nat} {σ : qSt} (cx : qCx p s m meth c cX1_areAt 3 RX1 (some .boolean) g z0) (hB : qBC g ad w) : ∀ (f : Nat) (x1 : Int) (x2 : Int), qS p l e qrm0 s m args below meth c 3 g z0 w 0 0 (fun r => qQ below g z0 w qri args s 0 0 (r, σ)) (fX1_areAt_c2 σ f x1 x2) σ 2 [(0, some (.ref (ad 38))), (1, some (.int (qI x1))), (2, some (.int (qI x2)))] [] := by
  intro f
  induction f with
  | zero => exact fun _ _ => qS.fail
  | succ f ih =>
    intro x1 x2
    unfold fX1_areAt_c2
    refine r_iload_n (pc := 2) cx dX1_areAt_2 rfl ?_
    refine r_aload_n (pc := 3) cx dX1_areAt_3 rfl ?_
    refine r_get (pc := 4) cx hcl_X1 qc_X1 (lw38 hB) (j := 3) (by decide) wf_X1_23 dX1_areAt_4 (x := .int (qI (σ 38 3))) rfl ?_
    refine r_icmp_ge (tgt := 33) cx dX1_areAt_7 (by decide) ?_ ?_
    · refine r_iconst (pc := 33) cx dX1_areAt_33 ?_
      exact r_zreturn (w0 := w) (fun _ _ h => h) (Nat.zero_le _) (Nat.zero_le _) cx (by decide +kernel) dX1_areAt_34 rfl
    · refine r_iload_n (pc := 10) cx dX1_areAt_10 rfl ?_
      refine r_iconst (pc := 11) cx dX1_areAt_11 ?_
      refine r_icmp_ge (tgt := 33) cx dX1_areAt_12 (by decide) ?_ ?_
      · refine r_iconst (pc := 33) cx dX1_areAt_33 ?_
        exact r_zreturn (w0 := w) (fun _ _ h => h) (Nat.zero_le _) (Nat.zero_le _) cx (by decide +kernel) dX1_areAt_34 rfl
      · refine r_aload_n (pc := 15) cx dX1_areAt_15 rfl ?_
        refine r_get (pc := 16) cx hcl_X1 qc_X1 (lw38 hB) (j := 0) (by decide) wf_X1_9 dX1_areAt_16 (x := .ref (ad 39)) rfl ?_
        refine r_iload_n (pc := 19) cx dX1_areAt_19 rfl ?_
        refine r_iaload (pc := 20) cx (lw39 hB) rfl (by decide) dX1_areAt_20 ?_
        refine r_iload_n (pc := 21) cx dX1_areAt_21 rfl ?_
        refine r_icmp_ne (tgt := 27) cx dX1_areAt_22 (by decide) ?_ ?_
        · refine r_iinc (pc := 27) cx dX1_areAt_27 rfl (by decide) rfl ?_
          refine r_goto (pc := 30) (tgt := 2) cx dX1_areAt_30 (by decide) ?_
          exact qS.sub (qsub_cons rfl (qsub_cons rfl (qsub_cons rfl (qsub_nil _)))) (ih _ _)
        · refine r_iconst (pc := 25) cx dX1_areAt_25 ?_
          exact r_zreturn (w0 := w) (fun _ _ h => h) (Nat.zero_le _) (Nat.zero_le _) cx (by decide +kernel) dX1_areAt_26 rfl
def fX1_areAt (σ : qSt) (p0 : Int) : Option Int :=
  (fX1_areAt_c2 σ qFU p0 0)
set_option maxRecDepth 100000 in
set_option maxHeartbeats 4000000 in
theorem tX1_areAt {l : Launch} {z0 : Nat} {g : qG} {w : qWd} {ad : Nat → Nat} (hB : qBC g ad w) (p0 : Int) (σ : qSt) : qCT l yX1_areAt cX1_areAt 3 (some .boolean) qrm0 g z0 w [.ref (ad 38), .int (qI p0)] σ (qlift (fX1_areAt σ p0) σ) qri := by
  refine qCTp.of [(0, some (.ref (ad 38))), (1, some (.int (qI p0)))] (by decide +kernel) (Nat.le_of_ble_eq_true rfl) rfl ?_
  intro p e s m args below meth c cx
  unfold fX1_areAt
  refine r_iconst (pc := 0) cx dX1_areAt_0 ?_
  refine r_istore_n (pc := 1) cx dX1_areAt_1 (by decide) rfl ?_
  exact qS.sub (qsub_cons rfl (qsub_cons rfl (qsub_cons rfl (qsub_nil _)))) (tX1_areAt_c2 cx hB _ _ _)
def fX1_recordAll_c62 (k2 : Int → qSt → Option (Int × qSt)) (x2 : Int) (σ : qSt) : Option (Int × qSt) :=
  (k2 (x2 + 1) σ)
set_option maxRecDepth 100000 in
set_option maxHeartbeats 4000000 in
theorem tX1_recordAll_c62 {p : Program} {l : Launch} {e : Env} {s : State} {m : MethodId} {args : Array Value} {below : List Frame} {meth : Method} {c : Code} {z0 : Nat} {g : qG} {w : qWd} {ad : Nat → Nat} (cx : qCx p s m meth c cX1_recordAll 3 RX1 none g z0) (hB : qBC g ad w) {k2 : Int → qSt → Option (Int × qSt)} (hk2 : ∀ (x2 : Int) (σ : qSt), qS p l e qrm2 s m args below meth c 3 g z0 w 0 0 (qQ below g z0 w qrv args s 0 0) (k2 x2 σ) σ 2 [(0, some (.ref (ad 38))), (1, some (.ref (ad 1))), (2, some (.int (qI x2)))] []) (x2 : Int) (σ : qSt) : qS p l e qrm2 s m args below meth c 3 g z0 w 0 0 (qQ below g z0 w qrv args s 0 0) (fX1_recordAll_c62 k2 x2 σ) σ 62 [(0, some (.ref (ad 38))), (1, some (.ref (ad 1))), (2, some (.int (qI x2)))] [] := by
  unfold fX1_recordAll_c62
  refine r_iinc (pc := 62) cx dX1_recordAll_62 rfl (by decide) rfl ?_
  refine r_goto (pc := 65) (tgt := 2) cx dX1_recordAll_65 (by decide) ?_
  exact qS.sub (qsub_cons rfl (qsub_cons rfl (qsub_cons rfl (qsub_nil _)))) (hk2 _ _)
def fX1_recordAll_c2 : Nat → Int → qSt → Option (Int × qSt)
  | 0, _, _ => none
  | f + 1, x2, σ => (if qI (σ 38 3) ≤ qI x2 then (some (0, σ)) else (if qI 4 ≤ qI x2 then (some (0, σ)) else (if 0 ≤ x2 ∧ x2 < 4 then (if qI 5000 ≤ qI (σ 40 x2) then (fX1_recordAll_c62 (fX1_recordAll_c2 f) x2 σ) else (if 0 ≤ x2 ∧ x2 < 4 then (if 0 ≤ x2 ∧ x2 < 4 then (if 0 ≤ x2 ∧ x2 < 4 then ((fX3_moreAt 1 σ (σ 39 x2) 1).bind fun (r47 : Int) => (if 0 ≤ (σ 40 x2) ∧ (σ 40 x2) < 5000 then (qb (qset σ (42 + Int.toNat x2) (σ 40 x2) (qi2b (qi2b r47))) fun (σ1 : qSt) => (if 0 ≤ x2 ∧ x2 < 4 then (if 0 ≤ x2 ∧ x2 < 4 then (qb (qset σ1 40 x2 ((σ1 40 x2) + 1)) fun (σ2 : qSt) => (fX1_recordAll_c62 (fX1_recordAll_c2 f) x2 σ2)) else none) else none)) else none)) else none) else none) else none)) else none)))
set_option maxRecDepth 100000 in
set_option maxHeartbeats 4000000 in
theorem tX1_recordAll_c2 {p : Program} {l : Launch} {e : Env} {s : State} {m : MethodId} {args : Array Value} {below : List Frame} {meth : Method} {c : Code} {z0 : Nat} {g : qG} {w : qWd} {ad : Nat → Nat} (cx : qCx p s m meth c cX1_recordAll 3 RX1 none g z0) (hB : qBC g ad w) : ∀ (f : Nat) (x2 : Int) (σ : qSt), qS p l e qrm2 s m args below meth c 3 g z0 w 0 0 (qQ below g z0 w qrv args s 0 0) (fX1_recordAll_c2 f x2 σ) σ 2 [(0, some (.ref (ad 38))), (1, some (.ref (ad 1))), (2, some (.int (qI x2)))] [] := by
  intro f
  induction f with
  | zero => exact fun _ _ => qS.fail
  | succ f ih =>
    intro x2 σ
    unfold fX1_recordAll_c2
    refine r_iload_n (pc := 2) cx dX1_recordAll_2 rfl ?_
    refine r_aload_n (pc := 3) cx dX1_recordAll_3 rfl ?_
    refine r_get (pc := 4) cx hcl_X1 qc_X1 (lw38 hB) (j := 3) (by decide) wf_X1_23 dX1_recordAll_4 (x := .int (qI (σ 38 3))) rfl ?_
    refine r_icmp_ge (tgt := 68) cx dX1_recordAll_7 (by decide) ?_ ?_
    · exact r_return (w0 := w) (fun _ _ h => h) (Nat.zero_le _) (Nat.zero_le _) cx dX1_recordAll_68 rfl
    · refine r_iload_n (pc := 10) cx dX1_recordAll_10 rfl ?_
      refine r_iconst (pc := 11) cx dX1_recordAll_11 ?_
      refine r_icmp_ge (tgt := 68) cx dX1_recordAll_12 (by decide) ?_ ?_
      · exact r_return (w0 := w) (fun _ _ h => h) (Nat.zero_le _) (Nat.zero_le _) cx dX1_recordAll_68 rfl
      · refine r_aload_n (pc := 15) cx dX1_recordAll_15 rfl ?_
        refine r_get (pc := 16) cx hcl_X1 qc_X1 (lw38 hB) (j := 1) (by decide) wf_X1_15 dX1_recordAll_16 (x := .ref (ad 40)) rfl ?_
        refine r_iload_n (pc := 19) cx dX1_recordAll_19 rfl ?_
        refine r_iaload (pc := 20) cx (lw40 hB) rfl (by decide) dX1_recordAll_20 ?_
        refine r_sipush (pc := 21) (v := 5000) cx dX1_recordAll_21 (by decide +kernel) ?_
        refine r_icmp_ge (tgt := 62) cx dX1_recordAll_24 (by decide) ?_ ?_
        · exact qS.sub (qsub_cons rfl (qsub_cons rfl (qsub_cons rfl (qsub_nil _)))) (tX1_recordAll_c62 cx hB ih _ _)
        · refine r_aload_n (pc := 27) cx dX1_recordAll_27 rfl ?_
          refine r_get (pc := 28) cx hcl_X1 qc_X1 (lw38 hB) (j := 2) (by decide) wf_X1_20 dX1_recordAll_28 (x := .ref (ad 41)) rfl ?_
          refine r_iload_n (pc := 31) cx dX1_recordAll_31 rfl ?_
          refine r_aaload3 (pc := 32) cx (lw41 hB) rfl (by decide) dX1_recordAll_32 (fun h32 => ?_)
          refine r_aload_n (pc := 33) cx dX1_recordAll_33 rfl ?_
          refine r_get (pc := 34) cx hcl_X1 qc_X1 (lw38 hB) (j := 1) (by decide) wf_X1_15 dX1_recordAll_34 (x := .ref (ad 40)) rfl ?_
          refine r_iload_n (pc := 37) cx dX1_recordAll_37 rfl ?_
          refine r_iaload (pc := 38) cx (lw40 hB) rfl (by decide) dX1_recordAll_38 ?_
          refine r_aload_n (pc := 39) cx dX1_recordAll_39 rfl ?_
          refine r_aload_n (pc := 40) cx dX1_recordAll_40 rfl ?_
          refine r_get (pc := 41) cx hcl_X1 qc_X1 (lw38 hB) (j := 0) (by decide) wf_X1_9 dX1_recordAll_41 (x := .ref (ad 39)) rfl ?_
          refine r_iload_n (pc := 44) cx dX1_recordAll_44 rfl ?_
          refine r_iaload (pc := 45) cx (lw39 hB) rfl (by decide) dX1_recordAll_45 ?_
          refine r_iconst (pc := 46) cx dX1_recordAll_46 ?_
          refine r_pVNi (pc := 47) cx (tX3_moreAt hB (Or.inl rfl) (σ 39 x2) 1 σ) qm_X3_moreAt qv_X3_moreAt hcl_X3 (lw1 hB) wn_X1_27 dX1_recordAll_47 rfl rfl (Nat.le_of_ble_eq_true rfl) ⟨Nat.le_of_ble_eq_true rfl, Nat.le_of_ble_eq_true rfl⟩ ⟨rfl, rfl⟩ ⟨Nat.zero_le _, Nat.zero_le _⟩ (fun r47 => ?_)
          refine r_i2b (pc := 50) cx dX1_recordAll_50 ?_
          refine r_bastore (pc := 51) cx (lw_prow hB h32) rfl (by decide) dX1_recordAll_51 (fun σ1 => ?_)
          refine r_aload_n (pc := 52) cx dX1_recordAll_52 rfl ?_
          refine r_get (pc := 53) cx hcl_X1 qc_X1 (lw38 hB) (j := 1) (by decide) wf_X1_15 dX1_recordAll_53 (x := .ref (ad 40)) rfl ?_
          refine r_iload_n (pc := 56) cx dX1_recordAll_56 rfl ?_
          refine r_dup2 (pc := 57) cx dX1_recordAll_57 rfl rfl ?_
          refine r_iaload (pc := 58) cx (lw40 hB) rfl (by decide) dX1_recordAll_58 ?_
          refine r_iconst (pc := 59) cx dX1_recordAll_59 ?_
          refine r_iadd (pc := 60) cx dX1_recordAll_60 ?_
          refine r_iastore (pc := 61) cx (lw40 hB) rfl (by decide) dX1_recordAll_61 (fun σ2 => ?_)
          exact qS.sub (qsub_cons rfl (qsub_cons rfl (qsub_cons rfl (qsub_nil _)))) (tX1_recordAll_c62 cx hB ih _ _)
def fX1_recordAll (σ : qSt) : Option (Int × qSt) :=
  (fX1_recordAll_c2 qFU 0 σ)
set_option maxRecDepth 100000 in
set_option maxHeartbeats 4000000 in
theorem tX1_recordAll {l : Launch} {z0 : Nat} {g : qG} {w : qWd} {ad : Nat → Nat} (hB : qBC g ad w) (σ : qSt) : qCT l yX1_recordAll cX1_recordAll 3 none qrm2 g z0 w [.ref (ad 38), .ref (ad 1)] σ (fX1_recordAll σ) qrv := by
  refine qCT.of [(0, some (.ref (ad 38))), (1, some (.ref (ad 1)))] (by decide +kernel) (Nat.le_of_ble_eq_true rfl) rfl ?_
  intro p e s m args below meth c cx
  unfold fX1_recordAll
  refine r_iconst (pc := 0) cx dX1_recordAll_0 ?_
  refine r_istore_n (pc := 1) cx dX1_recordAll_1 (by decide) rfl ?_
  exact qS.sub (qsub_cons rfl (qsub_cons rfl (qsub_cons rfl (qsub_nil _)))) (tX1_recordAll_c2 cx hB _ _ _)
def fX1_loseLatest_c34 (k2 : Int → qSt → Option (Int × qSt)) (x1 : Int) (σ : qSt) : Option (Int × qSt) :=
  (k2 (x1 + 1) σ)
set_option maxRecDepth 100000 in
set_option maxHeartbeats 4000000 in
theorem tX1_loseLatest_c34 {p : Program} {l : Launch} {e : Env} {s : State} {m : MethodId} {args : Array Value} {below : List Frame} {meth : Method} {c : Code} {z0 : Nat} {g : qG} {w : qWd} {ad : Nat → Nat} (cx : qCx p s m meth c cX1_loseLatest 2 RX1 none g z0) (hB : qBC g ad w) {k2 : Int → qSt → Option (Int × qSt)} (hk2 : ∀ (x1 : Int) (σ : qSt), qS p l e qrm0 s m args below meth c 2 g z0 w 0 0 (qQ below g z0 w qrv args s 0 0) (k2 x1 σ) σ 2 [(0, some (.ref (ad 38))), (1, some (.int (qI x1)))] []) (x1 : Int) (σ : qSt) : qS p l e qrm0 s m args below meth c 2 g z0 w 0 0 (qQ below g z0 w qrv args s 0 0) (fX1_loseLatest_c34 k2 x1 σ) σ 34 [(0, some (.ref (ad 38))), (1, some (.int (qI x1)))] [] := by
  unfold fX1_loseLatest_c34
  refine r_iinc (pc := 34) cx dX1_loseLatest_34 rfl (by decide) rfl ?_
  refine r_goto (pc := 37) (tgt := 2) cx dX1_loseLatest_37 (by decide) ?_
  exact qS.sub (qsub_cons rfl (qsub_cons rfl (qsub_nil _))) (hk2 _ _)
def fX1_loseLatest_c2 : Nat → Int → qSt → Option (Int × qSt)
  | 0, _, _ => none
  | f + 1, x1, σ => (if qI (σ 38 3) ≤ qI x1 then (some (0, σ)) else (if qI 4 ≤ qI x1 then (some (0, σ)) else (if 0 ≤ x1 ∧ x1 < 4 then (if qI (σ 40 x1) ≤ 0 then (fX1_loseLatest_c34 (fX1_loseLatest_c2 f) x1 σ) else (if 0 ≤ x1 ∧ x1 < 4 then (if 0 ≤ x1 ∧ x1 < 4 then (qb (qset σ 40 x1 ((σ 40 x1) - 1)) fun (σ1 : qSt) => (fX1_loseLatest_c34 (fX1_loseLatest_c2 f) x1 σ1)) else none) else none)) else none)))
set_option maxRecDepth 100000 in
set_option maxHeartbeats 4000000 in
theorem tX1_loseLatest_c2 {p : Program} {l : Launch} {e : Env} {s : State} {m : MethodId} {args : Array Value} {below : List Frame} {meth : Method} {c : Code} {z0 : Nat} {g : qG} {w : qWd} {ad : Nat → Nat} (cx : qCx p s m meth c cX1_loseLatest 2 RX1 none g z0) (hB : qBC g ad w) : ∀ (f : Nat) (x1 : Int) (σ : qSt), qS p l e qrm0 s m args below meth c 2 g z0 w 0 0 (qQ below g z0 w qrv args s 0 0) (fX1_loseLatest_c2 f x1 σ) σ 2 [(0, some (.ref (ad 38))), (1, some (.int (qI x1)))] [] := by
  intro f
  induction f with
  | zero => exact fun _ _ => qS.fail
  | succ f ih =>
    intro x1 σ
    unfold fX1_loseLatest_c2
    refine r_iload_n (pc := 2) cx dX1_loseLatest_2 rfl ?_
    refine r_aload_n (pc := 3) cx dX1_loseLatest_3 rfl ?_
    refine r_get (pc := 4) cx hcl_X1 qc_X1 (lw38 hB) (j := 3) (by decide) wf_X1_23 dX1_loseLatest_4 (x := .int (qI (σ 38 3))) rfl ?_
    refine r_icmp_ge (tgt := 40) cx dX1_loseLatest_7 (by decide) ?_ ?_
    · exact r_return (w0 := w) (fun _ _ h => h) (Nat.zero_le _) (Nat.zero_le _) cx dX1_loseLatest_40 rfl
    · refine r_iload_n (pc := 10) cx dX1_loseLatest_10 rfl ?_
      refine r_iconst (pc := 11) cx dX1_loseLatest_11 ?_
      refine r_icmp_ge (tgt := 40) cx dX1_loseLatest_12 (by decide) ?_ ?_
      · exact r_return (w0 := w) (fun _ _ h => h) (Nat.zero_le _) (Nat.zero_le _) cx dX1_loseLatest_40 rfl
      · refine r_aload_n (pc := 15) cx dX1_loseLatest_15 rfl ?_
        refine r_get (pc := 16) cx hcl_X1 qc_X1 (lw38 hB) (j := 1) (by decide) wf_X1_15 dX1_loseLatest_16 (x := .ref (ad 40)) rfl ?_
        refine r_iload_n (pc := 19) cx dX1_loseLatest_19 rfl ?_
        refine r_iaload (pc := 20) cx (lw40 hB) rfl (by decide) dX1_loseLatest_20 ?_
        refine r_if_le (tgt := 34) cx dX1_loseLatest_21 (by decide) ?_ ?_
        · exact qS.sub (qsub_cons rfl (qsub_cons rfl (qsub_nil _))) (tX1_loseLatest_c34 cx hB ih _ _)
        · refine r_aload_n (pc := 24) cx dX1_loseLatest_24 rfl ?_
          refine r_get (pc := 25) cx hcl_X1 qc_X1 (lw38 hB) (j := 1) (by decide) wf_X1_15 dX1_loseLatest_25 (x := .ref (ad 40)) rfl ?_
          refine r_iload_n (pc := 28) cx dX1_loseLatest_28 rfl ?_
          refine r_dup2 (pc := 29) cx dX1_loseLatest_29 rfl rfl ?_
          refine r_iaload (pc := 30) cx (lw40 hB) rfl (by decide) dX1_loseLatest_30 ?_
          refine r_iconst (pc := 31) cx dX1_loseLatest_31 ?_
          refine r_isub (pc := 32) cx dX1_loseLatest_32 ?_
          refine r_iastore (pc := 33) cx (lw40 hB) rfl (by decide) dX1_loseLatest_33 (fun σ1 => ?_)
          exact qS.sub (qsub_cons rfl (qsub_cons rfl (qsub_nil _))) (tX1_loseLatest_c34 cx hB ih _ _)
def fX1_loseLatest (σ : qSt) : Option (Int × qSt) :=
  (fX1_loseLatest_c2 qFU 0 σ)
set_option maxRecDepth 100000 in
set_option maxHeartbeats 4000000 in
theorem tX1_loseLatest {l : Launch} {z0 : Nat} {g : qG} {w : qWd} {ad : Nat → Nat} (hB : qBC g ad w) (σ : qSt) : qCT l yX1_loseLatest cX1_loseLatest 2 none qrm0 g z0 w [.ref (ad 38)] σ (fX1_loseLatest σ) qrv := by
  refine qCT.of [(0, some (.ref (ad 38)))] (by decide +kernel) (Nat.le_of_ble_eq_true rfl) rfl ?_
  intro p e s m args below meth c cx
  unfold fX1_loseLatest
  refine r_iconst (pc := 0) cx dX1_loseLatest_0 ?_
  refine r_istore_n (pc := 1) cx dX1_loseLatest_1 (by decide) rfl ?_
  exact qS.sub (qsub_cons rfl (qsub_cons rfl (qsub_nil _))) (tX1_loseLatest_c2 cx hB _ _ _)
def fX1_changesOfSign_c60 (σ : qSt) (k7 : Int → Int → Int → Int → Option Int) (x1 : Int) (x2 : Int) (x3 : Int) (x4 : Int) : Option Int :=
  (k7 x1 x2 x3 (x4 + 1))
set_option maxRecDepth 100000 in
set_option maxHeartbeats 4000000 in
theorem tX1_changesOfSign_c60 {p : Program} {l : Launch} {e : Env} {s : State} {m : MethodId} {args : Array Value} {below : List Frame} {meth : Method} {c : Code} {z0 : Nat} {g : qG} {w : qWd} {ad : Nat → Nat} {σ : qSt} (cx : qCx p s m meth c cX1_changesOfSign 6 RX1 (some .int) g z0) (hB : qBC g ad w) {k7 : Int → Int → Int → Int → Option Int} (hk7 : ∀ (x1 : Int) (x2 : Int) (x3 : Int) (x4 : Int), qS p l e qrm0 s m args below meth c 6 g z0 w 0 0 (fun r => qQ below g z0 w qri args s 0 0 (r, σ)) (k7 x1 x2 x3 x4) σ 7 [(0, some (.ref (ad 38))), (1, some (.int (qI x1))), (2, some (.int (qI x2))), (3, some (.int (qI x3))), (4, some (.int (qI x4)))] []) (x1 : Int) (x2 : Int) (x3 : Int) (x4 : Int) : qS p l e qrm0 s m args below meth c 6 g z0 w 0 0 (fun r => qQ below g z0 w qri args s 0 0 (r, σ)) (fX1_changesOfSign_c60 σ k7 x1 x2 x3 x4) σ 60 [(0, some (.ref (ad 38))), (1, some (.int (qI x1))), (2, some (.int (qI x2))), (3, some (.int (qI x3))), (4, some (.int (qI x4)))] [] := by
  unfold fX1_changesOfSign_c60
  refine r_iinc (pc := 60) cx dX1_changesOfSign_60 rfl (by decide) rfl ?_
  refine r_goto (pc := 63) (tgt := 7) cx dX1_changesOfSign_63 (by decide) ?_
  exact qS.sub (qsub_cons rfl (qsub_cons rfl (qsub_cons rfl (qsub_cons rfl (qsub_cons rfl (qsub_nil _)))))) (hk7 _ _ _ _)
def fX1_changesOfSign_c55 (σ : qSt) (k7 : Int → Int → Int → Int → Option Int) (x1 : Int) (x4 : Int) (x5 : Int) (s0 : Int) (s1 : Int) : Option Int :=
  (qb (s1 + s0) fun (y2 : Int) => (fX1_changesOfSign_c60 σ k7 x1 y2 x5 x4))
set_option maxRecDepth 100000 in
set_option maxHeartbeats 4000000 in
theorem tX1_changesOfSign_c55 {p : Program} {l : Launch} {e : Env} {s : State} {m : MethodId} {args : Array Value} {below : List Frame} {meth : Method} {c : Code} {z0 : Nat} {g : qG} {w : qWd} {ad : Nat → Nat} {σ : qSt} (cx : qCx p s m meth c cX1_changesOfSign 6 RX1 (some .int) g z0) (hB : qBC g ad w) {k7 : Int → Int → Int → Int → Option Int} (hk7 : ∀ (x1 : Int) (x2 : Int) (x3 : Int) (x4 : Int), qS p l e qrm0 s m args below meth c 6 g z0 w 0 0 (fun r => qQ below g z0 w qri args s 0 0 (r, σ)) (k7 x1 x2 x3 x4) σ 7 [(0, some (.ref (ad 38))), (1, some (.int (qI x1))), (2, some (.int (qI x2))), (3, some (.int (qI x3))), (4, some (.int (qI x4)))] []) (x1 : Int) (x4 : Int) (x5 : Int) (s0 : Int) (s1 : Int) : qS p l e qrm0 s m args below meth c 6 g z0 w 0 0 (fun r => qQ below g z0 w qri args s 0 0 (r, σ)) (fX1_changesOfSign_c55 σ k7 x1 x4 x5 s0 s1) σ 55 [(0, some (.ref (ad 38))), (1, some (.int (qI x1))), (4, some (.int (qI x4))), (5, some (.int (qI x5)))] [.int (qI s0), .int (qI s1)] := by
  unfold fX1_changesOfSign_c55
  refine r_iadd (pc := 55) cx dX1_changesOfSign_55 ?_
  refine r_nmi (fun y2 => ?_)
  refine r_istore_n (pc := 56) cx dX1_changesOfSign_56 (by decide) rfl ?_
  refine r_iload (pc := 57) cx dX1_changesOfSign_57 rfl ?_
  refine r_istore_n (pc := 59) cx dX1_changesOfSign_59 (by decide) rfl ?_
  exact qS.sub (qsub_cons rfl (qsub_cons rfl (qsub_cons rfl (qsub_cons rfl (qsub_cons rfl (qsub_nil _)))))) (tX1_changesOfSign_c60 cx hB hk7 _ _ _ _)
def fX1_changesOfSign_c7 (σ : qSt) : Nat → Int → Int → Int → Int → Option Int
  | 0, _, _, _, _ => none
  | f + 1, x1, x2, x3, x4 => (if 0 ≤ x1 ∧ x1 < 4 then (if qI (σ 40 x1) ≤ qI x4 then (some x2) else (if qI 5000 ≤ qI x4 then (some x2) else (if 0 ≤ x1 ∧ x1 < 4 then (if 0 ≤ x4 ∧ x4 < 5000 then (qb (σ (42 + Int.toNat x1) x4) fun (y1 : Int) => (if qI y1 = 0 then (fX1_changesOfSign_c60 σ (fX1_changesOfSign_c7 σ f) x1 x2 x3 x4) else (if 0 ≤ qI (y1 * x3) then (fX1_changesOfSign_c55 σ (fX1_changesOfSign_c7 σ f) x1 x4 y1 0 x2) else (fX1_changesOfSign_c55 σ (fX1_changesOfSign_c7 σ f) x1 x4 y1 1 x2)))) else none) else none))) else none)
set_option maxRecDepth 100000 in
set_option maxHeartbeats 4000000 in
theorem tX1_changesOfSign_c7 {p : Program} {l : Launch} {e : Env} {s : State} {m : MethodId} {args : Array Value} {below : List Frame} {meth : Method} {c : Code} {z0 : Nat} {g : qG} {w : qWd} {ad : Nat → Nat} {σ : qSt} (cx : qCx p s m meth c cX1_changesOfSign 6 RX1 (some .int) g z0) (hB : qBC g ad w) : ∀ (f : Nat) (x1 : Int) (x2 : Int) (x3 : Int) (x4 : Int), qS p l e qrm0 s m args below meth c 6 g z0 w 0 0 (fun r => qQ below g z0 w qri args s 0 0 (r, σ)) (fX1_changesOfSign_c7 σ f x1 x2 x3 x4) σ 7 [(0, some (.ref (ad 38))), (1, some (.int (qI x1))), (2, some (.int (qI x2))), (3, some (.int (qI x3))), (4, some (.int (qI x4)))] [] := by
  intro f
  induction f with
  | zero => exact fun _ _ _ _ => qS.fail
  | succ f ih =>
    intro x1 x2 x3 x4
    unfold fX1_changesOfSign_c7
    refine r_iload (pc := 7) cx dX1_changesOfSign_7 rfl ?_
    refine r_aload_n (pc := 9) cx dX1_changesOfSign_9 rfl ?_
    refine r_get (pc := 10) cx hcl_X1 qc_X1 (lw38 hB) (j := 1) (by decide) wf_X1_15 dX1_changesOfSign_10 (x := .ref (ad 40)) rfl ?_
    refine r_iload_n (pc := 13) cx dX1_changesOfSign_13 rfl ?_
    refine r_iaload (pc := 14) cx (lw40 hB) rfl (by decide) dX1_changesOfSign_14 ?_
    refine r_icmp_ge (tgt := 66) cx dX1_changesOfSign_15 (by decide) ?_ ?_
    · refine r_iload_n (pc := 66) cx dX1_changesOfSign_66 rfl ?_
      exact r_ireturn (w0 := w) (fun _ _ h => h) (Nat.zero_le _) (Nat.zero_le _) cx dX1_changesOfSign_67 rfl
    · refine r_iload (pc := 18) cx dX1_changesOfSign_18 rfl ?_
      refine r_sipush (pc := 20) (v := 5000) cx dX1_changesOfSign_20 (by decide +kernel) ?_
      refine r_icmp_ge (tgt := 66) cx dX1_changesOfSign_23 (by decide) ?_ ?_
      · refine r_iload_n (pc := 66) cx dX1_changesOfSign_66 rfl ?_
        exact r_ireturn (w0 := w) (fun _ _ h => h) (Nat.zero_le _) (Nat.zero_le _) cx dX1_changesOfSign_67 rfl
      · refine r_aload_n (pc := 26) cx dX1_changesOfSign_26 rfl ?_
        refine r_get (pc := 27) cx hcl_X1 qc_X1 (lw38 hB) (j := 2) (by decide) wf_X1_20 dX1_changesOfSign_27 (x := .ref (ad 41)) rfl ?_
        refine r_iload_n (pc := 30) cx dX1_changesOfSign_30 rfl ?_
        refine r_aaload3 (pc := 31) cx (lw41 hB) rfl (by decide) dX1_changesOfSign_31 (fun h31 => ?_)
        refine r_iload (pc := 32) cx dX1_changesOfSign_32 rfl ?_
        refine r_baload (pc := 34) cx (lw_prow hB h31) rfl (by decide) dX1_changesOfSign_34 ?_
        refine r_nmi (fun y1 => ?_)
        refine r_istore (pc := 35) cx dX1_changesOfSign_35 (by decide) rfl ?_
        refine r_iload (pc := 37) cx dX1_changesOfSign_37 rfl ?_
        refine r_if_eq (tgt := 60) cx dX1_changesOfSign_39 (by decide) ?_ ?_
        · exact qS.sub (qsub_cons rfl (qsub_cons rfl (qsub_cons rfl (qsub_cons rfl (qsub_cons rfl (qsub_nil _)))))) (tX1_changesOfSign_c60 cx hB ih _ _ _ _)
        · refine r_iload_n (pc := 42) cx dX1_changesOfSign_42 rfl ?_
          refine r_iload (pc := 43) cx dX1_changesOfSign_43 rfl ?_
          refine r_iload_n (pc := 45) cx dX1_changesOfSign_45 rfl ?_
          refine r_imul (pc := 46) cx dX1_changesOfSign_46 ?_
          refine r_if_ge (tgt := 54) cx dX1_changesOfSign_47 (by decide) ?_ ?_
          · refine r_iconst (pc := 54) cx dX1_changesOfSign_54 ?_
            exact qS.sub (qsub_cons rfl (qsub_cons rfl (qsub_cons rfl (qsub_cons rfl (qsub_nil _))))) (tX1_changesOfSign_c55 cx hB ih _ _ _ _ _)
          · refine r_iconst (pc := 50) cx dX1_changesOfSign_50 ?_
            refine r_goto (pc := 51) (tgt := 55) cx dX1_changesOfSign_51 (by decide) ?_
            exact qS.sub (qsub_cons rfl (qsub_cons rfl (qsub_cons rfl (qsub_cons rfl (qsub_nil _))))) (tX1_changesOfSign_c55 cx hB ih _ _ _ _ _)
def fX1_changesOfSign (σ : qSt) (p0 : Int) : Option Int :=
  (fX1_changesOfSign_c7 σ qFU p0 0 0 0)
set_option maxRecDepth 100000 in
set_option maxHeartbeats 4000000 in
theorem tX1_changesOfSign {l : Launch} {z0 : Nat} {g : qG} {w : qWd} {ad : Nat → Nat} (hB : qBC g ad w) (p0 : Int) (σ : qSt) : qCT l yX1_changesOfSign cX1_changesOfSign 6 (some .int) qrm0 g z0 w [.ref (ad 38), .int (qI p0)] σ (qlift (fX1_changesOfSign σ p0) σ) qri := by
  refine qCTp.of [(0, some (.ref (ad 38))), (1, some (.int (qI p0)))] (by decide +kernel) (Nat.le_of_ble_eq_true rfl) rfl ?_
  intro p e s m args below meth c cx
  unfold fX1_changesOfSign
  refine r_iconst (pc := 0) cx dX1_changesOfSign_0 ?_
  refine r_istore_n (pc := 1) cx dX1_changesOfSign_1 (by decide) rfl ?_
  refine r_iconst (pc := 2) cx dX1_changesOfSign_2 ?_
  refine r_istore_n (pc := 3) cx dX1_changesOfSign_3 (by decide) rfl ?_
  refine r_iconst (pc := 4) cx dX1_changesOfSign_4 ?_
  refine r_istore (pc := 5) cx dX1_changesOfSign_5 (by decide) rfl ?_
  exact qS.sub (qsub_cons rfl (qsub_cons rfl (qsub_cons rfl (qsub_cons rfl (qsub_cons rfl (qsub_nil _)))))) (tX1_changesOfSign_c7 cx hB _ _ _ _ _)
