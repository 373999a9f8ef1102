def fX3_makeFree (B : Nat) (p0 : Int) (σ : qSt) : Option (Int × qSt) :=
  (if 0 ≤ p0 ∧ p0 < 96 then (qb (qset σ (B + 1) p0 0) fun (σ1 : qSt) => (if 0 ≤ p0 ∧ p0 < 96 then (qb (qset σ1 (B + 2) p0 (-1)) fun (σ2 : qSt) => (some (0, σ2))) else none)) else none)
set_option maxRecDepth 100000 in
set_option maxHeartbeats 4000000 in
theorem tX3_makeFree {l : Launch} {z0 : Nat} {g : qG} {w : qWd} {ad : Nat → Nat} {B : Nat} (hB : qBC g ad w) (hBB : B = 1 ∨ B = 14) (p0 : Int) (σ : qSt) : qCT l yX3_makeFree cX3_makeFree 2 none qrm0 g z0 w [.ref (ad B), .int (qI p0)] σ (fX3_makeFree B p0 σ) qrv := by
  refine qCT.of [(0, some (.ref (ad B))), (1, some (.int (qI p0)))] (by decide +kernel) (Nat.le_of_ble_eq_true rfl) rfl ?_
  intro p e s m args below meth c cx
  unfold fX3_makeFree
  refine r_aload_n (pc := 0) cx dX3_makeFree_0 rfl ?_
  refine r_get (pc := 1) cx hcl_X3 qc_X3 (lwB hB hBB) (j := 0) (by decide) wf_X3_9 dX3_makeFree_1 (x := .ref (ad (B + 1))) rfl ?_
  refine r_iload_n (pc := 4) cx dX3_makeFree_4 rfl ?_
  refine r_iconst (pc := 5) cx dX3_makeFree_5 ?_
  refine r_iastore (pc := 6) cx (lwB_kinds hB hBB) rfl (by decide) dX3_makeFree_6 (fun σ1 => ?_)
  refine r_aload_n (pc := 7) cx dX3_makeFree_7 rfl ?_
  refine r_get (pc := 8) cx hcl_X3 qc_X3 (lwB hB hBB) (j := 1) (by decide) wf_X3_15 dX3_makeFree_8 (x := .ref (ad (B + 2))) rfl ?_
  refine r_iload_n (pc := 11) cx dX3_makeFree_11 rfl ?_
  refine r_iconst (pc := 12) cx dX3_makeFree_12 ?_
  refine r_iastore (pc := 13) cx (lwB_bodies hB hBB) rfl (by decide) dX3_makeFree_13 (fun σ2 => ?_)
  exact r_return (w0 := w) (fun _ _ h => h) (Nat.zero_le _) (Nat.zero_le _) cx dX3_makeFree_14 rfl
def fX3_letIn (B : Nat) (p0 : Int) (p1 : Int) (σ : qSt) : Option (Int × qSt) :=
  (if 0 ≤ p0 ∧ p0 < 96 then (if 0 ≤ p0 ∧ p0 < 96 then (qb (qset σ (B + 3) p0 (qor (σ (B + 3) p0) (qshl 1 p1))) fun (σ1 : qSt) => (if 0 ≤ p1 ∧ p1 < 4 then (if 0 ≤ p1 ∧ p1 < 4 then (qb (qset σ1 (B + 10) p1 ((σ1 (B + 10) p1) + 1)) fun (σ2 : qSt) => (some (0, σ2))) else none) else none)) else none) else none)
set_option maxRecDepth 100000 in
set_option maxHeartbeats 4000000 in
theorem tX3_letIn {l : Launch} {z0 : Nat} {g : qG} {w : qWd} {ad : Nat → Nat} {B : Nat} (hB : qBC g ad w) (hBB : B = 1 ∨ B = 14) (p0 : Int) (p1 : Int) (σ : qSt) : qCT l yX3_letIn cX3_letIn 3 none qrm0 g z0 w [.ref (ad B), .int (qI p0), .int (qI p1)] σ (fX3_letIn B p0 p1 σ) qrv := by
  refine qCT.of [(0, some (.ref (ad B))), (1, some (.int (qI p0))), (2, some (.int (qI p1)))] (by decide +kernel) (Nat.le_of_ble_eq_true rfl) rfl ?_
  intro p e s m args below meth c cx
  unfold fX3_letIn
  refine r_aload_n (pc := 0) cx dX3_letIn_0 rfl ?_
  refine r_get (pc := 1) cx hcl_X3 qc_X3 (lwB hB hBB) (j := 2) (by decide) wf_X3_18 dX3_letIn_1 (x := .ref (ad (B + 3))) rfl ?_
  refine r_iload_n (pc := 4) cx dX3_letIn_4 rfl ?_
  refine r_dup2 (pc := 5) cx dX3_letIn_5 rfl rfl ?_
  refine r_iaload (pc := 6) cx (lwB_particles hB hBB) rfl (by decide) dX3_letIn_6 ?_
  refine r_iconst (pc := 7) cx dX3_letIn_7 ?_
  refine r_iload_n (pc := 8) cx dX3_letIn_8 rfl ?_
  refine r_ishl (pc := 9) cx dX3_letIn_9 ?_
  refine r_ior (pc := 10) cx dX3_letIn_10 ?_
  refine r_iastore (pc := 11) cx (lwB_particles hB hBB) rfl (by decide) dX3_letIn_11 (fun σ1 => ?_)
  refine r_aload_n (pc := 12) cx dX3_letIn_12 rfl ?_
  refine r_get (pc := 13) cx hcl_X3 qc_X3 (lwB hB hBB) (j := 9) (by decide) wf_X3_39 dX3_letIn_13 (x := .ref (ad (B + 10))) rfl ?_
  refine r_iload_n (pc := 16) cx dX3_letIn_16 rfl ?_
  refine r_dup2 (pc := 17) cx dX3_letIn_17 rfl rfl ?_
  refine r_iaload (pc := 18) cx (lwB_came hB hBB) rfl (by decide) dX3_letIn_18 ?_
  refine r_iconst (pc := 19) cx dX3_letIn_19 ?_
  refine r_iadd (pc := 20) cx dX3_letIn_20 ?_
  refine r_iastore (pc := 21) cx (lwB_came hB hBB) rfl (by decide) dX3_letIn_21 (fun σ2 => ?_)
  exact r_return (w0 := w) (fun _ _ h => h) (Nat.zero_le _) (Nat.zero_le _) cx dX3_letIn_22 rfl
def fX3_isShut (B : Nat) (σ : qSt) (p0 : Int) : Option Int :=
  ((fX5_isNoCell σ p0).bind fun (r1 : Int) => (if qI r1 = 0 then (if 0 ≤ p0 ∧ p0 < 96 then (if qI (σ (B + 1) p0) = qI 1 then (some 1) else (some 0)) else none) else (some 1)))
set_option maxRecDepth 100000 in
set_option maxHeartbeats 4000000 in
theorem tX3_isShut {l : Launch} {z0 : Nat} {g : qG} {w : qWd} {ad : Nat → Nat} {B : Nat} (hB : qBC g ad w) (hBB : B = 1 ∨ B = 14) (p0 : Int) (σ : qSt) : qCT l yX3_isShut cX3_isShut 2 (some .boolean) qrm1 g z0 w [.ref (ad B), .int (qI p0)] σ (qlift (fX3_isShut B σ p0) σ) qri := by
  refine qCTp.of [(0, some (.ref (ad B))), (1, some (.int (qI p0)))] (by decide +kernel) (Nat.le_of_ble_eq_true rfl) rfl ?_
  intro p e s m args below meth c cx
  unfold fX3_isShut
  refine r_iload_n (pc := 0) cx dX3_isShut_0 rfl ?_
  refine r_pSNi (pc := 1) cx (tX5_isNoCell  p0 σ) qm_X5_isNoCell qs_X5_isNoCell wn_X3_64 dX3_isShut_1 rfl rfl (Nat.le_of_ble_eq_true rfl) ⟨Nat.le_of_ble_eq_true rfl, Nat.le_of_ble_eq_true rfl⟩ ⟨rfl, rfl⟩ ⟨Nat.zero_le _, Nat.zero_le _⟩ (fun r1 => ?_)
  refine r_if_ne (tgt := 17) cx dX3_isShut_4 (by decide) ?_ ?_
  · refine r_iconst (pc := 17) cx dX3_isShut_17 ?_
    refine r_goto (pc := 18) (tgt := 22) cx dX3_isShut_18 (by decide) ?_
    exact r_zreturn (w0 := w) (fun _ _ h => h) (Nat.zero_le _) (Nat.zero_le _) cx (by decide +kernel) dX3_isShut_22 rfl
  · refine r_aload_n (pc := 7) cx dX3_isShut_7 rfl ?_
    refine r_get (pc := 8) cx hcl_X3 qc_X3 (lwB hB hBB) (j := 0) (by decide) wf_X3_9 dX3_isShut_8 (x := .ref (ad (B + 1))) rfl ?_
    refine r_iload_n (pc := 11) cx dX3_isShut_11 rfl ?_
    refine r_iaload (pc := 12) cx (lwB_kinds hB hBB) rfl (by decide) dX3_isShut_12 ?_
    refine r_iconst (pc := 13) cx dX3_isShut_13 ?_
    refine r_icmp_ne (tgt := 21) cx dX3_isShut_14 (by decide) ?_ ?_
    · refine r_iconst (pc := 21) cx dX3_isShut_21 ?_
      exact r_zreturn (w0 := w) (fun _ _ h => h) (Nat.zero_le _) (Nat.zero_le _) cx (by decide +kernel) dX3_isShut_22 rfl
    · refine r_iconst (pc := 17) cx dX3_isShut_17 ?_
      refine r_goto (pc := 18) (tgt := 22) cx dX3_isShut_18 (by decide) ?_
      exact r_zreturn (w0 := w) (fun _ _ h => h) (Nat.zero_le _) (Nat.zero_le _) cx (by decide +kernel) dX3_isShut_22 rfl
def fX3_isClosed_c10 (B : Nat) (σ : qSt) : Nat → Int → Int → Option Int
  | 0, _, _ => none
  | f + 1, x2, x3 => (if qI x2 ≤ qI x3 then (some 1) else (if 0 ≤ x3 ∧ x3 < 96 then (qb (σ (B + 1) x3) fun (y1 : Int) => (if qI y1 = qI 2 then (some 0) else (if qI y1 = qI 3 then (some 0) else (fX3_isClosed_c10 B σ f x2 (x3 + 1))))) else none))
set_option maxRecDepth 100000 in
set_option maxHeartbeats 4000000 in
theorem tX3_isClosed_c10 {p : Program} {l : Launch} {e : Env} {s : State} {m : MethodId} {args : Array Value} {below : List Frame} {meth : Method} {c : Code} {z0 : Nat} {g : qG} {w : qWd} {ad : Nat → Nat} {B : Nat} {σ : qSt} (cx : qCx p s m meth c cX3_isClosed 5 RX3 (some .boolean) g z0) (hB : qBC g ad w) (hBB : B = 1 ∨ B = 14) : ∀ (f : Nat) (x2 : Int) (x3 : Int), qS p l e qrm0 s m args below meth c 5 g z0 w 0 0 (fun r => qQ below g z0 w qri args s 0 0 (r, σ)) (fX3_isClosed_c10 B σ f x2 x3) σ 10 [(1, some (.ref (ad (B + 1)))), (2, some (.int (qI x2))), (3, some (.int (qI x3)))] [] := by
  intro f
  induction f with
  | zero => exact fun _ _ => qS.fail
  | succ f ih =>
    intro x2 x3
    unfold fX3_isClosed_c10
    refine r_iload_n (pc := 10) cx dX3_isClosed_10 rfl ?_
    refine r_iload_n (pc := 11) cx dX3_isClosed_11 rfl ?_
    refine r_icmp_ge (tgt := 40) cx dX3_isClosed_12 (by decide) ?_ ?_
    · refine r_iconst (pc := 40) cx dX3_isClosed_40 ?_
      exact r_zreturn (w0 := w) (fun _ _ h => h) (Nat.zero_le _) (Nat.zero_le _) cx (by decide +kernel) dX3_isClosed_41 rfl
    · refine r_aload_n (pc := 15) cx dX3_isClosed_15 rfl ?_
      refine r_iload_n (pc := 16) cx dX3_isClosed_16 rfl ?_
      refine r_iaload (pc := 17) cx (lwB_kinds hB hBB) rfl (by decide) dX3_isClosed_17 ?_
      refine r_nmi (fun y1 => ?_)
      refine r_istore (pc := 18) cx dX3_isClosed_18 (by decide) rfl ?_
      refine r_iload (pc := 20) cx dX3_isClosed_20 rfl ?_
      refine r_iconst (pc := 22) cx dX3_isClosed_22 ?_
      refine r_icmp_eq (tgt := 32) cx dX3_isClosed_23 (by decide) ?_ ?_
      · refine r_iconst (pc := 32) cx dX3_isClosed_32 ?_
        exact r_zreturn (w0 := w) (fun _ _ h => h) (Nat.zero_le _) (Nat.zero_le _) cx (by decide +kernel) dX3_isClosed_33 rfl
      · refine r_iload (pc := 26) cx dX3_isClosed_26 rfl ?_
        refine r_iconst (pc := 28) cx dX3_isClosed_28 ?_
        refine r_icmp_ne (tgt := 34) cx dX3_isClosed_29 (by decide) ?_ ?_
        · refine r_iinc (pc := 34) cx dX3_isClosed_34 rfl (by decide) rfl ?_
          refine r_goto (pc := 37) (tgt := 10) cx dX3_isClosed_37 (by decide) ?_
          exact qS.sub (qsub_cons rfl (qsub_cons rfl (qsub_cons rfl (qsub_nil _)))) (ih _ _)
        · refine r_iconst (pc := 32) cx dX3_isClosed_32 ?_
          exact r_zreturn (w0 := w) (fun _ _ h => h) (Nat.zero_le _) (Nat.zero_le _) cx (by decide +kernel) dX3_isClosed_33 rfl
def fX3_isClosed (B : Nat) (σ : qSt) : Option Int :=
  (fX3_isClosed_c10 B σ qFU 96 0)
set_option maxRecDepth 100000 in
set_option maxHeartbeats 4000000 in
theorem tX3_isClosed {l : Launch} {z0 : Nat} {g : qG} {w : qWd} {ad : Nat → Nat} {B : Nat} (hB : qBC g ad w) (hBB : B = 1 ∨ B = 14) (σ : qSt) : qCT l yX3_isClosed cX3_isClosed 5 (some .boolean) qrm0 g z0 w [.ref (ad B)] σ (qlift (fX3_isClosed B σ) σ) qri := by
  refine qCTp.of [(0, some (.ref (ad B)))] (by decide +kernel) (Nat.le_of_ble_eq_true rfl) rfl ?_
  intro p e s m args below meth c cx
  unfold fX3_isClosed
  refine r_aload_n (pc := 0) cx dX3_isClosed_0 rfl ?_
  refine r_get (pc := 1) cx hcl_X3 qc_X3 (lwB hB hBB) (j := 0) (by decide) wf_X3_9 dX3_isClosed_1 (x := .ref (ad (B + 1))) rfl ?_
  refine r_astore_n (pc := 4) cx dX3_isClosed_4 (by decide) rfl ?_
  refine r_aload_n (pc := 5) cx dX3_isClosed_5 rfl ?_
  refine r_alen_qAI (pc := 6) cx (t0 := 0) (ty := .int) rfl (lwB_kinds hB hBB) (M := 96) rfl dX3_isClosed_6 ?_
  refine r_istore_n (pc := 7) cx dX3_isClosed_7 (by decide) rfl ?_
  refine r_iconst (pc := 8) cx dX3_isClosed_8 ?_
  refine r_istore_n (pc := 9) cx dX3_isClosed_9 (by decide) rfl ?_
  exact qS.sub (qsub_cons rfl (qsub_cons rfl (qsub_cons rfl (qsub_nil _)))) (tX3_isClosed_c10 cx hB hBB _ _ _)
def fX3_isAllDyed (B : Nat) (σ : qSt) (p0 : Int) : Option Int :=
  (if 0 ≤ p0 ∧ p0 < 96 then (if qI (σ (B + 3) p0) = 0 then (some 0) else (if 0 ≤ p0 ∧ p0 < 96 then (if 0 ≤ p0 ∧ p0 < 96 then (if qI (σ (B + 4) p0) = qI (σ (B + 3) p0) then (some 1) else (some 0)) else none) else none)) else none)
set_option maxRecDepth 100000 in
set_option maxHeartbeats 4000000 in
theorem tX3_isAllDyed {l : Launch} {z0 : Nat} {g : qG} {w : qWd} {ad : Nat → Nat} {B : Nat} (hB : qBC g ad w) (hBB : B = 1 ∨ B = 14) (p0 : Int) (σ : qSt) : qCT l yX3_isAllDyed cX3_isAllDyed 2 (some .boolean) qrm0 g z0 w [.ref (ad B), .int (qI p0)] σ (qlift (fX3_isAllDyed B σ p0) σ) qri := by
  refine qCTp.of [(0, some (.ref (ad B))), (1, some (.int (qI p0)))] (by decide +kernel) (Nat.le_of_ble_eq_true rfl) rfl ?_
  intro p e s m args below meth c cx
  unfold fX3_isAllDyed
  refine r_aload_n (pc := 0) cx dX3_isAllDyed_0 rfl ?_
  refine r_get (pc := 1) cx hcl_X3 qc_X3 (lwB hB hBB) (j := 2) (by decide) wf_X3_18 dX3_isAllDyed_1 (x := .ref (ad (B + 3))) rfl ?_
  refine r_iload_n (pc := 4) cx dX3_isAllDyed_4 rfl ?_
  refine r_iaload (pc := 5) cx (lwB_particles hB hBB) rfl (by decide) dX3_isAllDyed_5 ?_
  refine r_if_eq (tgt := 28) cx dX3_isAllDyed_6 (by decide) ?_ ?_
  · refine r_iconst (pc := 28) cx dX3_isAllDyed_28 ?_
    exact r_zreturn (w0 := w) (fun _ _ h => h) (Nat.zero_le _) (Nat.zero_le _) cx (by decide +kernel) dX3_isAllDyed_29 rfl
  · refine r_aload_n (pc := 9) cx dX3_isAllDyed_9 rfl ?_
    refine r_get (pc := 10) cx hcl_X3 qc_X3 (lwB hB hBB) (j := 3) (by decide) wf_X3_21 dX3_isAllDyed_10 (x := .ref (ad (B + 4))) rfl ?_
    refine r_iload_n (pc := 13) cx dX3_isAllDyed_13 rfl ?_
    refine r_iaload (pc := 14) cx (lwB_dyed hB hBB) rfl (by decide) dX3_isAllDyed_14 ?_
    refine r_aload_n (pc := 15) cx dX3_isAllDyed_15 rfl ?_
    refine r_get (pc := 16) cx hcl_X3 qc_X3 (lwB hB hBB) (j := 2) (by decide) wf_X3_18 dX3_isAllDyed_16 (x := .ref (ad (B + 3))) rfl ?_
    refine r_iload_n (pc := 19) cx dX3_isAllDyed_19 rfl ?_
    refine r_iaload (pc := 20) cx (lwB_particles hB hBB) rfl (by decide) dX3_isAllDyed_20 ?_
    refine r_icmp_ne (tgt := 28) cx dX3_isAllDyed_21 (by decide) ?_ ?_
    · refine r_iconst (pc := 28) cx dX3_isAllDyed_28 ?_
      exact r_zreturn (w0 := w) (fun _ _ h => h) (Nat.zero_le _) (Nat.zero_le _) cx (by decide +kernel) dX3_isAllDyed_29 rfl
    · refine r_iconst (pc := 24) cx dX3_isAllDyed_24 ?_
      refine r_goto (pc := 25) (tgt := 29) cx dX3_isAllDyed_25 (by decide) ?_
      exact r_zreturn (w0 := w) (fun _ _ h => h) (Nat.zero_le _) (Nat.zero_le _) cx (by decide +kernel) dX3_isAllDyed_29 rfl
def fX3_isAllPlain (B : Nat) (σ : qSt) (p0 : Int) : Option Int :=
  (if 0 ≤ p0 ∧ p0 < 96 then (if qI (σ (B + 3) p0) = 0 then (some 0) else (if 0 ≤ p0 ∧ p0 < 96 then (if qI (σ (B + 4) p0) = 0 then (some 1) else (some 0)) else none)) else none)
set_option maxRecDepth 100000 in
set_option maxHeartbeats 4000000 in
theorem tX3_isAllPlain {l : Launch} {z0 : Nat} {g : qG} {w : qWd} {ad : Nat → Nat} {B : Nat} (hB : qBC g ad w) (hBB : B = 1 ∨ B = 14) (p0 : Int) (σ : qSt) : qCT l yX3_isAllPlain cX3_isAllPlain 2 (some .boolean) qrm0 g z0 w [.ref (ad B), .int (qI p0)] σ (qlift (fX3_isAllPlain B σ p0) σ) qri := by
  refine qCTp.of [(0, some (.ref (ad B))), (1, some (.int (qI p0)))] (by decide +kernel) (Nat.le_of_ble_eq_true rfl) rfl ?_
  intro p e s m args below meth c cx
  unfold fX3_isAllPlain
  refine r_aload_n (pc := 0) cx dX3_isAllPlain_0 rfl ?_
  refine r_get (pc := 1) cx hcl_X3 qc_X3 (lwB hB hBB) (j := 2) (by decide) wf_X3_18 dX3_isAllPlain_1 (x := .ref (ad (B + 3))) rfl ?_
  refine r_iload_n (pc := 4) cx dX3_isAllPlain_4 rfl ?_
  refine r_iaload (pc := 5) cx (lwB_particles hB hBB) rfl (by decide) dX3_isAllPlain_5 ?_
  refine r_if_eq (tgt := 22) cx dX3_isAllPlain_6 (by decide) ?_ ?_
  · refine r_iconst (pc := 22) cx dX3_isAllPlain_22 ?_
    exact r_zreturn (w0 := w) (fun _ _ h => h) (Nat.zero_le _) (Nat.zero_le _) cx (by decide +kernel) dX3_isAllPlain_23 rfl
  · refine r_aload_n (pc := 9) cx dX3_isAllPlain_9 rfl ?_
    refine r_get (pc := 10) cx hcl_X3 qc_X3 (lwB hB hBB) (j := 3) (by decide) wf_X3_21 dX3_isAllPlain_10 (x := .ref (ad (B + 4))) rfl ?_
    refine r_iload_n (pc := 13) cx dX3_isAllPlain_13 rfl ?_
    refine r_iaload (pc := 14) cx (lwB_dyed hB hBB) rfl (by decide) dX3_isAllPlain_14 ?_
    refine r_if_ne (tgt := 22) cx dX3_isAllPlain_15 (by decide) ?_ ?_
    · refine r_iconst (pc := 22) cx dX3_isAllPlain_22 ?_
      exact r_zreturn (w0 := w) (fun _ _ h => h) (Nat.zero_le _) (Nat.zero_le _) cx (by decide +kernel) dX3_isAllPlain_23 rfl
    · refine r_iconst (pc := 18) cx dX3_isAllPlain_18 ?_
      refine r_goto (pc := 19) (tgt := 23) cx dX3_isAllPlain_19 (by decide) ?_
      exact r_zreturn (w0 := w) (fun _ _ h => h) (Nat.zero_le _) (Nat.zero_le _) cx (by decide +kernel) dX3_isAllPlain_23 rfl
def fX3_cellsOfBody_c39 (B : Nat) (σ : qSt) (k14 : Int → Int → Int → Int → Option Int) (x1 : Int) (x4 : Int) (x5 : Int) (s0 : Int) (s1 : Int) : Option Int :=
  (qb (s1 + s0) fun (y2 : Int) => (k14 x1 y2 x4 (x5 + 1)))
set_option maxRecDepth 100000 in
set_option maxHeartbeats 4000000 in
theorem tX3_cellsOfBody_c39 {p : Program} {l : Launch} {e : Env} {s : State} {m : MethodId} {args : Array Value} {below : List Frame} {meth : Method} {c : Code} {z0 : Nat} {g : qG} {w : qWd} {ad : Nat → Nat} {B : Nat} {σ : qSt} (cx : qCx p s m meth c cX3_cellsOfBody 7 RX3 (some .int) g z0) (hB : qBC g ad w) (hBB : B = 1 ∨ B = 14) {k14 : Int → Int → Int → Int → Option Int} (hk14 : ∀ (x1 : Int) (x2 : Int) (x4 : Int) (x5 : Int), qS p l e qrm0 s m args below meth c 7 g z0 w 0 0 (fun r => qQ below g z0 w qri args s 0 0 (r, σ)) (k14 x1 x2 x4 x5) σ 14 [(1, some (.int (qI x1))), (2, some (.int (qI x2))), (3, some (.ref (ad (B + 2)))), (4, some (.int (qI x4))), (5, some (.int (qI x5)))] []) (x1 : Int) (x4 : Int) (x5 : Int) (s0 : Int) (s1 : Int) : qS p l e qrm0 s m args below meth c 7 g z0 w 0 0 (fun r => qQ below g z0 w qri args s 0 0 (r, σ)) (fX3_cellsOfBody_c39 B σ k14 x1 x4 x5 s0 s1) σ 39 [(1, some (.int (qI x1))), (3, some (.ref (ad (B + 2)))), (4, some (.int (qI x4))), (5, some (.int (qI x5)))] [.int (qI s0), .int (qI s1)] := by
  unfold fX3_cellsOfBody_c39
  refine r_iadd (pc := 39) cx dX3_cellsOfBody_39 ?_
  refine r_nmi (fun y2 => ?_)
  refine r_istore_n (pc := 40) cx dX3_cellsOfBody_40 (by decide) rfl ?_
  refine r_iinc (pc := 41) cx dX3_cellsOfBody_41 rfl (by decide) rfl ?_
  refine r_goto (pc := 44) (tgt := 14) cx dX3_cellsOfBody_44 (by decide) ?_
  exact qS.sub (qsub_cons rfl (qsub_cons rfl (qsub_cons rfl (qsub_cons rfl (qsub_cons rfl (qsub_nil _)))))) (hk14 _ _ _ _)
def fX3_cellsOfBody_c14 (B : Nat) (σ : qSt) : Nat → Int → Int → Int → Int → Option Int
  | 0, _, _, _, _ => none
  | f + 1, x1, x2, x4, x5 => (if qI x4 ≤ qI x5 then (some x2) else (if 0 ≤ x5 ∧ x5 < 96 then (qb (σ (B + 2) x5) fun (y1 : Int) => (if qI y1 = qI x1 then (fX3_cellsOfBody_c39 B σ (fX3_cellsOfBody_c14 B σ f) x1 x4 x5 1 x2) else (fX3_cellsOfBody_c39 B σ (fX3_cellsOfBody_c14 B σ f) x1 x4 x5 0 x2))) else none))
set_option maxRecDepth 100000 in
set_option maxHeartbeats 4000000 in
theorem tX3_cellsOfBody_c14 {p : Program} {l : Launch} {e : Env} {s : State} {m : MethodId} {args : Array Value} {below : List Frame} {meth : Method} {c : Code} {z0 : Nat} {g : qG} {w : qWd} {ad : Nat → Nat} {B : Nat} {σ : qSt} (cx : qCx p s m meth c cX3_cellsOfBody 7 RX3 (some .int) g z0) (hB : qBC g ad w) (hBB : B = 1 ∨ B = 14) : ∀ (f : Nat) (x1 : Int) (x2 : Int) (x4 : Int) (x5 : Int), qS p l e qrm0 s m args below meth c 7 g z0 w 0 0 (fun r => qQ below g z0 w qri args s 0 0 (r, σ)) (fX3_cellsOfBody_c14 B σ f x1 x2 x4 x5) σ 14 [(1, some (.int (qI x1))), (2, some (.int (qI x2))), (3, some (.ref (ad (B + 2)))), (4, some (.int (qI x4))), (5, some (.int (qI x5)))] [] := by
  intro f
  induction f with
  | zero => exact fun _ _ _ _ => qS.fail
  | succ f ih =>
    intro x1 x2 x4 x5
    unfold fX3_cellsOfBody_c14
    refine r_iload (pc := 14) cx dX3_cellsOfBody_14 rfl ?_
    refine r_iload (pc := 16) cx dX3_cellsOfBody_16 rfl ?_
    refine r_icmp_ge (tgt := 47) cx dX3_cellsOfBody_18 (by decide) ?_ ?_
    · refine r_iload_n (pc := 47) cx dX3_cellsOfBody_47 rfl ?_
      exact r_ireturn (w0 := w) (fun _ _ h => h) (Nat.zero_le _) (Nat.zero_le _) cx dX3_cellsOfBody_48 rfl
    · refine r_aload_n (pc := 21) cx dX3_cellsOfBody_21 rfl ?_
      refine r_iload (pc := 22) cx dX3_cellsOfBody_22 rfl ?_
      refine r_iaload (pc := 24) cx (lwB_bodies hB hBB) rfl (by decide) dX3_cellsOfBody_24 ?_
      refine r_nmi (fun y1 => ?_)
      refine r_istore (pc := 25) cx dX3_cellsOfBody_25 (by decide) rfl ?_
      refine r_iload_n (pc := 27) cx dX3_cellsOfBody_27 rfl ?_
      refine r_iload (pc := 28) cx dX3_cellsOfBody_28 rfl ?_
      refine r_iload_n (pc := 30) cx dX3_cellsOfBody_30 rfl ?_
      refine r_icmp_ne (tgt := 38) cx dX3_cellsOfBody_31 (by decide) ?_ ?_
      · refine r_iconst (pc := 38) cx dX3_cellsOfBody_38 ?_
        exact qS.sub (qsub_cons rfl (qsub_cons rfl (qsub_cons rfl (qsub_cons rfl (qsub_nil _))))) (tX3_cellsOfBody_c39 cx hB hBB ih _ _ _ _ _)
      · refine r_iconst (pc := 34) cx dX3_cellsOfBody_34 ?_
        refine r_goto (pc := 35) (tgt := 39) cx dX3_cellsOfBody_35 (by decide) ?_
        exact qS.sub (qsub_cons rfl (qsub_cons rfl (qsub_cons rfl (qsub_cons rfl (qsub_nil _))))) (tX3_cellsOfBody_c39 cx hB hBB ih _ _ _ _ _)
def fX3_cellsOfBody (B : Nat) (σ : qSt) (p0 : Int) : Option Int :=
  (fX3_cellsOfBody_c14 B σ qFU p0 0 96 0)
set_option maxRecDepth 100000 in
set_option maxHeartbeats 4000000 in
theorem tX3_cellsOfBody {l : Launch} {z0 : Nat} {g : qG} {w : qWd} {ad : Nat → Nat} {B : Nat} (hB : qBC g ad w) (hBB : B = 1 ∨ B = 14) (p0 : Int) (σ : qSt) : qCT l yX3_cellsOfBody cX3_cellsOfBody 7 (some .int) qrm0 g z0 w [.ref (ad B), .int (qI p0)] σ (qlift (fX3_cellsOfBody B σ p0) σ) qri := by
  refine qCTp.of [(0, some (.ref (ad B))), (1, some (.int (qI p0)))] (by decide +kernel) (Nat.le_of_ble_eq_true rfl) rfl ?_
  intro p e s m args below meth c cx
  unfold fX3_cellsOfBody
  refine r_iconst (pc := 0) cx dX3_cellsOfBody_0 ?_
  refine r_istore_n (pc := 1) cx dX3_cellsOfBody_1 (by decide) rfl ?_
  refine r_aload_n (pc := 2) cx dX3_cellsOfBody_2 rfl ?_
  refine r_get (pc := 3) cx hcl_X3 qc_X3 (lwB hB hBB) (j := 1) (by decide) wf_X3_15 dX3_cellsOfBody_3 (x := .ref (ad (B + 2))) rfl ?_
  refine r_astore_n (pc := 6) cx dX3_cellsOfBody_6 (by decide) rfl ?_
  refine r_aload_n (pc := 7) cx dX3_cellsOfBody_7 rfl ?_
  refine r_alen_qAI (pc := 8) cx (t0 := 0) (ty := .int) rfl (lwB_bodies hB hBB) (M := 96) rfl dX3_cellsOfBody_8 ?_
  refine r_istore (pc := 9) cx dX3_cellsOfBody_9 (by decide) rfl ?_
  refine r_iconst (pc := 11) cx dX3_cellsOfBody_11 ?_
  refine r_istore (pc := 12) cx dX3_cellsOfBody_12 (by decide) rfl ?_
  exact qS.sub (qsub_cons rfl (qsub_cons rfl (qsub_cons rfl (qsub_cons rfl (qsub_cons rfl (qsub_nil _)))))) (tX3_cellsOfBody_c14 cx hB hBB _ _ _ _ _)
def fX3_moreAt (B : Nat) (σ : qSt) (p0 : Int) (p1 : Int) : Option Int :=
  (if 0 ≤ p0 ∧ p0 < 96 then (if 0 ≤ p0 ∧ p0 < 96 then ((fX5_opposite σ p1).bind fun (r17 : Int) => (some ((qand (qshr (σ (B + 3) p0) p1) 1) - (qand (qshr (σ (B + 3) p0) r17) 1)))) else none) else none)
set_option maxRecDepth 100000 in
set_option maxHeartbeats 4000000 in
theorem tX3_moreAt {l : Launch} {z0 : Nat} {g : qG} {w : qWd} {ad : Nat → Nat} {B : Nat} (hB : qBC g ad w) (hBB : B = 1 ∨ B = 14) (p0 : Int) (p1 : Int) (σ : qSt) : qCT l yX3_moreAt cX3_moreAt 3 (some .int) qrm1 g z0 w [.ref (ad B), .int (qI p0), .int (qI p1)] σ (qlift (fX3_moreAt B σ p0 p1) σ) qri := by
  refine qCTp.of [(0, some (.ref (ad B))), (1, some (.int (qI p0))), (2, some (.int (qI p1)))] (by decide +kernel) (Nat.le_of_ble_eq_true rfl) rfl ?_
  intro p e s m args below meth c cx
  unfold fX3_moreAt
  refine r_aload_n (pc := 0) cx dX3_moreAt_0 rfl ?_
  refine r_get (pc := 1) cx hcl_X3 qc_X3 (lwB hB hBB) (j := 2) (by decide) wf_X3_18 dX3_moreAt_1 (x := .ref (ad (B + 3))) rfl ?_
  refine r_iload_n (pc := 4) cx dX3_moreAt_4 rfl ?_
  refine r_iaload (pc := 5) cx (lwB_particles hB hBB) rfl (by decide) dX3_moreAt_5 ?_
  refine r_iload_n (pc := 6) cx dX3_moreAt_6 rfl ?_
  refine r_ishr (pc := 7) cx dX3_moreAt_7 ?_
  refine r_iconst (pc := 8) cx dX3_moreAt_8 ?_
  refine r_iand (pc := 9) cx dX3_moreAt_9 ?_
  refine r_aload_n (pc := 10) cx dX3_moreAt_10 rfl ?_
  refine r_get (pc := 11) cx hcl_X3 qc_X3 (lwB hB hBB) (j := 2) (by decide) wf_X3_18 dX3_moreAt_11 (x := .ref (ad (B + 3))) rfl ?_
  refine r_iload_n (pc := 14) cx dX3_moreAt_14 rfl ?_
  refine r_iaload (pc := 15) cx (lwB_particles hB hBB) rfl (by decide) dX3_moreAt_15 ?_
  refine r_iload_n (pc := 16) cx dX3_moreAt_16 rfl ?_
  refine r_pSNi (pc := 17) cx (tX5_opposite  p1 σ) qm_X5_opposite qs_X5_opposite wn_X3_78 dX3_moreAt_17 rfl rfl (Nat.le_of_ble_eq_true rfl) ⟨Nat.le_of_ble_eq_true rfl, Nat.le_of_ble_eq_true rfl⟩ ⟨rfl, rfl⟩ ⟨Nat.zero_le _, Nat.zero_le _⟩ (fun r17 => ?_)
  refine r_ishr (pc := 20) cx dX3_moreAt_20 ?_
  refine r_iconst (pc := 21) cx dX3_moreAt_21 ?_
  refine r_iand (pc := 22) cx dX3_moreAt_22 ?_
  refine r_isub (pc := 23) cx dX3_moreAt_23 ?_
  exact r_ireturn (w0 := w) (fun _ _ h => h) (Nat.zero_le _) (Nat.zero_le _) cx dX3_moreAt_24 rfl
def fX3_numberAt_c28 (B : Nat) (σ : qSt) (s0 : Int) (s1 : Int) : Option Int :=
  ((fX3_moreAt B σ s1 s0).bind fun (r28 : Int) => (some r28))
set_option maxRecDepth 100000 in
set_option maxHeartbeats 4000000 in
theorem tX3_numberAt_c28 {p : Program} {l : Launch} {e : Env} {s : State} {m : MethodId} {args : Array Value} {below : List Frame} {meth : Method} {c : Code} {z0 : Nat} {g : qG} {w : qWd} {ad : Nat → Nat} {B : Nat} {σ : qSt} (cx : qCx p s m meth c cX3_numberAt 3 RX3 (some .int) g z0) (hB : qBC g ad w) (hBB : B = 1 ∨ B = 14) (s0 : Int) (s1 : Int) : qS p l e qrm2 s m args below meth c 3 g z0 w 0 0 (fun r => qQ below g z0 w qri args s 0 0 (r, σ)) (fX3_numberAt_c28 B σ s0 s1) σ 28 [] [.int (qI s0), .int (qI s1), .ref (ad B)] := by
  unfold fX3_numberAt_c28
  refine r_pVi (pc := 28) cx (tX3_moreAt hB hBB s1 s0 σ) qm_X3_moreAt qv_X3_moreAt hcl_X3 (lwB hB hBB) wm_X3_74 dX3_numberAt_28 rfl rfl (Nat.le_of_ble_eq_true rfl) ⟨Nat.le_of_ble_eq_true rfl, Nat.le_of_ble_eq_true rfl⟩ ⟨rfl, rfl⟩ ⟨Nat.zero_le _, Nat.zero_le _⟩ (fun r28 => ?_)
  exact r_ireturn (w0 := w) (fun _ _ h => h) (Nat.zero_le _) (Nat.zero_le _) cx dX3_numberAt_31 rfl
def fX3_numberAt (B : Nat) (σ : qSt) (p0 : Int) (p1 : Int) : Option Int :=
  (if qI p1 = 0 then (if 0 ≤ p0 ∧ p0 < 96 then ((fJ6_bitCount_0f7a4 σ (σ (B + 3) p0)).bind fun (r10 : Int) => (some r10)) else none) else (if qI p1 = qI 1 then (fX3_numberAt_c28 B σ 0 p0) else (fX3_numberAt_c28 B σ 1 p0)))
set_option maxRecDepth 100000 in
set_option maxHeartbeats 4000000 in
theorem tX3_numberAt {l : Launch} {z0 : Nat} {g : qG} {w : qWd} {ad : Nat → Nat} {B : Nat} (hB : qBC g ad w) (hBB : B = 1 ∨ B = 14) (p0 : Int) (p1 : Int) (σ : qSt) : qCT l yX3_numberAt cX3_numberAt 3 (some .int) qrm2 g z0 w [.ref (ad B), .int (qI p0), .int (qI p1)] σ (qlift (fX3_numberAt B σ p0 p1) σ) qri := by
  refine qCTp.of [(0, some (.ref (ad B))), (1, some (.int (qI p0))), (2, some (.int (qI p1)))] (by decide +kernel) (Nat.le_of_ble_eq_true rfl) rfl ?_
  intro p e s m args below meth c cx
  unfold fX3_numberAt
  refine r_iload_n (pc := 0) cx dX3_numberAt_0 rfl ?_
  refine r_if_ne (tgt := 16) cx dX3_numberAt_1 (by decide) ?_ ?_
  · refine r_aload_n (pc := 16) cx dX3_numberAt_16 rfl ?_
    refine r_iload_n (pc := 17) cx dX3_numberAt_17 rfl ?_
    refine r_iload_n (pc := 18) cx dX3_numberAt_18 rfl ?_
    refine r_iconst (pc := 19) cx dX3_numberAt_19 ?_
    refine r_icmp_ne (tgt := 27) cx dX3_numberAt_20 (by decide) ?_ ?_
    · refine r_iconst (pc := 27) cx dX3_numberAt_27 ?_
      exact qS.sub (qsub_nil _) (tX3_numberAt_c28 cx hB hBB _ _)
    · refine r_iconst (pc := 23) cx dX3_numberAt_23 ?_
      refine r_goto (pc := 24) (tgt := 28) cx dX3_numberAt_24 (by decide) ?_
      exact qS.sub (qsub_nil _) (tX3_numberAt_c28 cx hB hBB _ _)
  · refine r_aload_n (pc := 4) cx dX3_numberAt_4 rfl ?_
    refine r_get (pc := 5) cx hcl_X3 qc_X3 (lwB hB hBB) (j := 2) (by decide) wf_X3_18 dX3_numberAt_5 (x := .ref (ad (B + 3))) rfl ?_
    refine r_iload_n (pc := 8) cx dX3_numberAt_8 rfl ?_
    refine r_iaload (pc := 9) cx (lwB_particles hB hBB) rfl (by decide) dX3_numberAt_9 ?_
    refine r_pSi (pc := 10) cx (tJ6_bitCount_0f7a4  (σ (B + 3) p0) σ) qm_J6_bitCount_0f7a4 qs_J6_bitCount_0f7a4 wm_X3_68 dX3_numberAt_10 rfl rfl (Nat.le_of_ble_eq_true rfl) ⟨Nat.le_of_ble_eq_true rfl, Nat.le_of_ble_eq_true rfl⟩ ⟨rfl, rfl⟩ ⟨Nat.zero_le _, Nat.zero_le _⟩ (fun r10 => ?_)
    refine r_goto (pc := 13) (tgt := 31) cx dX3_numberAt_13 (by decide) ?_
    exact r_ireturn (w0 := w) (fun _ _ h => h) (Nat.zero_le _) (Nat.zero_le _) cx dX3_numberAt_31 rfl
def fX3_goingMore_c4 (B : Nat) (σ : qSt) : Nat → Int → Int → Int → Option Int
  | 0, _, _, _ => none
  | f + 1, x1, x2, x3 => (if qI 96 ≤ qI x3 then (some x2) else ((fX3_moreAt B σ x3 x1).bind fun (r14 : Int) => (qb (x2 + r14) fun (y1 : Int) => (fX3_goingMore_c4 B σ f x1 y1 (x3 + 1)))))
set_option maxRecDepth 100000 in
set_option maxHeartbeats 4000000 in
theorem tX3_goingMore_c4 {p : Program} {l : Launch} {e : Env} {s : State} {m : MethodId} {args : Array Value} {below : List Frame} {meth : Method} {c : Code} {z0 : Nat} {g : qG} {w : qWd} {ad : Nat → Nat} {B : Nat} {σ : qSt} (cx : qCx p s m meth c cX3_goingMore 4 RX3 (some .int) g z0) (hB : qBC g ad w) (hBB : B = 1 ∨ B = 14) : ∀ (f : Nat) (x1 : Int) (x2 : Int) (x3 : Int), qS p l e qrm2 s m args below meth c 4 g z0 w 0 0 (fun r => qQ below g z0 w qri args s 0 0 (r, σ)) (fX3_goingMore_c4 B σ f x1 x2 x3) σ 4 [(0, some (.ref (ad B))), (1, some (.int (qI x1))), (2, some (.int (qI x2))), (3, some (.int (qI x3)))] [] := by
  intro f
  induction f with
  | zero => exact fun _ _ _ => qS.fail
  | succ f ih =>
    intro x1 x2 x3
    unfold fX3_goingMore_c4
    refine r_iload_n (pc := 4) cx dX3_goingMore_4 rfl ?_
    refine r_bipush (pc := 5) (v := 96) cx dX3_goingMore_5 (by decide +kernel) ?_
    refine r_icmp_ge (tgt := 25) cx dX3_goingMore_7 (by decide) ?_ ?_
    · refine r_iload_n (pc := 25) cx dX3_goingMore_25 rfl ?_
      exact r_ireturn (w0 := w) (fun _ _ h => h) (Nat.zero_le _) (Nat.zero_le _) cx dX3_goingMore_26 rfl
    · refine r_iload_n (pc := 10) cx dX3_goingMore_10 rfl ?_
      refine r_aload_n (pc := 11) cx dX3_goingMore_11 rfl ?_
      refine r_iload_n (pc := 12) cx dX3_goingMore_12 rfl ?_
      refine r_iload_n (pc := 13) cx dX3_goingMore_13 rfl ?_
      refine r_pVi (pc := 14) cx (tX3_moreAt hB hBB x3 x1 σ) qm_X3_moreAt qv_X3_moreAt hcl_X3 (lwB hB hBB) wm_X3_74 dX3_goingMore_14 rfl rfl (Nat.le_of_ble_eq_true rfl) ⟨Nat.le_of_ble_eq_true rfl, Nat.le_of_ble_eq_true rfl⟩ ⟨rfl, rfl⟩ ⟨Nat.zero_le _, Nat.zero_le _⟩ (fun r14 => ?_)
      refine r_iadd (pc := 17) cx dX3_goingMore_17 ?_
      refine r_nmi (fun y1 => ?_)
      refine r_istore_n (pc := 18) cx dX3_goingMore_18 (by decide) rfl ?_
      refine r_iinc (pc := 19) cx dX3_goingMore_19 rfl (by decide) rfl ?_
      refine r_goto (pc := 22) (tgt := 4) cx dX3_goingMore_22 (by decide) ?_
      exact qS.sub (qsub_cons rfl (qsub_cons rfl (qsub_cons rfl (qsub_cons rfl (qsub_nil _))))) (ih _ _ _)
def fX3_goingMore (B : Nat) (σ : qSt) (p0 : Int) : Option Int :=
  (fX3_goingMore_c4 B σ qFU p0 0 0)
set_option maxRecDepth 100000 in
set_option maxHeartbeats 4000000 in
theorem tX3_goingMore {l : Launch} {z0 : Nat} {g : qG} {w : qWd} {ad : Nat → Nat} {B : Nat} (hB : qBC g ad w) (hBB : B = 1 ∨ B = 14) (p0 : Int) (σ : qSt) : qCT l yX3_goingMore cX3_goingMore 4 (some .int) qrm2 g z0 w [.ref (ad B), .int (qI p0)] σ (qlift (fX3_goingMore B σ p0) σ) qri := by
  refine qCTp.of [(0, some (.ref (ad B))), (1, some (.int (qI p0)))] (by decide +kernel) (Nat.le_of_ble_eq_true rfl) rfl ?_
  intro p e s m args below meth c cx
  unfold fX3_goingMore
  refine r_iconst (pc := 0) cx dX3_goingMore_0 ?_
  refine r_istore_n (pc := 1) cx dX3_goingMore_1 (by decide) rfl ?_
  refine r_iconst (pc := 2) cx dX3_goingMore_2 ?_
  refine r_istore_n (pc := 3) cx dX3_goingMore_3 (by decide) rfl ?_
  exact qS.sub (qsub_cons rfl (qsub_cons rfl (qsub_cons rfl (qsub_cons rfl (qsub_nil _))))) (tX3_goingMore_c4 cx hB hBB _ _ _ _)
def fX3_turnMeetings_c72 (B : Nat) (k12 : Int → Int → Int → qSt → Option (Int × qSt)) (x1 : Int) (x2 : Int) (x3 : Int) (σ : qSt) : Option (Int × qSt) :=
  (k12 x1 x2 (x3 + 1) σ)
set_option maxRecDepth 100000 in
set_option maxHeartbeats 4000000 in
theorem tX3_turnMeetings_c72 {p : Program} {l : Launch} {e : Env} {s : State} {m : MethodId} {args : Array Value} {below : List Frame} {meth : Method} {c : Code} {z0 : Nat} {g : qG} {w : qWd} {ad : Nat → Nat} {B : Nat} (cx : qCx p s m meth c cX3_turnMeetings 4 RX3 none g z0) (hB : qBC g ad w) (hBB : B = 1 ∨ B = 14) {k12 : Int → Int → Int → qSt → Option (Int × qSt)} (hk12 : ∀ (x1 : Int) (x2 : Int) (x3 : Int) (σ : qSt), qS p l e qrm1 s m args below meth c 4 g z0 w 0 0 (qQ below g z0 w qrv args s 0 0) (k12 x1 x2 x3 σ) σ 12 [(0, some (.ref (ad B))), (1, some (.int (qI x1))), (2, some (.int (qI x2))), (3, some (.int (qI x3)))] []) (x1 : Int) (x2 : Int) (x3 : Int) (σ : qSt) : qS p l e qrm1 s m args below meth c 4 g z0 w 0 0 (qQ below g z0 w qrv args s 0 0) (fX3_turnMeetings_c72 B k12 x1 x2 x3 σ) σ 72 [(0, some (.ref (ad B))), (1, some (.int (qI x1))), (2, some (.int (qI x2))), (3, some (.int (qI x3)))] [] := by
  unfold fX3_turnMeetings_c72
  refine r_iinc (pc := 72) cx dX3_turnMeetings_72 rfl (by decide) rfl ?_
  refine r_goto (pc := 75) (tgt := 12) cx dX3_turnMeetings_75 (by decide) ?_
  exact qS.sub (qsub_cons rfl (qsub_cons rfl (qsub_cons rfl (qsub_cons rfl (qsub_nil _))))) (hk12 _ _ _ _)
def fX3_turnMeetings_c12 (B : Nat) : Nat → Int → Int → Int → qSt → Option (Int × qSt)
  | 0, _, _, _, _ => none
  | f + 1, x1, x2, x3, σ => (if qI 96 ≤ qI x3 then (some (0, σ)) else (if 0 ≤ x3 ∧ x3 < 96 then ((fX5_isMeeting σ (σ (B + 3) x3)).bind fun (r24 : Int) => (if qI r24 = 0 then (fX3_turnMeetings_c72 B (fX3_turnMeetings_c12 B f) x1 x2 x3 σ) else (if 0 ≤ x3 ∧ x3 < 96 then ((fX5_turned σ (σ (B + 3) x3) x2).bind fun (r42 : Int) => (if 0 ≤ x3 ∧ x3 < 96 then (qb (qset σ (B + 3) x3 r42) fun (σ1 : qSt) => (if 0 ≤ x3 ∧ x3 < 96 then ((fX5_turned σ1 (σ1 (B + 4) x3) x2).bind fun (r58 : Int) => (if 0 ≤ x3 ∧ x3 < 96 then (qb (qset σ1 (B + 4) x3 r58) fun (σ2 : qSt) => (qb (qset σ2 B 12 ((σ2 B 12) + x1)) fun (σ3 : qSt) => (fX3_turnMeetings_c72 B (fX3_turnMeetings_c12 B f) x1 x2 x3 σ3))) else none)) else none)) else none)) else none))) else none))
set_option maxRecDepth 100000 in
set_option maxHeartbeats 4000000 in
theorem tX3_turnMeetings_c12 {p : Program} {l : Launch} {e : Env} {s : State} {m : MethodId} {args : Array Value} {below : List Frame} {meth : Method} {c : Code} {z0 : Nat} {g : qG} {w : qWd} {ad : Nat → Nat} {B : Nat} (cx : qCx p s m meth c cX3_turnMeetings 4 RX3 none g z0) (hB : qBC g ad w) (hBB : B = 1 ∨ B = 14) : ∀ (f : Nat) (x1 : Int) (x2 : Int) (x3 : Int) (σ : qSt), qS p l e qrm1 s m args below meth c 4 g z0 w 0 0 (qQ below g z0 w qrv args s 0 0) (fX3_turnMeetings_c12 B f x1 x2 x3 σ) σ 12 [(0, some (.ref (ad B))), (1, some (.int (qI x1))), (2, some (.int (qI x2))), (3, some (.int (qI x3)))] [] := by
  intro f
  induction f with
  | zero => exact fun _ _ _ _ => qS.fail
  | succ f ih =>
    intro x1 x2 x3 σ
    unfold fX3_turnMeetings_c12
    refine r_iload_n (pc := 12) cx dX3_turnMeetings_12 rfl ?_
    refine r_bipush (pc := 13) (v := 96) cx dX3_turnMeetings_13 (by decide +kernel) ?_
    refine r_icmp_ge (tgt := 78) cx dX3_turnMeetings_15 (by decide) ?_ ?_
    · exact r_return (w0 := w) (fun _ _ h => h) (Nat.zero_le _) (Nat.zero_le _) cx dX3_turnMeetings_78 rfl
    · refine r_aload_n (pc := 18) cx dX3_turnMeetings_18 rfl ?_
      refine r_get (pc := 19) cx hcl_X3 qc_X3 (lwB hB hBB) (j := 2) (by decide) wf_X3_18 dX3_turnMeetings_19 (x := .ref (ad (B + 3))) rfl ?_
      refine r_iload_n (pc := 22) cx dX3_turnMeetings_22 rfl ?_
      refine r_iaload (pc := 23) cx (lwB_particles hB hBB) rfl (by decide) dX3_turnMeetings_23 ?_
      refine r_pSNi (pc := 24) cx (tX5_isMeeting  (σ (B + 3) x3) σ) qm_X5_isMeeting qs_X5_isMeeting wn_X3_97 dX3_turnMeetings_24 rfl rfl (Nat.le_of_ble_eq_true rfl) ⟨Nat.le_of_ble_eq_true rfl, Nat.le_of_ble_eq_true rfl⟩ ⟨rfl, rfl⟩ ⟨Nat.zero_le _, Nat.zero_le _⟩ (fun r24 => ?_)
      refine r_if_eq (tgt := 72) cx dX3_turnMeetings_27 (by decide) ?_ ?_
      · exact qS.sub (qsub_cons rfl (qsub_cons rfl (qsub_cons rfl (qsub_cons rfl (qsub_nil _))))) (tX3_turnMeetings_c72 cx hB hBB ih _ _ _ _)
      · refine r_aload_n (pc := 30) cx dX3_turnMeetings_30 rfl ?_
        refine r_get (pc := 31) cx hcl_X3 qc_X3 (lwB hB hBB) (j := 2) (by decide) wf_X3_18 dX3_turnMeetings_31 (x := .ref (ad (B + 3))) rfl ?_
        refine r_iload_n (pc := 34) cx dX3_turnMeetings_34 rfl ?_
        refine r_aload_n (pc := 35) cx dX3_turnMeetings_35 rfl ?_
        refine r_get (pc := 36) cx hcl_X3 qc_X3 (lwB hB hBB) (j := 2) (by decide) wf_X3_18 dX3_turnMeetings_36 (x := .ref (ad (B + 3))) rfl ?_
        refine r_iload_n (pc := 39) cx dX3_turnMeetings_39 rfl ?_
        refine r_iaload (pc := 40) cx (lwB_particles hB hBB) rfl (by decide) dX3_turnMeetings_40 ?_
        refine r_iload_n (pc := 41) cx dX3_turnMeetings_41 rfl ?_
        refine r_pSNi (pc := 42) cx (tX5_turned  (σ (B + 3) x3) x2 σ) qm_X5_turned qs_X5_turned wn_X3_100 dX3_turnMeetings_42 rfl rfl (Nat.le_of_ble_eq_true rfl) ⟨Nat.le_of_ble_eq_true rfl, Nat.le_of_ble_eq_true rfl⟩ ⟨rfl, rfl⟩ ⟨Nat.zero_le _, Nat.zero_le _⟩ (fun r42 => ?_)
        refine r_iastore (pc := 45) cx (lwB_particles hB hBB) rfl (by decide) dX3_turnMeetings_45 (fun σ1 => ?_)
        refine r_aload_n (pc := 46) cx dX3_turnMeetings_46 rfl ?_
        refine r_get (pc := 47) cx hcl_X3 qc_X3 (lwB hB hBB) (j := 3) (by decide) wf_X3_21 dX3_turnMeetings_47 (x := .ref (ad (B + 4))) rfl ?_
        refine r_iload_n (pc := 50) cx dX3_turnMeetings_50 rfl ?_
        refine r_aload_n (pc := 51) cx dX3_turnMeetings_51 rfl ?_
        refine r_get (pc := 52) cx hcl_X3 qc_X3 (lwB hB hBB) (j := 3) (by decide) wf_X3_21 dX3_turnMeetings_52 (x := .ref (ad (B + 4))) rfl ?_
        refine r_iload_n (pc := 55) cx dX3_turnMeetings_55 rfl ?_
        refine r_iaload (pc := 56) cx (lwB_dyed hB hBB) rfl (by decide) dX3_turnMeetings_56 ?_
        refine r_iload_n (pc := 57) cx dX3_turnMeetings_57 rfl ?_
        refine r_pSNi (pc := 58) cx (tX5_turned  (σ1 (B + 4) x3) x2 σ1) qm_X5_turned qs_X5_turned wn_X3_100 dX3_turnMeetings_58 rfl rfl (Nat.le_of_ble_eq_true rfl) ⟨Nat.le_of_ble_eq_true rfl, Nat.le_of_ble_eq_true rfl⟩ ⟨rfl, rfl⟩ ⟨Nat.zero_le _, Nat.zero_le _⟩ (fun r58 => ?_)
        refine r_iastore (pc := 61) cx (lwB_dyed hB hBB) rfl (by decide) dX3_turnMeetings_61 (fun σ2 => ?_)
        refine r_aload_n (pc := 62) cx dX3_turnMeetings_62 rfl ?_
        refine r_dup (pc := 63) cx dX3_turnMeetings_63 rfl ?_
        refine r_get (pc := 64) cx hcl_X3 qc_X3 (lwB hB hBB) (j := 12) (by decide) wf_X3_60 dX3_turnMeetings_64 (x := .int (qI (σ2 B 12))) rfl ?_
        refine r_iload_n (pc := 67) cx dX3_turnMeetings_67 rfl ?_
        refine r_iadd (pc := 68) cx dX3_turnMeetings_68 ?_
        refine r_puti (pc := 69) (J := 12) cx hcl_X3 qc_X3 (lwB hB hBB) (j := 12) (by decide) tyX3_ok nmX3 wf_X3_60 rfl (by decide +kernel) rfl (Nat.le_of_ble_eq_true rfl) (fun r => rfl) dX3_turnMeetings_69 (fun σ3 => ?_)
        exact qS.sub (qsub_cons rfl (qsub_cons rfl (qsub_cons rfl (qsub_cons rfl (qsub_nil _))))) (tX3_turnMeetings_c72 cx hB hBB ih _ _ _ _)
def fX3_turnMeetings_c9 (B : Nat) (x1 : Int) (s0 : Int) (σ : qSt) : Option (Int × qSt) :=
  (fX3_turnMeetings_c12 B qFU x1 s0 0 σ)
set_option maxRecDepth 100000 in
set_option maxHeartbeats 4000000 in
theorem tX3_turnMeetings_c9 {p : Program} {l : Launch} {e : Env} {s : State} {m : MethodId} {args : Array Value} {below : List Frame} {meth : Method} {c : Code} {z0 : Nat} {g : qG} {w : qWd} {ad : Nat → Nat} {B : Nat} (cx : qCx p s m meth c cX3_turnMeetings 4 RX3 none g z0) (hB : qBC g ad w) (hBB : B = 1 ∨ B = 14) (x1 : Int) (s0 : Int) (σ : qSt) : qS p l e qrm1 s m args below meth c 4 g z0 w 0 0 (qQ below g z0 w qrv args s 0 0) (fX3_turnMeetings_c9 B x1 s0 σ) σ 9 [(0, some (.ref (ad B))), (1, some (.int (qI x1)))] [.int (qI s0)] := by
  unfold fX3_turnMeetings_c9
  refine r_istore_n (pc := 9) cx dX3_turnMeetings_9 (by decide) rfl ?_
  refine r_iconst (pc := 10) cx dX3_turnMeetings_10 ?_
  refine r_istore_n (pc := 11) cx dX3_turnMeetings_11 (by decide) rfl ?_
  exact qS.sub (qsub_cons rfl (qsub_cons rfl (qsub_cons rfl (qsub_cons rfl (qsub_nil _))))) (tX3_turnMeetings_c12 cx hB hBB _ _ _ _ _)
def fX3_turnMeetings (B : Nat) (p0 : Int) (σ : qSt) : Option (Int × qSt) :=
  (if qI p0 ≤ 0 then (fX3_turnMeetings_c9 B p0 3 σ) else (fX3_turnMeetings_c9 B p0 1 σ))
set_option maxRecDepth 100000 in
set_option maxHeartbeats 4000000 in
theorem tX3_turnMeetings {l : Launch} {z0 : Nat} {g : qG} {w : qWd} {ad : Nat → Nat} {B : Nat} (hB : qBC g ad w) (hBB : B = 1 ∨ B = 14) (p0 : Int) (σ : qSt) : qCT l yX3_turnMeetings cX3_turnMeetings 4 none qrm1 g z0 w [.ref (ad B), .int (qI p0)] σ (fX3_turnMeetings B p0 σ) qrv := by
  refine qCT.of [(0, some (.ref (ad B))), (1, some (.int (qI p0)))] (by decide +kernel) (Nat.le_of_ble_eq_true rfl) rfl ?_
  intro p e s m args below meth c cx
  unfold fX3_turnMeetings
  refine r_iload_n (pc := 0) cx dX3_turnMeetings_0 rfl ?_
  refine r_if_le (tgt := 8) cx dX3_turnMeetings_1 (by decide) ?_ ?_
  · refine r_iconst (pc := 8) cx dX3_turnMeetings_8 ?_
    exact qS.sub (qsub_cons rfl (qsub_cons rfl (qsub_nil _))) (tX3_turnMeetings_c9 cx hB hBB _ _ _)
  · refine r_iconst (pc := 4) cx dX3_turnMeetings_4 ?_
    refine r_goto (pc := 5) (tgt := 9) cx dX3_turnMeetings_5 (by decide) ?_
    exact qS.sub (qsub_cons rfl (qsub_cons rfl (qsub_nil _))) (tX3_turnMeetings_c9 cx hB hBB _ _ _)
def fX3_turnRound_c2 (B : Nat) : Nat → Int → qSt → Option (Int × qSt)
  | 0, _, _ => none
  | f + 1, x1, σ => (if qI 96 ≤ qI x1 then (some (0, σ)) else (if 0 ≤ x1 ∧ x1 < 96 then ((fX5_turned σ (σ (B + 3) x1) 2).bind fun (r20 : Int) => (if 0 ≤ x1 ∧ x1 < 96 then (qb (qset σ (B + 3) x1 r20) fun (σ1 : qSt) => (if 0 ≤ x1 ∧ x1 < 96 then ((fX5_turned σ1 (σ1 (B + 4) x1) 2).bind fun (r36 : Int) => (if 0 ≤ x1 ∧ x1 < 96 then (qb (qset σ1 (B + 4) x1 r36) fun (σ2 : qSt) => (fX3_turnRound_c2 B f (x1 + 1) σ2)) else none)) else none)) else none)) else none))
set_option maxRecDepth 100000 in
set_option maxHeartbeats 4000000 in
theorem tX3_turnRound_c2 {p : Program} {l : Launch} {e : Env} {s : State} {m : MethodId} {args : Array Value} {below : List Frame} {meth : Method} {c : Code} {z0 : Nat} {g : qG} {w : qWd} {ad : Nat → Nat} {B : Nat} (cx : qCx p s m meth c cX3_turnRound 2 RX3 none g z0) (hB : qBC g ad w) (hBB : B = 1 ∨ B = 14) : ∀ (f : Nat) (x1 : Int) (σ : qSt), qS p l e qrm1 s m args below meth c 2 g z0 w 0 0 (qQ below g z0 w qrv args s 0 0) (fX3_turnRound_c2 B f x1 σ) σ 2 [(0, some (.ref (ad B))), (1, some (.int (qI x1)))] [] := by
  intro f
  induction f with
  | zero => exact fun _ _ => qS.fail
  | succ f ih =>
    intro x1 σ
    unfold fX3_turnRound_c2
    refine r_iload_n (pc := 2) cx dX3_turnRound_2 rfl ?_
    refine r_bipush (pc := 3) (v := 96) cx dX3_turnRound_3 (by decide +kernel) ?_
    refine r_icmp_ge (tgt := 46) cx dX3_turnRound_5 (by decide) ?_ ?_
    · exact r_return (w0 := w) (fun _ _ h => h) (Nat.zero_le _) (Nat.zero_le _) cx dX3_turnRound_46 rfl
    · refine r_aload_n (pc := 8) cx dX3_turnRound_8 rfl ?_
      refine r_get (pc := 9) cx hcl_X3 qc_X3 (lwB hB hBB) (j := 2) (by decide) wf_X3_18 dX3_turnRound_9 (x := .ref (ad (B + 3))) rfl ?_
      refine r_iload_n (pc := 12) cx dX3_turnRound_12 rfl ?_
      refine r_aload_n (pc := 13) cx dX3_turnRound_13 rfl ?_
      refine r_get (pc := 14) cx hcl_X3 qc_X3 (lwB hB hBB) (j := 2) (by decide) wf_X3_18 dX3_turnRound_14 (x := .ref (ad (B + 3))) rfl ?_
      refine r_iload_n (pc := 17) cx dX3_turnRound_17 rfl ?_
      refine r_iaload (pc := 18) cx (lwB_particles hB hBB) rfl (by decide) dX3_turnRound_18 ?_
      refine r_iconst (pc := 19) cx dX3_turnRound_19 ?_
      refine r_pSNi (pc := 20) cx (tX5_turned  (σ (B + 3) x1) 2 σ) qm_X5_turned qs_X5_turned wn_X3_100 dX3_turnRound_20 rfl rfl (Nat.le_of_ble_eq_true rfl) ⟨Nat.le_of_ble_eq_true rfl, Nat.le_of_ble_eq_true rfl⟩ ⟨rfl, rfl⟩ ⟨Nat.zero_le _, Nat.zero_le _⟩ (fun r20 => ?_)
      refine r_iastore (pc := 23) cx (lwB_particles hB hBB) rfl (by decide) dX3_turnRound_23 (fun σ1 => ?_)
      refine r_aload_n (pc := 24) cx dX3_turnRound_24 rfl ?_
      refine r_get (pc := 25) cx hcl_X3 qc_X3 (lwB hB hBB) (j := 3) (by decide) wf_X3_21 dX3_turnRound_25 (x := .ref (ad (B + 4))) rfl ?_
      refine r_iload_n (pc := 28) cx dX3_turnRound_28 rfl ?_
      refine r_aload_n (pc := 29) cx dX3_turnRound_29 rfl ?_
      refine r_get (pc := 30) cx hcl_X3 qc_X3 (lwB hB hBB) (j := 3) (by decide) wf_X3_21 dX3_turnRound_30 (x := .ref (ad (B + 4))) rfl ?_
      refine r_iload_n (pc := 33) cx dX3_turnRound_33 rfl ?_
      refine r_iaload (pc := 34) cx (lwB_dyed hB hBB) rfl (by decide) dX3_turnRound_34 ?_
      refine r_iconst (pc := 35) cx dX3_turnRound_35 ?_
      refine r_pSNi (pc := 36) cx (tX5_turned  (σ1 (B + 4) x1) 2 σ1) qm_X5_turned qs_X5_turned wn_X3_100 dX3_turnRound_36 rfl rfl (Nat.le_of_ble_eq_true rfl) ⟨Nat.le_of_ble_eq_true rfl, Nat.le_of_ble_eq_true rfl⟩ ⟨rfl, rfl⟩ ⟨Nat.zero_le _, Nat.zero_le _⟩ (fun r36 => ?_)
      refine r_iastore (pc := 39) cx (lwB_dyed hB hBB) rfl (by decide) dX3_turnRound_39 (fun σ2 => ?_)
      refine r_iinc (pc := 40) cx dX3_turnRound_40 rfl (by decide) rfl ?_
      refine r_goto (pc := 43) (tgt := 2) cx dX3_turnRound_43 (by decide) ?_
      exact qS.sub (qsub_cons rfl (qsub_cons rfl (qsub_nil _))) (ih _ _)
def fX3_turnRound (B : Nat) (σ : qSt) : Option (Int × qSt) :=
  (fX3_turnRound_c2 B qFU 0 σ)
set_option maxRecDepth 100000 in
set_option maxHeartbeats 4000000 in
theorem tX3_turnRound {l : Launch} {z0 : Nat} {g : qG} {w : qWd} {ad : Nat → Nat} {B : Nat} (hB : qBC g ad w) (hBB : B = 1 ∨ B = 14) (σ : qSt) : qCT l yX3_turnRound cX3_turnRound 2 none qrm1 g z0 w [.ref (ad B)] σ (fX3_turnRound B σ) qrv := by
  refine qCT.of [(0, some (.ref (ad B)))] (by decide +kernel) (Nat.le_of_ble_eq_true rfl) rfl ?_
  intro p e s m args below meth c cx
  unfold fX3_turnRound
  refine r_iconst (pc := 0) cx dX3_turnRound_0 ?_
  refine r_istore_n (pc := 1) cx dX3_turnRound_1 (by decide) rfl ?_
  exact qS.sub (qsub_cons rfl (qsub_cons rfl (qsub_nil _))) (tX3_turnRound_c2 cx hB hBB _ _ _)
def fX3_countHit_c79 (B : Nat) (x4 : Int) (x5 : Int) (σ : qSt) : Option (Int × qSt) :=
  (if 0 ≤ x4 ∧ x4 < 4 then (if 0 ≤ x4 ∧ x4 < 4 then (qb (qset σ (B + 8) x4 ((σ (B + 8) x4) + x5)) fun (σ5 : qSt) => (some (0, σ5))) else none) else none)
set_option maxRecDepth 100000 in
set_option maxHeartbeats 4000000 in
theorem tX3_countHit_c79 {p : Program} {l : Launch} {e : Env} {s : State} {m : MethodId} {args : Array Value} {below : List Frame} {meth : Method} {c : Code} {z0 : Nat} {g : qG} {w : qWd} {ad : Nat → Nat} {B : Nat} (cx : qCx p s m meth c cX3_countHit 6 RX3 none g z0) (hB : qBC g ad w) (hBB : B = 1 ∨ B = 14) (x4 : Int) (x5 : Int) (σ : qSt) : qS p l e qrm1 s m args below meth c 6 g z0 w 0 0 (qQ below g z0 w qrv args s 0 0) (fX3_countHit_c79 B x4 x5 σ) σ 79 [(0, some (.ref (ad B))), (4, some (.int (qI x4))), (5, some (.int (qI x5)))] [] := by
  unfold fX3_countHit_c79
  refine r_aload_n (pc := 79) cx dX3_countHit_79 rfl ?_
  refine r_get (pc := 80) cx hcl_X3 qc_X3 (lwB hB hBB) (j := 7) (by decide) wf_X3_33 dX3_countHit_80 (x := .ref (ad (B + 8))) rfl ?_
  refine r_iload (pc := 83) cx dX3_countHit_83 rfl ?_
  refine r_dup2 (pc := 85) cx dX3_countHit_85 rfl rfl ?_
  refine r_iaload (pc := 86) cx (lwB_pushRight hB hBB) rfl (by decide) dX3_countHit_86 ?_
  refine r_iload (pc := 87) cx dX3_countHit_87 rfl ?_
  refine r_iadd (pc := 89) cx dX3_countHit_89 ?_
  refine r_iastore (pc := 90) cx (lwB_pushRight hB hBB) rfl (by decide) dX3_countHit_90 (fun σ5 => ?_)
  refine r_goto (pc := 91) (tgt := 106) cx dX3_countHit_91 (by decide) ?_
  exact r_return (w0 := w) (fun _ _ h => h) (Nat.zero_le _) (Nat.zero_le _) cx dX3_countHit_106 rfl
def fX3_countHit_c68 (B : Nat) (x2 : Int) (x4 : Int) (s0 : Int) (σ : qSt) : Option (Int × qSt) :=
  (if qI x2 = 0 then (fX3_countHit_c79 B x4 s0 σ) else (if qI x2 = qI 2 then (fX3_countHit_c79 B x4 s0 σ) else (if 0 ≤ x4 ∧ x4 < 4 then (if 0 ≤ x4 ∧ x4 < 4 then (qb (qset σ (B + 9) x4 ((σ (B + 9) x4) + s0)) fun (σ4 : qSt) => (some (0, σ4))) else none) else none)))
set_option maxRecDepth 100000 in
set_option maxHeartbeats 4000000 in
theorem tX3_countHit_c68 {p : Program} {l : Launch} {e : Env} {s : State} {m : MethodId} {args : Array Value} {below : List Frame} {meth : Method} {c : Code} {z0 : Nat} {g : qG} {w : qWd} {ad : Nat → Nat} {B : Nat} (cx : qCx p s m meth c cX3_countHit 6 RX3 none g z0) (hB : qBC g ad w) (hBB : B = 1 ∨ B = 14) (x2 : Int) (x4 : Int) (s0 : Int) (σ : qSt) : qS p l e qrm1 s m args below meth c 6 g z0 w 0 0 (qQ below g z0 w qrv args s 0 0) (fX3_countHit_c68 B x2 x4 s0 σ) σ 68 [(0, some (.ref (ad B))), (2, some (.int (qI x2))), (4, some (.int (qI x4)))] [.int (qI s0)] := by
  unfold fX3_countHit_c68
  refine r_istore (pc := 68) cx dX3_countHit_68 (by decide) rfl ?_
  refine r_iload_n (pc := 70) cx dX3_countHit_70 rfl ?_
  refine r_if_eq (tgt := 79) cx dX3_countHit_71 (by decide) ?_ ?_
  · exact qS.sub (qsub_cons rfl (qsub_cons rfl (qsub_cons rfl (qsub_nil _)))) (tX3_countHit_c79 cx hB hBB _ _ _)
  · refine r_iload_n (pc := 74) cx dX3_countHit_74 rfl ?_
    refine r_iconst (pc := 75) cx dX3_countHit_75 ?_
    refine r_icmp_ne (tgt := 94) cx dX3_countHit_76 (by decide) ?_ ?_
    · refine r_aload_n (pc := 94) cx dX3_countHit_94 rfl ?_
      refine r_get (pc := 95) cx hcl_X3 qc_X3 (lwB hB hBB) (j := 8) (by decide) wf_X3_36 dX3_countHit_95 (x := .ref (ad (B + 9))) rfl ?_
      refine r_iload (pc := 98) cx dX3_countHit_98 rfl ?_
      refine r_dup2 (pc := 100) cx dX3_countHit_100 rfl rfl ?_
      refine r_iaload (pc := 101) cx (lwB_pushUp hB hBB) rfl (by decide) dX3_countHit_101 ?_
      refine r_iload (pc := 102) cx dX3_countHit_102 rfl ?_
      refine r_iadd (pc := 104) cx dX3_countHit_104 ?_
      refine r_iastore (pc := 105) cx (lwB_pushUp hB hBB) rfl (by decide) dX3_countHit_105 (fun σ4 => ?_)
      exact r_return (w0 := w) (fun _ _ h => h) (Nat.zero_le _) (Nat.zero_le _) cx dX3_countHit_106 rfl
    · exact qS.sub (qsub_cons rfl (qsub_cons rfl (qsub_cons rfl (qsub_nil _)))) (tX3_countHit_c79 cx hB hBB _ _ _)
def fX3_countHit_c58 (B : Nat) (x2 : Int) (x3 : Int) (x4 : Int) (σ : qSt) : Option (Int × qSt) :=
  (fX3_countHit_c68 B x2 x4 (2 * x3) σ)
set_option maxRecDepth 100000 in
set_option maxHeartbeats 4000000 in
theorem tX3_countHit_c58 {p : Program} {l : Launch} {e : Env} {s : State} {m : MethodId} {args : Array Value} {below : List Frame} {meth : Method} {c : Code} {z0 : Nat} {g : qG} {w : qWd} {ad : Nat → Nat} {B : Nat} (cx : qCx p s m meth c cX3_countHit 6 RX3 none g z0) (hB : qBC g ad w) (hBB : B = 1 ∨ B = 14) (x2 : Int) (x3 : Int) (x4 : Int) (σ : qSt) : qS p l e qrm1 s m args below meth c 6 g z0 w 0 0 (qQ below g z0 w qrv args s 0 0) (fX3_countHit_c58 B x2 x3 x4 σ) σ 58 [(0, some (.ref (ad B))), (2, some (.int (qI x2))), (3, some (.int (qI x3))), (4, some (.int (qI x4)))] [] := by
  unfold fX3_countHit_c58
  refine r_iconst (pc := 58) cx dX3_countHit_58 ?_
  refine r_iload_n (pc := 59) cx dX3_countHit_59 rfl ?_
  refine r_imul (pc := 60) cx dX3_countHit_60 ?_
  refine r_goto (pc := 61) (tgt := 68) cx dX3_countHit_61 (by decide) ?_
  exact qS.sub (qsub_cons rfl (qsub_cons rfl (qsub_cons rfl (qsub_nil _)))) (tX3_countHit_c68 cx hB hBB _ _ _ _)
def fX3_countHit (B : Nat) (p0 : Int) (p1 : Int) (p2 : Int) (σ : qSt) : Option (Int × qSt) :=
  (if 0 ≤ p1 ∧ p1 < 4 then (if 0 ≤ p1 ∧ p1 < 4 then (qb (qset σ (B + 12) p1 ((σ (B + 12) p1) + p2)) fun (σ1 : qSt) => ((fX5_isNoCell σ1 p0).bind fun (r11 : Int) => (if qI r11 = 0 then (if 0 ≤ p0 ∧ p0 < 96 then ((fX5_isNoBody σ1 (σ1 (B + 2) p0)).bind fun (r23 : Int) => (if qI r23 = 0 then (if 0 ≤ p0 ∧ p0 < 96 then (qb (σ1 (B + 2) p0) fun (y2 : Int) => (if 0 ≤ y2 ∧ y2 < 4 then (if 0 ≤ y2 ∧ y2 < 4 then (qb (qset σ1 (B + 7) y2 ((σ1 (B + 7) y2) + p2)) fun (σ3 : qSt) => (if qI p1 = 0 then (fX3_countHit_c58 B p1 p2 y2 σ3) else (if qI p1 = qI 1 then (fX3_countHit_c58 B p1 p2 y2 σ3) else (fX3_countHit_c68 B p1 y2 ((-2) * p2) σ3)))) else none) else none)) else none) else (some (0, σ1)))) else none) else (some (0, σ1))))) else none) else none)
set_option maxRecDepth 100000 in
set_option maxHeartbeats 4000000 in
theorem tX3_countHit {l : Launch} {z0 : Nat} {g : qG} {w : qWd} {ad : Nat → Nat} {B : Nat} (hB : qBC g ad w) (hBB : B = 1 ∨ B = 14) (p0 : Int) (p1 : Int) (p2 : Int) (σ : qSt) : qCT l yX3_countHit cX3_countHit 6 none qrm1 g z0 w [.ref (ad B), .int (qI p0), .int (qI p1), .int (qI p2)] σ (fX3_countHit B p0 p1 p2 σ) qrv := by
  refine qCT.of [(0, some (.ref (ad B))), (1, some (.int (qI p0))), (2, some (.int (qI p1))), (3, some (.int (qI p2)))] (by decide +kernel) (Nat.le_of_ble_eq_true rfl) rfl ?_
  intro p e s m args below meth c cx
  unfold fX3_countHit
  refine r_aload_n (pc := 0) cx dX3_countHit_0 rfl ?_
  refine r_get (pc := 1) cx hcl_X3 qc_X3 (lwB hB hBB) (j := 11) (by decide) wf_X3_45 dX3_countHit_1 (x := .ref (ad (B + 12))) rfl ?_
  refine r_iload_n (pc := 4) cx dX3_countHit_4 rfl ?_
  refine r_dup2 (pc := 5) cx dX3_countHit_5 rfl rfl ?_
  refine r_iaload (pc := 6) cx (lwB_struck hB hBB) rfl (by decide) dX3_countHit_6 ?_
  refine r_iload_n (pc := 7) cx dX3_countHit_7 rfl ?_
  refine r_iadd (pc := 8) cx dX3_countHit_8 ?_
  refine r_iastore (pc := 9) cx (lwB_struck hB hBB) rfl (by decide) dX3_countHit_9 (fun σ1 => ?_)
  refine r_iload_n (pc := 10) cx dX3_countHit_10 rfl ?_
  refine r_pSNi (pc := 11) cx (tX5_isNoCell  p0 σ1) qm_X5_isNoCell qs_X5_isNoCell wn_X3_64 dX3_countHit_11 rfl rfl (Nat.le_of_ble_eq_true rfl) ⟨Nat.le_of_ble_eq_true rfl, Nat.le_of_ble_eq_true rfl⟩ ⟨rfl, rfl⟩ ⟨Nat.zero_le _, Nat.zero_le _⟩ (fun r11 => ?_)
  refine r_if_ne (tgt := 29) cx dX3_countHit_14 (by decide) ?_ ?_
  · exact r_return (w0 := w) (fun _ _ h => h) (Nat.zero_le _) (Nat.zero_le _) cx dX3_countHit_29 rfl
  · refine r_aload_n (pc := 17) cx dX3_countHit_17 rfl ?_
    refine r_get (pc := 18) cx hcl_X3 qc_X3 (lwB hB hBB) (j := 1) (by decide) wf_X3_15 dX3_countHit_18 (x := .ref (ad (B + 2))) rfl ?_
    refine r_iload_n (pc := 21) cx dX3_countHit_21 rfl ?_
    refine r_iaload (pc := 22) cx (lwB_bodies hB hBB) rfl (by decide) dX3_countHit_22 ?_
    refine r_pSNi (pc := 23) cx (tX5_isNoBody  (σ1 (B + 2) p0) σ1) qm_X5_isNoBody qs_X5_isNoBody wn_X3_120 dX3_countHit_23 rfl rfl (Nat.le_of_ble_eq_true rfl) ⟨Nat.le_of_ble_eq_true rfl, Nat.le_of_ble_eq_true rfl⟩ ⟨rfl, rfl⟩ ⟨Nat.zero_le _, Nat.zero_le _⟩ (fun r23 => ?_)
    refine r_if_eq (tgt := 30) cx dX3_countHit_26 (by decide) ?_ ?_
    · refine r_aload_n (pc := 30) cx dX3_countHit_30 rfl ?_
      refine r_get (pc := 31) cx hcl_X3 qc_X3 (lwB hB hBB) (j := 1) (by decide) wf_X3_15 dX3_countHit_31 (x := .ref (ad (B + 2))) rfl ?_
      refine r_iload_n (pc := 34) cx dX3_countHit_34 rfl ?_
      refine r_iaload (pc := 35) cx (lwB_bodies hB hBB) rfl (by decide) dX3_countHit_35 ?_
      refine r_nmi (fun y2 => ?_)
      refine r_istore (pc := 36) cx dX3_countHit_36 (by decide) rfl ?_
      refine r_aload_n (pc := 38) cx dX3_countHit_38 rfl ?_
      refine r_get (pc := 39) cx hcl_X3 qc_X3 (lwB hB hBB) (j := 6) (by decide) wf_X3_30 dX3_countHit_39 (x := .ref (ad (B + 7))) rfl ?_
      refine r_iload (pc := 42) cx dX3_countHit_42 rfl ?_
      refine r_dup2 (pc := 44) cx dX3_countHit_44 rfl rfl ?_
      refine r_iaload (pc := 45) cx (lwB_hits hB hBB) rfl (by decide) dX3_countHit_45 ?_
      refine r_iload_n (pc := 46) cx dX3_countHit_46 rfl ?_
      refine r_iadd (pc := 47) cx dX3_countHit_47 ?_
      refine r_iastore (pc := 48) cx (lwB_hits hB hBB) rfl (by decide) dX3_countHit_48 (fun σ3 => ?_)
      refine r_iload_n (pc := 49) cx dX3_countHit_49 rfl ?_
      refine r_if_eq (tgt := 58) cx dX3_countHit_50 (by decide) ?_ ?_
      · exact qS.sub (qsub_cons rfl (qsub_cons rfl (qsub_cons rfl (qsub_cons rfl (qsub_nil _))))) (tX3_countHit_c58 cx hB hBB _ _ _ _)
      · refine r_iload_n (pc := 53) cx dX3_countHit_53 rfl ?_
        refine r_iconst (pc := 54) cx dX3_countHit_54 ?_
        refine r_icmp_ne (tgt := 64) cx dX3_countHit_55 (by decide) ?_ ?_
        · refine r_bipush (pc := 64) (v := (-2)) cx dX3_countHit_64 (by decide +kernel) ?_
          refine r_iload_n (pc := 66) cx dX3_countHit_66 rfl ?_
          refine r_imul (pc := 67) cx dX3_countHit_67 ?_
          exact qS.sub (qsub_cons rfl (qsub_cons rfl (qsub_cons rfl (qsub_nil _)))) (tX3_countHit_c68 cx hB hBB _ _ _ _)
        · exact qS.sub (qsub_cons rfl (qsub_cons rfl (qsub_cons rfl (qsub_cons rfl (qsub_nil _))))) (tX3_countHit_c58 cx hB hBB _ _ _ _)
    · exact r_return (w0 := w) (fun _ _ h => h) (Nat.zero_le _) (Nat.zero_le _) cx dX3_countHit_29 rfl
def fX3_hopOne_c40 (B : Nat) (x1 : Int) (x2 : Int) (x5 : Int) (x6 : Int) (σ : qSt) : Option (Int × qSt) :=
  (if 0 ≤ x5 ∧ x5 < 96 then (if 0 ≤ x5 ∧ x5 < 96 then (qb (qset σ (B + 5) x5 (qor (σ (B + 5) x5) (qshl 1 x6))) fun (σ2 : qSt) => (if 0 ≤ x5 ∧ x5 < 96 then (if 0 ≤ x1 ∧ x1 < 96 then (if 0 ≤ x5 ∧ x5 < 96 then (qb (qset σ2 (B + 6) x5 (qor (σ2 (B + 6) x5) (qshl (qand (qshr (σ2 (B + 4) x1) x2) 1) x6))) fun (σ3 : qSt) => (some (0, σ3))) else none) else none) else none)) else none) else none)
set_option maxRecDepth 100000 in
set_option maxHeartbeats 4000000 in
theorem tX3_hopOne_c40 {p : Program} {l : Launch} {e : Env} {s : State} {m : MethodId} {args : Array Value} {below : List Frame} {meth : Method} {c : Code} {z0 : Nat} {g : qG} {w : qWd} {ad : Nat → Nat} {B : Nat} (cx : qCx p s m meth c cX3_hopOne 7 RX3 none g z0) (hB : qBC g ad w) (hBB : B = 1 ∨ B = 14) (x1 : Int) (x2 : Int) (x5 : Int) (x6 : Int) (σ : qSt) : qS p l e qrm2 s m args below meth c 7 g z0 w 0 0 (qQ below g z0 w qrv args s 0 0) (fX3_hopOne_c40 B x1 x2 x5 x6 σ) σ 40 [(0, some (.ref (ad B))), (1, some (.int (qI x1))), (2, some (.int (qI x2))), (5, some (.int (qI x5))), (6, some (.int (qI x6)))] [] := by
  unfold fX3_hopOne_c40
  refine r_aload_n (pc := 40) cx dX3_hopOne_40 rfl ?_
  refine r_get (pc := 41) cx hcl_X3 qc_X3 (lwB hB hBB) (j := 4) (by decide) wf_X3_24 dX3_hopOne_41 (x := .ref (ad (B + 5))) rfl ?_
  refine r_iload (pc := 44) cx dX3_hopOne_44 rfl ?_
  refine r_dup2 (pc := 46) cx dX3_hopOne_46 rfl rfl ?_
  refine r_iaload (pc := 47) cx (lwB_hoppedParticles hB hBB) rfl (by decide) dX3_hopOne_47 ?_
  refine r_iconst (pc := 48) cx dX3_hopOne_48 ?_
  refine r_iload (pc := 49) cx dX3_hopOne_49 rfl ?_
  refine r_ishl (pc := 51) cx dX3_hopOne_51 ?_
  refine r_ior (pc := 52) cx dX3_hopOne_52 ?_
  refine r_iastore (pc := 53) cx (lwB_hoppedParticles hB hBB) rfl (by decide) dX3_hopOne_53 (fun σ2 => ?_)
  refine r_aload_n (pc := 54) cx dX3_hopOne_54 rfl ?_
  refine r_get (pc := 55) cx hcl_X3 qc_X3 (lwB hB hBB) (j := 5) (by decide) wf_X3_27 dX3_hopOne_55 (x := .ref (ad (B + 6))) rfl ?_
  refine r_iload (pc := 58) cx dX3_hopOne_58 rfl ?_
  refine r_dup2 (pc := 60) cx dX3_hopOne_60 rfl rfl ?_
  refine r_iaload (pc := 61) cx (lwB_hoppedDyed hB hBB) rfl (by decide) dX3_hopOne_61 ?_
  refine r_aload_n (pc := 62) cx dX3_hopOne_62 rfl ?_
  refine r_get (pc := 63) cx hcl_X3 qc_X3 (lwB hB hBB) (j := 3) (by decide) wf_X3_21 dX3_hopOne_63 (x := .ref (ad (B + 4))) rfl ?_
  refine r_iload_n (pc := 66) cx dX3_hopOne_66 rfl ?_
  refine r_iaload (pc := 67) cx (lwB_dyed hB hBB) rfl (by decide) dX3_hopOne_67 ?_
  refine r_iload_n (pc := 68) cx dX3_hopOne_68 rfl ?_
  refine r_ishr (pc := 69) cx dX3_hopOne_69 ?_
  refine r_iconst (pc := 70) cx dX3_hopOne_70 ?_
  refine r_iand (pc := 71) cx dX3_hopOne_71 ?_
  refine r_iload (pc := 72) cx dX3_hopOne_72 rfl ?_
  refine r_ishl (pc := 74) cx dX3_hopOne_74 ?_
  refine r_ior (pc := 75) cx dX3_hopOne_75 ?_
  refine r_iastore (pc := 76) cx (lwB_hoppedDyed hB hBB) rfl (by decide) dX3_hopOne_76 (fun σ3 => ?_)
  exact r_return (w0 := w) (fun _ _ h => h) (Nat.zero_le _) (Nat.zero_le _) cx dX3_hopOne_77 rfl
def fX3_hopOne (B : Nat) (p0 : Int) (p1 : Int) (p2 : Int) (σ : qSt) : Option (Int × qSt) :=
  ((fX5_beside σ p0 p1).bind fun (r2 : Int) => ((fX3_isShut B σ r2).bind fun (r17 : Int) => (if qI r17 = 0 then (fX3_hopOne_c40 B p0 p1 r2 p1 σ) else (qbd (fX3_countHit B r2 p1 p2 σ) fun (r28 : Int) (σ1 : qSt) => ((fX5_opposite σ1 p1).bind fun (r35 : Int) => (fX3_hopOne_c40 B p0 p1 p0 r35 σ1))))))
set_option maxRecDepth 100000 in
set_option maxHeartbeats 4000000 in
theorem tX3_hopOne {l : Launch} {z0 : Nat} {g : qG} {w : qWd} {ad : Nat → Nat} {B : Nat} (hB : qBC g ad w) (hBB : B = 1 ∨ B = 14) (p0 : Int) (p1 : Int) (p2 : Int) (σ : qSt) : qCT l yX3_hopOne cX3_hopOne 7 none qrm2 g z0 w [.ref (ad B), .int (qI p0), .int (qI p1), .int (qI p2)] σ (fX3_hopOne B p0 p1 p2 σ) qrv := by
  refine qCT.of [(0, some (.ref (ad B))), (1, some (.int (qI p0))), (2, some (.int (qI p1))), (3, some (.int (qI p2)))] (by decide +kernel) (Nat.le_of_ble_eq_true rfl) rfl ?_
  intro p e s m args below meth c cx
  unfold fX3_hopOne
  refine r_iload_n (pc := 0) cx dX3_hopOne_0 rfl ?_
  refine r_iload_n (pc := 1) cx dX3_hopOne_1 rfl ?_
  refine r_pSNi (pc := 2) cx (tX5_beside  p0 p1 σ) qm_X5_beside qs_X5_beside wn_X3_111 dX3_hopOne_2 rfl rfl (Nat.le_of_ble_eq_true rfl) ⟨Nat.le_of_ble_eq_true rfl, Nat.le_of_ble_eq_true rfl⟩ ⟨rfl, rfl⟩ ⟨Nat.zero_le _, Nat.zero_le _⟩ (fun r2 => ?_)
  refine r_istore (pc := 5) cx dX3_hopOne_5 (by decide) rfl ?_
  refine r_iload (pc := 7) cx dX3_hopOne_7 rfl ?_
  refine r_istore (pc := 9) cx dX3_hopOne_9 (by decide) rfl ?_
  refine r_iload_n (pc := 11) cx dX3_hopOne_11 rfl ?_
  refine r_istore (pc := 12) cx dX3_hopOne_12 (by decide) rfl ?_
  refine r_aload_n (pc := 14) cx dX3_hopOne_14 rfl ?_
  refine r_iload (pc := 15) cx dX3_hopOne_15 rfl ?_
  refine r_pVi (pc := 17) cx (tX3_isShut hB hBB r2 σ) qm_X3_isShut qv_X3_isShut hcl_X3 (lwB hB hBB) wm_X3_114 dX3_hopOne_17 rfl rfl (Nat.le_of_ble_eq_true rfl) ⟨Nat.le_of_ble_eq_true rfl, Nat.le_of_ble_eq_true rfl⟩ ⟨rfl, rfl⟩ ⟨Nat.zero_le _, Nat.zero_le _⟩ (fun r17 => ?_)
  refine r_if_eq (tgt := 40) cx dX3_hopOne_20 (by decide) ?_ ?_
  · exact qS.sub (qsub_cons rfl (qsub_cons rfl (qsub_cons rfl (qsub_cons rfl (qsub_cons rfl (qsub_nil _)))))) (tX3_hopOne_c40 cx hB hBB _ _ _ _ _)
  · refine r_aload_n (pc := 23) cx dX3_hopOne_23 rfl ?_
    refine r_iload (pc := 24) cx dX3_hopOne_24 rfl ?_
    refine r_iload_n (pc := 26) cx dX3_hopOne_26 rfl ?_
    refine r_iload_n (pc := 27) cx dX3_hopOne_27 rfl ?_
    refine r_dVv (pc := 28) cx (tX3_countHit hB hBB r2 p1 p2 σ) qm_X3_countHit qv_X3_countHit hcl_X3 (lwB hB hBB) wm_X3_117 dX3_hopOne_28 rfl rfl (Nat.le_of_ble_eq_true rfl) ⟨Nat.le_of_ble_eq_true rfl, Nat.le_of_ble_eq_true rfl⟩ ⟨rfl, rfl⟩ ⟨Nat.zero_le _, Nat.zero_le _⟩ (fun r28 σ1 => ?_)
    refine r_iload_n (pc := 31) cx dX3_hopOne_31 rfl ?_
    refine r_istore (pc := 32) cx dX3_hopOne_32 (by decide) rfl ?_
    refine r_iload_n (pc := 34) cx dX3_hopOne_34 rfl ?_
    refine r_pSNi (pc := 35) cx (tX5_opposite  p1 σ1) qm_X5_opposite qs_X5_opposite wn_X3_78 dX3_hopOne_35 rfl rfl (Nat.le_of_ble_eq_true rfl) ⟨Nat.le_of_ble_eq_true rfl, Nat.le_of_ble_eq_true rfl⟩ ⟨rfl, rfl⟩ ⟨Nat.zero_le _, Nat.zero_le _⟩ (fun r35 => ?_)
    refine r_istore (pc := 38) cx dX3_hopOne_38 (by decide) rfl ?_
    exact qS.sub (qsub_cons rfl (qsub_cons rfl (qsub_cons rfl (qsub_cons rfl (qsub_cons rfl (qsub_nil _)))))) (tX3_hopOne_c40 cx hB hBB _ _ _ _ _)
def fX3_hopAll_c66 (B : Nat) (k18 : Int → Int → qSt → Option (Int × qSt)) (x1 : Int) (x2 : Int) (σ : qSt) : Option (Int × qSt) :=
  (k18 x1 (x2 + 1) σ)
set_option maxRecDepth 100000 in
set_option maxHeartbeats 4000000 in
theorem tX3_hopAll_c66 {p : Program} {l : Launch} {e : Env} {s : State} {m : MethodId} {args : Array Value} {below : List Frame} {meth : Method} {c : Code} {z0 : Nat} {g : qG} {w : qWd} {ad : Nat → Nat} {B : Nat} (cx : qCx p s m meth c cX3_hopAll 4 RX3 none g z0) (hB : qBC g ad w) (hBB : B = 1 ∨ B = 14) {k18 : Int → Int → qSt → Option (Int × qSt)} (hk18 : ∀ (x1 : Int) (x2 : Int) (σ : qSt), qS p l e qrm3 s m args below meth c 4 g z0 w 0 0 (qQ below g z0 w qrv args s 0 0) (k18 x1 x2 σ) σ 18 [(0, some (.ref (ad B))), (1, some (.int (qI x1))), (2, some (.int (qI x2)))] []) (x1 : Int) (x2 : Int) (σ : qSt) : qS p l e qrm3 s m args below meth c 4 g z0 w 0 0 (qQ below g z0 w qrv args s 0 0) (fX3_hopAll_c66 B k18 x1 x2 σ) σ 66 [(0, some (.ref (ad B))), (1, some (.int (qI x1))), (2, some (.int (qI x2)))] [] := by
  unfold fX3_hopAll_c66
  refine r_iinc (pc := 66) cx dX3_hopAll_66 rfl (by decide) rfl ?_
  refine r_goto (pc := 69) (tgt := 18) cx dX3_hopAll_69 (by decide) ?_
  exact qS.sub (qsub_cons rfl (qsub_cons rfl (qsub_cons rfl (qsub_nil _)))) (hk18 _ _ _)
def fX3_hopAll_c60 (B : Nat) (k18 : Int → Int → qSt → Option (Int × qSt)) (k26 : Int → Int → Int → qSt → Option (Int × qSt)) (x1 : Int) (x2 : Int) (x3 : Int) (σ : qSt) : Option (Int × qSt) :=
  (k26 x1 x2 (x3 + 1) σ)
set_option maxRecDepth 100000 in
set_option maxHeartbeats 4000000 in
theorem tX3_hopAll_c60 {p : Program} {l : Launch} {e : Env} {s : State} {m : MethodId} {args : Array Value} {below : List Frame} {meth : Method} {c : Code} {z0 : Nat} {g : qG} {w : qWd} {ad : Nat → Nat} {B : Nat} (cx : qCx p s m meth c cX3_hopAll 4 RX3 none g z0) (hB : qBC g ad w) (hBB : B = 1 ∨ B = 14) {k18 : Int → Int → qSt → Option (Int × qSt)} (hk18 : ∀ (x1 : Int) (x2 : Int) (σ : qSt), qS p l e qrm3 s m args below meth c 4 g z0 w 0 0 (qQ below g z0 w qrv args s 0 0) (k18 x1 x2 σ) σ 18 [(0, some (.ref (ad B))), (1, some (.int (qI x1))), (2, some (.int (qI x2)))] []) {k26 : Int → Int → Int → qSt → Option (Int × qSt)} (hk26 : ∀ (x1 : Int) (x2 : Int) (x3 : Int) (σ : qSt), qS p l e qrm3 s m args below meth c 4 g z0 w 0 0 (qQ below g z0 w qrv args s 0 0) (k26 x1 x2 x3 σ) σ 26 [(0, some (.ref (ad B))), (1, some (.int (qI x1))), (2, some (.int (qI x2))), (3, some (.int (qI x3)))] []) (x1 : Int) (x2 : Int) (x3 : Int) (σ : qSt) : qS p l e qrm3 s m args below meth c 4 g z0 w 0 0 (qQ below g z0 w qrv args s 0 0) (fX3_hopAll_c60 B k18 k26 x1 x2 x3 σ) σ 60 [(0, some (.ref (ad B))), (1, some (.int (qI x1))), (2, some (.int (qI x2))), (3, some (.int (qI x3)))] [] := by
  unfold fX3_hopAll_c60
  refine r_iinc (pc := 60) cx dX3_hopAll_60 rfl (by decide) rfl ?_
  refine r_goto (pc := 63) (tgt := 26) cx dX3_hopAll_63 (by decide) ?_
  exact qS.sub (qsub_cons rfl (qsub_cons rfl (qsub_cons rfl (qsub_cons rfl (qsub_nil _))))) (hk26 _ _ _ _)
def fX3_hopAll_c26 (B : Nat) (k18 : Int → Int → qSt → Option (Int × qSt)) : Nat → Int → Int → Int → qSt → Option (Int × qSt)
  | 0, _, _, _, _ => none
  | f + 1, x1, x2, x3, σ => (if qI 4 ≤ qI x3 then (fX3_hopAll_c66 B k18 x1 x2 σ) else (if 0 ≤ x2 ∧ x2 < 96 then (if qI (σ (B + 3) x2) = 0 then (fX3_hopAll_c66 B k18 x1 x2 σ) else (if 0 ≤ x2 ∧ x2 < 96 then ((fX5_has σ (σ (B + 3) x2) x3).bind fun (r47 : Int) => (if qI r47 = 0 then (fX3_hopAll_c60 B k18 (fX3_hopAll_c26 B k18 f) x1 x2 x3 σ) else (qbd (fX3_hopOne B x2 x3 x1 σ) fun (r57 : Int) (σ5 : qSt) => (fX3_hopAll_c60 B k18 (fX3_hopAll_c26 B k18 f) x1 x2 x3 σ5)))) else none)) else none))
set_option maxRecDepth 100000 in
set_option maxHeartbeats 4000000 in
theorem tX3_hopAll_c26 {p : Program} {l : Launch} {e : Env} {s : State} {m : MethodId} {args : Array Value} {below : List Frame} {meth : Method} {c : Code} {z0 : Nat} {g : qG} {w : qWd} {ad : Nat → Nat} {B : Nat} (cx : qCx p s m meth c cX3_hopAll 4 RX3 none g z0) (hB : qBC g ad w) (hBB : B = 1 ∨ B = 14) {k18 : Int → Int → qSt → Option (Int × qSt)} (hk18 : ∀ (x1 : Int) (x2 : Int) (σ : qSt), qS p l e qrm3 s m args below meth c 4 g z0 w 0 0 (qQ below g z0 w qrv args s 0 0) (k18 x1 x2 σ) σ 18 [(0, some (.ref (ad B))), (1, some (.int (qI x1))), (2, some (.int (qI x2)))] []) : ∀ (f : Nat) (x1 : Int) (x2 : Int) (x3 : Int) (σ : qSt), qS p l e qrm3 s m args below meth c 4 g z0 w 0 0 (qQ below g z0 w qrv args s 0 0) (fX3_hopAll_c26 B k18 f x1 x2 x3 σ) σ 26 [(0, some (.ref (ad B))), (1, some (.int (qI x1))), (2, some (.int (qI x2))), (3, some (.int (qI x3)))] [] := by
  intro f
  induction f with
  | zero => exact fun _ _ _ _ => qS.fail
  | succ f ih =>
    intro x1 x2 x3 σ
    unfold fX3_hopAll_c26
    refine r_iload_n (pc := 26) cx dX3_hopAll_26 rfl ?_
    refine r_iconst (pc := 27) cx dX3_hopAll_27 ?_
    refine r_icmp_ge (tgt := 66) cx dX3_hopAll_28 (by decide) ?_ ?_
    · exact qS.sub (qsub_cons rfl (qsub_cons rfl (qsub_cons rfl (qsub_nil _)))) (tX3_hopAll_c66 cx hB hBB hk18 _ _ _)
    · refine r_aload_n (pc := 31) cx dX3_hopAll_31 rfl ?_
      refine r_get (pc := 32) cx hcl_X3 qc_X3 (lwB hB hBB) (j := 2) (by decide) wf_X3_18 dX3_hopAll_32 (x := .ref (ad (B + 3))) rfl ?_
      refine r_iload_n (pc := 35) cx dX3_hopAll_35 rfl ?_
      refine r_iaload (pc := 36) cx (lwB_particles hB hBB) rfl (by decide) dX3_hopAll_36 ?_
      refine r_if_eq (tgt := 66) cx dX3_hopAll_37 (by decide) ?_ ?_
      · exact qS.sub (qsub_cons rfl (qsub_cons rfl (qsub_cons rfl (qsub_nil _)))) (tX3_hopAll_c66 cx hB hBB hk18 _ _ _)
      · refine r_aload_n (pc := 40) cx dX3_hopAll_40 rfl ?_
        refine r_get (pc := 41) cx hcl_X3 qc_X3 (lwB hB hBB) (j := 2) (by decide) wf_X3_18 dX3_hopAll_41 (x := .ref (ad (B + 3))) rfl ?_
        refine r_iload_n (pc := 44) cx dX3_hopAll_44 rfl ?_
        refine r_iaload (pc := 45) cx (lwB_particles hB hBB) rfl (by decide) dX3_hopAll_45 ?_
        refine r_iload_n (pc := 46) cx dX3_hopAll_46 rfl ?_
        refine r_pSNi (pc := 47) cx (tX5_has  (σ (B + 3) x2) x3 σ) qm_X5_has qs_X5_has wn_X3_103 dX3_hopAll_47 rfl rfl (Nat.le_of_ble_eq_true rfl) ⟨Nat.le_of_ble_eq_true rfl, Nat.le_of_ble_eq_true rfl⟩ ⟨rfl, rfl⟩ ⟨Nat.zero_le _, Nat.zero_le _⟩ (fun r47 => ?_)
        refine r_if_eq (tgt := 60) cx dX3_hopAll_50 (by decide) ?_ ?_
        · exact qS.sub (qsub_cons rfl (qsub_cons rfl (qsub_cons rfl (qsub_cons rfl (qsub_nil _))))) (tX3_hopAll_c60 cx hB hBB hk18 ih _ _ _ _)
        · refine r_aload_n (pc := 53) cx dX3_hopAll_53 rfl ?_
          refine r_iload_n (pc := 54) cx dX3_hopAll_54 rfl ?_
          refine r_iload_n (pc := 55) cx dX3_hopAll_55 rfl ?_
          refine r_iload_n (pc := 56) cx dX3_hopAll_56 rfl ?_
          refine r_dVv (pc := 57) cx (tX3_hopOne hB hBB x2 x3 x1 σ) qm_X3_hopOne qv_X3_hopOne hcl_X3 (lwB hB hBB) wm_X3_107 dX3_hopAll_57 rfl rfl (Nat.le_of_ble_eq_true rfl) ⟨Nat.le_of_ble_eq_true rfl, Nat.le_of_ble_eq_true rfl⟩ ⟨rfl, rfl⟩ ⟨Nat.zero_le _, Nat.zero_le _⟩ (fun r57 σ5 => ?_)
          exact qS.sub (qsub_cons rfl (qsub_cons rfl (qsub_cons rfl (qsub_cons rfl (qsub_nil _))))) (tX3_hopAll_c60 cx hB hBB hk18 ih _ _ _ _)
def fX3_hopAll_c18 (B : Nat) : Nat → Int → Int → qSt → Option (Int × qSt)
  | 0, _, _, _ => none
  | f + 1, x1, x2, σ => (if qI 96 ≤ qI x2 then (qb (qrow σ (B + 3) (fun i' => if 0 ≤ i' ∧ i' < 96 then σ (B + 5) i' else σ (B + 3) i')) fun (σ3 : qSt) => (qb (qrow σ3 (B + 4) (fun i' => if 0 ≤ i' ∧ i' < 96 then σ3 (B + 6) i' else σ3 (B + 4) i')) fun (σ4 : qSt) => (some (0, σ4)))) else (fX3_hopAll_c26 B (fX3_hopAll_c18 B f) qFU x1 x2 0 σ))
set_option maxRecDepth 100000 in
set_option maxHeartbeats 4000000 in
theorem tX3_hopAll_c18 {p : Program} {l : Launch} {e : Env} {s : State} {m : MethodId} {args : Array Value} {below : List Frame} {meth : Method} {c : Code} {z0 : Nat} {g : qG} {w : qWd} {ad : Nat → Nat} {B : Nat} (cx : qCx p s m meth c cX3_hopAll 4 RX3 none g z0) (hB : qBC g ad w) (hBB : B = 1 ∨ B = 14) : ∀ (f : Nat) (x1 : Int) (x2 : Int) (σ : qSt), qS p l e qrm3 s m args below meth c 4 g z0 w 0 0 (qQ below g z0 w qrv args s 0 0) (fX3_hopAll_c18 B f x1 x2 σ) σ 18 [(0, some (.ref (ad B))), (1, some (.int (qI x1))), (2, some (.int (qI x2)))] [] := by
  intro f
  induction f with
  | zero => exact fun _ _ _ => qS.fail
  | succ f ih =>
    intro x1 x2 σ
    unfold fX3_hopAll_c18
    refine r_iload_n (pc := 18) cx dX3_hopAll_18 rfl ?_
    refine r_bipush (pc := 19) (v := 96) cx dX3_hopAll_19 (by decide +kernel) ?_
    refine r_icmp_ge (tgt := 72) cx dX3_hopAll_21 (by decide) ?_ ?_
    · refine r_aload_n (pc := 72) cx dX3_hopAll_72 rfl ?_
      refine r_get (pc := 73) cx hcl_X3 qc_X3 (lwB hB hBB) (j := 4) (by decide) wf_X3_24 dX3_hopAll_73 (x := .ref (ad (B + 5))) rfl ?_
      refine r_iconst (pc := 76) cx dX3_hopAll_76 ?_
      refine r_aload_n (pc := 77) cx dX3_hopAll_77 rfl ?_
      refine r_get (pc := 78) cx hcl_X3 qc_X3 (lwB hB hBB) (j := 2) (by decide) wf_X3_18 dX3_hopAll_78 (x := .ref (ad (B + 3))) rfl ?_
      refine r_iconst (pc := 81) cx dX3_hopAll_81 ?_
      refine r_bipush (pc := 82) (v := 96) cx dX3_hopAll_82 (by decide +kernel) ?_
      refine r_copy (pc := 84) cx (lwB_hoppedParticles hB hBB) (lwB_particles hB hBB) (len := 96) (by decide) wm_X3_54 wnat wnats wnati (Nat.le_of_ble_eq_true rfl) (by decide +kernel) dX3_hopAll_84 (fun σ3 => ?_)
      refine r_aload_n (pc := 87) cx dX3_hopAll_87 rfl ?_
      refine r_get (pc := 88) cx hcl_X3 qc_X3 (lwB hB hBB) (j := 5) (by decide) wf_X3_27 dX3_hopAll_88 (x := .ref (ad (B + 6))) rfl ?_
      refine r_iconst (pc := 91) cx dX3_hopAll_91 ?_
      refine r_aload_n (pc := 92) cx dX3_hopAll_92 rfl ?_
      refine r_get (pc := 93) cx hcl_X3 qc_X3 (lwB hB hBB) (j := 3) (by decide) wf_X3_21 dX3_hopAll_93 (x := .ref (ad (B + 4))) rfl ?_
      refine r_iconst (pc := 96) cx dX3_hopAll_96 ?_
      refine r_bipush (pc := 97) (v := 96) cx dX3_hopAll_97 (by decide +kernel) ?_
      refine r_copy (pc := 99) cx (lwB_hoppedDyed hB hBB) (lwB_dyed hB hBB) (len := 96) (by decide) wm_X3_54 wnat wnats wnati (Nat.le_of_ble_eq_true rfl) (by decide +kernel) dX3_hopAll_99 (fun σ4 => ?_)
      exact r_return (w0 := w) (fun _ _ h => h) (Nat.zero_le _) (Nat.zero_le _) cx dX3_hopAll_102 rfl
    · refine r_iconst (pc := 24) cx dX3_hopAll_24 ?_
      refine r_istore_n (pc := 25) cx dX3_hopAll_25 (by decide) rfl ?_
      exact qS.sub (qsub_cons rfl (qsub_cons rfl (qsub_cons rfl (qsub_cons rfl (qsub_nil _))))) (tX3_hopAll_c26 cx hB hBB ih _ _ _ _ _)
def fX3_hopAll (B : Nat) (p0 : Int) (σ : qSt) : Option (Int × qSt) :=
  (qbd (fJ7_fill_53178 (B + 5) 0 σ) fun (r5 : Int) (σ1 : qSt) => (qbd (fJ7_fill_53178 (B + 6) 0 σ1) fun (r13 : Int) (σ2 : qSt) => (fX3_hopAll_c18 B qFU p0 0 σ2)))
set_option maxRecDepth 100000 in
set_option maxHeartbeats 4000000 in
theorem tX3_hopAll {l : Launch} {z0 : Nat} {g : qG} {w : qWd} {ad : Nat → Nat} {B : Nat} (hB : qBC g ad w) (hBB : B = 1 ∨ B = 14) (p0 : Int) (σ : qSt) : qCT l yX3_hopAll cX3_hopAll 4 none qrm3 g z0 w [.ref (ad B), .int (qI p0)] σ (fX3_hopAll B p0 σ) qrv := by
  refine qCT.of [(0, some (.ref (ad B))), (1, some (.int (qI p0)))] (by decide +kernel) (Nat.le_of_ble_eq_true rfl) rfl ?_
  intro p e s m args below meth c cx
  unfold fX3_hopAll
  refine r_aload_n (pc := 0) cx dX3_hopAll_0 rfl ?_
  refine r_get (pc := 1) cx hcl_X3 qc_X3 (lwB hB hBB) (j := 4) (by decide) wf_X3_24 dX3_hopAll_1 (x := .ref (ad (B + 5))) rfl ?_
  refine r_iconst (pc := 4) cx dX3_hopAll_4 ?_
  refine r_dSv (pc := 5) cx (tJ7_fill_53178 (lwB_hoppedParticles hB hBB) 0 σ) qm_J7_fill_53178 qs_J7_fill_53178 wm_X3_48 dX3_hopAll_5 rfl rfl (Nat.le_of_ble_eq_true rfl) ⟨Nat.le_of_ble_eq_true rfl, Nat.le_of_ble_eq_true rfl⟩ ⟨rfl, rfl⟩ ⟨Nat.zero_le _, Nat.zero_le _⟩ (fun r5 σ1 => ?_)
  refine r_aload_n (pc := 8) cx dX3_hopAll_8 rfl ?_
  refine r_get (pc := 9) cx hcl_X3 qc_X3 (lwB hB hBB) (j := 5) (by decide) wf_X3_27 dX3_hopAll_9 (x := .ref (ad (B + 6))) rfl ?_
  refine r_iconst (pc := 12) cx dX3_hopAll_12 ?_
  refine r_dSv (pc := 13) cx (tJ7_fill_53178 (lwB_hoppedDyed hB hBB) 0 σ1) qm_J7_fill_53178 qs_J7_fill_53178 wm_X3_48 dX3_hopAll_13 rfl rfl (Nat.le_of_ble_eq_true rfl) ⟨Nat.le_of_ble_eq_true rfl, Nat.le_of_ble_eq_true rfl⟩ ⟨rfl, rfl⟩ ⟨Nat.zero_le _, Nat.zero_le _⟩ (fun r13 σ2 => ?_)
  refine r_iconst (pc := 16) cx dX3_hopAll_16 ?_
  refine r_istore_n (pc := 17) cx dX3_hopAll_17 (by decide) rfl ?_
  exact qS.sub (qsub_cons rfl (qsub_cons rfl (qsub_cons rfl (qsub_nil _)))) (tX3_hopAll_c18 cx hB hBB _ _ _ _)
def fX3_emptyOutlets_c64 (B : Nat) (k2 : Int → qSt → Option (Int × qSt)) (x1 : Int) (σ : qSt) : Option (Int × qSt) :=
  (k2 (x1 + 1) σ)
set_option maxRecDepth 100000 in
set_option maxHeartbeats 4000000 in
theorem tX3_emptyOutlets_c64 {p : Program} {l : Launch} {e : Env} {s : State} {m : MethodId} {args : Array Value} {below : List Frame} {meth : Method} {c : Code} {z0 : Nat} {g : qG} {w : qWd} {ad : Nat → Nat} {B : Nat} (cx : qCx p s m meth c cX3_emptyOutlets 3 RX3 none g z0) (hB : qBC g ad w) (hBB : B = 1 ∨ B = 14) {k2 : Int → qSt → Option (Int × qSt)} (hk2 : ∀ (x1 : Int) (σ : qSt), qS p l e qrm0 s m args below meth c 3 g z0 w 0 0 (qQ below g z0 w qrv args s 0 0) (k2 x1 σ) σ 2 [(0, some (.ref (ad B))), (1, some (.int (qI x1)))] []) (x1 : Int) (σ : qSt) : qS p l e qrm0 s m args below meth c 3 g z0 w 0 0 (qQ below g z0 w qrv args s 0 0) (fX3_emptyOutlets_c64 B k2 x1 σ) σ 64 [(0, some (.ref (ad B))), (1, some (.int (qI x1)))] [] := by
  unfold fX3_emptyOutlets_c64
  refine r_iinc (pc := 64) cx dX3_emptyOutlets_64 rfl (by decide) rfl ?_
  refine r_goto (pc := 67) (tgt := 2) cx dX3_emptyOutlets_67 (by decide) ?_
  exact qS.sub (qsub_cons rfl (qsub_cons rfl (qsub_nil _))) (hk2 _ _)
def fX3_emptyOutlets_c20 (B : Nat) (k2 : Int → qSt → Option (Int × qSt)) : Nat → Int → Int → qSt → Option (Int × qSt)
  | 0, _, _, _ => none
  | f + 1, x1, x2, σ => (if qI 4 ≤ qI x2 then (if 0 ≤ x1 ∧ x1 < 96 then (qb (qset σ (B + 3) x1 0) fun (σ1 : qSt) => (if 0 ≤ x1 ∧ x1 < 96 then (qb (qset σ1 (B + 4) x1 0) fun (σ2 : qSt) => (fX3_emptyOutlets_c64 B k2 x1 σ2)) else none)) else none) else (if 0 ≤ x2 ∧ x2 < 4 then (if 0 ≤ x1 ∧ x1 < 96 then (if 0 ≤ x2 ∧ x2 < 4 then (qb (qset σ (B + 11) x2 ((σ (B + 11) x2) + (qand (qshr (σ (B + 3) x1) x2) 1))) fun (σ3 : qSt) => (fX3_emptyOutlets_c20 B k2 f x1 (x2 + 1) σ3)) else none) else none) else none))
set_option maxRecDepth 100000 in
set_option maxHeartbeats 4000000 in
theorem tX3_emptyOutlets_c20 {p : Program} {l : Launch} {e : Env} {s : State} {m : MethodId} {args : Array Value} {below : List Frame} {meth : Method} {c : Code} {z0 : Nat} {g : qG} {w : qWd} {ad : Nat → Nat} {B : Nat} (cx : qCx p s m meth c cX3_emptyOutlets 3 RX3 none g z0) (hB : qBC g ad w) (hBB : B = 1 ∨ B = 14) {k2 : Int → qSt → Option (Int × qSt)} (hk2 : ∀ (x1 : Int) (σ : qSt), qS p l e qrm0 s m args below meth c 3 g z0 w 0 0 (qQ below g z0 w qrv args s 0 0) (k2 x1 σ) σ 2 [(0, some (.ref (ad B))), (1, some (.int (qI x1)))] []) : ∀ (f : Nat) (x1 : Int) (x2 : Int) (σ : qSt), qS p l e qrm0 s m args below meth c 3 g z0 w 0 0 (qQ below g z0 w qrv args s 0 0) (fX3_emptyOutlets_c20 B k2 f x1 x2 σ) σ 20 [(0, some (.ref (ad B))), (1, some (.int (qI x1))), (2, some (.int (qI x2)))] [] := by
  intro f
  induction f with
  | zero => exact fun _ _ _ => qS.fail
  | succ f ih =>
    intro x1 x2 σ
    unfold fX3_emptyOutlets_c20
    refine r_iload_n (pc := 20) cx dX3_emptyOutlets_20 rfl ?_
    refine r_iconst (pc := 21) cx dX3_emptyOutlets_21 ?_
    refine r_icmp_ge (tgt := 50) cx dX3_emptyOutlets_22 (by decide) ?_ ?_
    · refine r_aload_n (pc := 50) cx dX3_emptyOutlets_50 rfl ?_
      refine r_get (pc := 51) cx hcl_X3 qc_X3 (lwB hB hBB) (j := 2) (by decide) wf_X3_18 dX3_emptyOutlets_51 (x := .ref (ad (B + 3))) rfl ?_
      refine r_iload_n (pc := 54) cx dX3_emptyOutlets_54 rfl ?_
      refine r_iconst (pc := 55) cx dX3_emptyOutlets_55 ?_
      refine r_iastore (pc := 56) cx (lwB_particles hB hBB) rfl (by decide) dX3_emptyOutlets_56 (fun σ1 => ?_)
      refine r_aload_n (pc := 57) cx dX3_emptyOutlets_57 rfl ?_
      refine r_get (pc := 58) cx hcl_X3 qc_X3 (lwB hB hBB) (j := 3) (by decide) wf_X3_21 dX3_emptyOutlets_58 (x := .ref (ad (B + 4))) rfl ?_
      refine r_iload_n (pc := 61) cx dX3_emptyOutlets_61 rfl ?_
      refine r_iconst (pc := 62) cx dX3_emptyOutlets_62 ?_
      refine r_iastore (pc := 63) cx (lwB_dyed hB hBB) rfl (by decide) dX3_emptyOutlets_63 (fun σ2 => ?_)
      exact qS.sub (qsub_cons rfl (qsub_cons rfl (qsub_nil _))) (tX3_emptyOutlets_c64 cx hB hBB hk2 _ _)
    · refine r_aload_n (pc := 25) cx dX3_emptyOutlets_25 rfl ?_
      refine r_get (pc := 26) cx hcl_X3 qc_X3 (lwB hB hBB) (j := 10) (by decide) wf_X3_42 dX3_emptyOutlets_26 (x := .ref (ad (B + 11))) rfl ?_
      refine r_iload_n (pc := 29) cx dX3_emptyOutlets_29 rfl ?_
      refine r_dup2 (pc := 30) cx dX3_emptyOutlets_30 rfl rfl ?_
      refine r_iaload (pc := 31) cx (lwB_gone hB hBB) rfl (by decide) dX3_emptyOutlets_31 ?_
      refine r_aload_n (pc := 32) cx dX3_emptyOutlets_32 rfl ?_
      refine r_get (pc := 33) cx hcl_X3 qc_X3 (lwB hB hBB) (j := 2) (by decide) wf_X3_18 dX3_emptyOutlets_33 (x := .ref (ad (B + 3))) rfl ?_
      refine r_iload_n (pc := 36) cx dX3_emptyOutlets_36 rfl ?_
      refine r_iaload (pc := 37) cx (lwB_particles hB hBB) rfl (by decide) dX3_emptyOutlets_37 ?_
      refine r_iload_n (pc := 38) cx dX3_emptyOutlets_38 rfl ?_
      refine r_ishr (pc := 39) cx dX3_emptyOutlets_39 ?_
      refine r_iconst (pc := 40) cx dX3_emptyOutlets_40 ?_
      refine r_iand (pc := 41) cx dX3_emptyOutlets_41 ?_
      refine r_iadd (pc := 42) cx dX3_emptyOutlets_42 ?_
      refine r_iastore (pc := 43) cx (lwB_gone hB hBB) rfl (by decide) dX3_emptyOutlets_43 (fun σ3 => ?_)
      refine r_iinc (pc := 44) cx dX3_emptyOutlets_44 rfl (by decide) rfl ?_
      refine r_goto (pc := 47) (tgt := 20) cx dX3_emptyOutlets_47 (by decide) ?_
      exact qS.sub (qsub_cons rfl (qsub_cons rfl (qsub_cons rfl (qsub_nil _)))) (ih _ _ _)
def fX3_emptyOutlets_c2 (B : Nat) : Nat → Int → qSt → Option (Int × qSt)
  | 0, _, _ => none
  | f + 1, x1, σ => (if qI 96 ≤ qI x1 then (some (0, σ)) else (if 0 ≤ x1 ∧ x1 < 96 then (if qI (σ (B + 1) x1) = qI 3 then (fX3_emptyOutlets_c20 B (fX3_emptyOutlets_c2 B f) qFU x1 0 σ) else (fX3_emptyOutlets_c64 B (fX3_emptyOutlets_c2 B f) x1 σ)) else none))
set_option maxRecDepth 100000 in
set_option maxHeartbeats 4000000 in
theorem tX3_emptyOutlets_c2 {p : Program} {l : Launch} {e : Env} {s : State} {m : MethodId} {args : Array Value} {below : List Frame} {meth : Method} {c : Code} {z0 : Nat} {g : qG} {w : qWd} {ad : Nat → Nat} {B : Nat} (cx : qCx p s m meth c cX3_emptyOutlets 3 RX3 none g z0) (hB : qBC g ad w) (hBB : B = 1 ∨ B = 14) : ∀ (f : Nat) (x1 : Int) (σ : qSt), qS p l e qrm0 s m args below meth c 3 g z0 w 0 0 (qQ below g z0 w qrv args s 0 0) (fX3_emptyOutlets_c2 B f x1 σ) σ 2 [(0, some (.ref (ad B))), (1, some (.int (qI x1)))] [] := by
  intro f
  induction f with
  | zero => exact fun _ _ => qS.fail
  | succ f ih =>
    intro x1 σ
    unfold fX3_emptyOutlets_c2
    refine r_iload_n (pc := 2) cx dX3_emptyOutlets_2 rfl ?_
    refine r_bipush (pc := 3) (v := 96) cx dX3_emptyOutlets_3 (by decide +kernel) ?_
    refine r_icmp_ge (tgt := 70) cx dX3_emptyOutlets_5 (by decide) ?_ ?_
    · exact r_return (w0 := w) (fun _ _ h => h) (Nat.zero_le _) (Nat.zero_le _) cx dX3_emptyOutlets_70 rfl
    · refine r_aload_n (pc := 8) cx dX3_emptyOutlets_8 rfl ?_
      refine r_get (pc := 9) cx hcl_X3 qc_X3 (lwB hB hBB) (j := 0) (by decide) wf_X3_9 dX3_emptyOutlets_9 (x := .ref (ad (B + 1))) rfl ?_
      refine r_iload_n (pc := 12) cx dX3_emptyOutlets_12 rfl ?_
      refine r_iaload (pc := 13) cx (lwB_kinds hB hBB) rfl (by decide) dX3_emptyOutlets_13 ?_
      refine r_iconst (pc := 14) cx dX3_emptyOutlets_14 ?_
      refine r_icmp_ne (tgt := 64) cx dX3_emptyOutlets_15 (by decide) ?_ ?_
      · exact qS.sub (qsub_cons rfl (qsub_cons rfl (qsub_nil _))) (tX3_emptyOutlets_c64 cx hB hBB ih _ _)
      · refine r_iconst (pc := 18) cx dX3_emptyOutlets_18 ?_
        refine r_istore_n (pc := 19) cx dX3_emptyOutlets_19 (by decide) rfl ?_
        exact qS.sub (qsub_cons rfl (qsub_cons rfl (qsub_cons rfl (qsub_nil _)))) (tX3_emptyOutlets_c20 cx hB hBB ih _ _ _ _)
def fX3_emptyOutlets (B : Nat) (σ : qSt) : Option (Int × qSt) :=
  (fX3_emptyOutlets_c2 B qFU 0 σ)
set_option maxRecDepth 100000 in
set_option maxHeartbeats 4000000 in
theorem tX3_emptyOutlets {l : Launch} {z0 : Nat} {g : qG} {w : qWd} {ad : Nat → Nat} {B : Nat} (hB : qBC g ad w) (hBB : B = 1 ∨ B = 14) (σ : qSt) : qCT l yX3_emptyOutlets cX3_emptyOutlets 3 none qrm0 g z0 w [.ref (ad B)] σ (fX3_emptyOutlets B σ) qrv := by
  refine qCT.of [(0, some (.ref (ad B)))] (by decide +kernel) (Nat.le_of_ble_eq_true rfl) rfl ?_
  intro p e s m args below meth c cx
  unfold fX3_emptyOutlets
  refine r_iconst (pc := 0) cx dX3_emptyOutlets_0 ?_
  refine r_istore_n (pc := 1) cx dX3_emptyOutlets_1 (by decide) rfl ?_
  exact qS.sub (qsub_cons rfl (qsub_cons rfl (qsub_nil _))) (tX3_emptyOutlets_c2 cx hB hBB _ _ _)
def fX3_fillInlets_c37 (B : Nat) (k2 : Int → qSt → Option (Int × qSt)) (x1 : Int) (σ : qSt) : Option (Int × qSt) :=
  (k2 (x1 + 1) σ)
set_option maxRecDepth 100000 in
set_option maxHeartbeats 4000000 in
theorem tX3_fillInlets_c37 {p : Program} {l : Launch} {e : Env} {s : State} {m : MethodId} {args : Array Value} {below : List Frame} {meth : Method} {c : Code} {z0 : Nat} {g : qG} {w : qWd} {ad : Nat → Nat} {B : Nat} (cx : qCx p s m meth c cX3_fillInlets 2 RX3 none g z0) (hB : qBC g ad w) (hBB : B = 1 ∨ B = 14) {k2 : Int → qSt → Option (Int × qSt)} (hk2 : ∀ (x1 : Int) (σ : qSt), qS p l e qrm1 s m args below meth c 2 g z0 w 0 0 (qQ below g z0 w qrv args s 0 0) (k2 x1 σ) σ 2 [(0, some (.ref (ad B))), (1, some (.int (qI x1)))] []) (x1 : Int) (σ : qSt) : qS p l e qrm1 s m args below meth c 2 g z0 w 0 0 (qQ below g z0 w qrv args s 0 0) (fX3_fillInlets_c37 B k2 x1 σ) σ 37 [(0, some (.ref (ad B))), (1, some (.int (qI x1)))] [] := by
  unfold fX3_fillInlets_c37
  refine r_iinc (pc := 37) cx dX3_fillInlets_37 rfl (by decide) rfl ?_
  refine r_goto (pc := 40) (tgt := 2) cx dX3_fillInlets_40 (by decide) ?_
  exact qS.sub (qsub_cons rfl (qsub_cons rfl (qsub_nil _))) (hk2 _ _)
def fX3_fillInlets_c2 (B : Nat) : Nat → Int → qSt → Option (Int × qSt)
  | 0, _, _ => none
  | f + 1, x1, σ => (if qI 96 ≤ qI x1 then (some (0, σ)) else (if 0 ≤ x1 ∧ x1 < 96 then (if qI (σ (B + 1) x1) = qI 2 then (if 0 ≤ x1 ∧ x1 < 96 then ((fX5_has σ (σ (B + 3) x1) 0).bind fun (r25 : Int) => (if qI r25 = 0 then (qbd (fX3_letIn B x1 0 σ) fun (r34 : Int) (σ1 : qSt) => (fX3_fillInlets_c37 B (fX3_fillInlets_c2 B f) x1 σ1)) else (fX3_fillInlets_c37 B (fX3_fillInlets_c2 B f) x1 σ))) else none) else (fX3_fillInlets_c37 B (fX3_fillInlets_c2 B f) x1 σ)) else none))
set_option maxRecDepth 100000 in
set_option maxHeartbeats 4000000 in
theorem tX3_fillInlets_c2 {p : Program} {l : Launch} {e : Env} {s : State} {m : MethodId} {args : Array Value} {below : List Frame} {meth : Method} {c : Code} {z0 : Nat} {g : qG} {w : qWd} {ad : Nat → Nat} {B : Nat} (cx : qCx p s m meth c cX3_fillInlets 2 RX3 none g z0) (hB : qBC g ad w) (hBB : B = 1 ∨ B = 14) : ∀ (f : Nat) (x1 : Int) (σ : qSt), qS p l e qrm1 s m args below meth c 2 g z0 w 0 0 (qQ below g z0 w qrv args s 0 0) (fX3_fillInlets_c2 B f x1 σ) σ 2 [(0, some (.ref (ad B))), (1, some (.int (qI x1)))] [] := by
  intro f
  induction f with
  | zero => exact fun _ _ => qS.fail
  | succ f ih =>
    intro x1 σ
    unfold fX3_fillInlets_c2
    refine r_iload_n (pc := 2) cx dX3_fillInlets_2 rfl ?_
    refine r_bipush (pc := 3) (v := 96) cx dX3_fillInlets_3 (by decide +kernel) ?_
    refine r_icmp_ge (tgt := 43) cx dX3_fillInlets_5 (by decide) ?_ ?_
    · exact r_return (w0 := w) (fun _ _ h => h) (Nat.zero_le _) (Nat.zero_le _) cx dX3_fillInlets_43 rfl
    · refine r_aload_n (pc := 8) cx dX3_fillInlets_8 rfl ?_
      refine r_get (pc := 9) cx hcl_X3 qc_X3 (lwB hB hBB) (j := 0) (by decide) wf_X3_9 dX3_fillInlets_9 (x := .ref (ad (B + 1))) rfl ?_
      refine r_iload_n (pc := 12) cx dX3_fillInlets_12 rfl ?_
      refine r_iaload (pc := 13) cx (lwB_kinds hB hBB) rfl (by decide) dX3_fillInlets_13 ?_
      refine r_iconst (pc := 14) cx dX3_fillInlets_14 ?_
      refine r_icmp_ne (tgt := 37) cx dX3_fillInlets_15 (by decide) ?_ ?_
      · exact qS.sub (qsub_cons rfl (qsub_cons rfl (qsub_nil _))) (tX3_fillInlets_c37 cx hB hBB ih _ _)
      · refine r_aload_n (pc := 18) cx dX3_fillInlets_18 rfl ?_
        refine r_get (pc := 19) cx hcl_X3 qc_X3 (lwB hB hBB) (j := 2) (by decide) wf_X3_18 dX3_fillInlets_19 (x := .ref (ad (B + 3))) rfl ?_
        refine r_iload_n (pc := 22) cx dX3_fillInlets_22 rfl ?_
        refine r_iaload (pc := 23) cx (lwB_particles hB hBB) rfl (by decide) dX3_fillInlets_23 ?_
        refine r_iconst (pc := 24) cx dX3_fillInlets_24 ?_
        refine r_pSNi (pc := 25) cx (tX5_has  (σ (B + 3) x1) 0 σ) qm_X5_has qs_X5_has wn_X3_103 dX3_fillInlets_25 rfl rfl (Nat.le_of_ble_eq_true rfl) ⟨Nat.le_of_ble_eq_true rfl, Nat.le_of_ble_eq_true rfl⟩ ⟨rfl, rfl⟩ ⟨Nat.zero_le _, Nat.zero_le _⟩ (fun r25 => ?_)
        refine r_if_ne (tgt := 37) cx dX3_fillInlets_28 (by decide) ?_ ?_
        · exact qS.sub (qsub_cons rfl (qsub_cons rfl (qsub_nil _))) (tX3_fillInlets_c37 cx hB hBB ih _ _)
        · refine r_aload_n (pc := 31) cx dX3_fillInlets_31 rfl ?_
          refine r_iload_n (pc := 32) cx dX3_fillInlets_32 rfl ?_
          refine r_iconst (pc := 33) cx dX3_fillInlets_33 ?_
          refine r_dVv (pc := 34) cx (tX3_letIn hB hBB x1 0 σ) qm_X3_letIn qv_X3_letIn hcl_X3 (lwB hB hBB) wm_X3_123 dX3_fillInlets_34 rfl rfl (Nat.le_of_ble_eq_true rfl) ⟨Nat.le_of_ble_eq_true rfl, Nat.le_of_ble_eq_true rfl⟩ ⟨rfl, rfl⟩ ⟨Nat.zero_le _, Nat.zero_le _⟩ (fun r34 σ1 => ?_)
          exact qS.sub (qsub_cons rfl (qsub_cons rfl (qsub_nil _))) (tX3_fillInlets_c37 cx hB hBB ih _ _)
def fX3_fillInlets (B : Nat) (σ : qSt) : Option (Int × qSt) :=
  (fX3_fillInlets_c2 B qFU 0 σ)
set_option maxRecDepth 100000 in
set_option maxHeartbeats 4000000 in
theorem tX3_fillInlets {l : Launch} {z0 : Nat} {g : qG} {w : qWd} {ad : Nat → Nat} {B : Nat} (hB : qBC g ad w) (hBB : B = 1 ∨ B = 14) (σ : qSt) : qCT l yX3_fillInlets cX3_fillInlets 2 none qrm1 g z0 w [.ref (ad B)] σ (fX3_fillInlets B σ) qrv := by
  refine qCT.of [(0, some (.ref (ad B)))] (by decide +kernel) (Nat.le_of_ble_eq_true rfl) rfl ?_
  intro p e s m args below meth c cx
  unfold fX3_fillInlets
  refine r_iconst (pc := 0) cx dX3_fillInlets_0 ?_
  refine r_istore_n (pc := 1) cx dX3_fillInlets_1 (by decide) rfl ?_
  exact qS.sub (qsub_cons rfl (qsub_cons rfl (qsub_nil _))) (tX3_fillInlets_c2 cx hB hBB _ _ _)
def fX3_passStep (B : Nat) (σ : qSt) : Option (Int × qSt) :=
  (qbd (fX3_turnMeetings B 1 σ) fun (r2 : Int) (σ1 : qSt) => (qbd (fX3_hopAll B 1 σ1) fun (r7 : Int) (σ2 : qSt) => (qbd (fX3_emptyOutlets B σ2) fun (r11 : Int) (σ3 : qSt) => (qbd (fX3_fillInlets B σ3) fun (r15 : Int) (σ4 : qSt) => (some (0, σ4))))))
set_option maxRecDepth 100000 in
set_option maxHeartbeats 4000000 in
theorem tX3_passStep {l : Launch} {z0 : Nat} {g : qG} {w : qWd} {ad : Nat → Nat} {B : Nat} (hB : qBC g ad w) (hBB : B = 1 ∨ B = 14) (σ : qSt) : qCT l yX3_passStep cX3_passStep 1 none qrm4 g z0 w [.ref (ad B)] σ (fX3_passStep B σ) qrv := by
  refine qCT.of [(0, some (.ref (ad B)))] (by decide +kernel) (Nat.le_of_ble_eq_true rfl) rfl ?_
  intro p e s m args below meth c cx
  unfold fX3_passStep
  refine r_aload_n (pc := 0) cx dX3_passStep_0 rfl ?_
  refine r_iconst (pc := 1) cx dX3_passStep_1 ?_
  refine r_dVv (pc := 2) cx (tX3_turnMeetings hB hBB 1 σ) qm_X3_turnMeetings qv_X3_turnMeetings hcl_X3 (lwB hB hBB) wm_X3_81 dX3_passStep_2 rfl rfl (Nat.le_of_ble_eq_true rfl) ⟨Nat.le_of_ble_eq_true rfl, Nat.le_of_ble_eq_true rfl⟩ ⟨rfl, rfl⟩ ⟨Nat.zero_le _, Nat.zero_le _⟩ (fun r2 σ1 => ?_)
  refine r_aload_n (pc := 5) cx dX3_passStep_5 rfl ?_
  refine r_iconst (pc := 6) cx dX3_passStep_6 ?_
  refine r_dVv (pc := 7) cx (tX3_hopAll hB hBB 1 σ1) qm_X3_hopAll qv_X3_hopAll hcl_X3 (lwB hB hBB) wm_X3_85 dX3_passStep_7 rfl rfl (Nat.le_of_ble_eq_true rfl) ⟨Nat.le_of_ble_eq_true rfl, Nat.le_of_ble_eq_true rfl⟩ ⟨rfl, rfl⟩ ⟨Nat.zero_le _, Nat.zero_le _⟩ (fun r7 σ2 => ?_)
  refine r_aload_n (pc := 10) cx dX3_passStep_10 rfl ?_
  refine r_dVv (pc := 11) cx (tX3_emptyOutlets hB hBB  σ2) qm_X3_emptyOutlets qv_X3_emptyOutlets hcl_X3 (lwB hB hBB) wm_X3_88 dX3_passStep_11 rfl rfl (Nat.le_of_ble_eq_true rfl) ⟨Nat.le_of_ble_eq_true rfl, Nat.le_of_ble_eq_true rfl⟩ ⟨rfl, rfl⟩ ⟨Nat.zero_le _, Nat.zero_le _⟩ (fun r11 σ3 => ?_)
  refine r_aload_n (pc := 14) cx dX3_passStep_14 rfl ?_
  refine r_dVv (pc := 15) cx (tX3_fillInlets hB hBB  σ3) qm_X3_fillInlets qv_X3_fillInlets hcl_X3 (lwB hB hBB) wm_X3_91 dX3_passStep_15 rfl rfl (Nat.le_of_ble_eq_true rfl) ⟨Nat.le_of_ble_eq_true rfl, Nat.le_of_ble_eq_true rfl⟩ ⟨rfl, rfl⟩ ⟨Nat.zero_le _, Nat.zero_le _⟩ (fun r15 σ4 => ?_)
  exact r_return (w0 := w) (fun _ _ h => h) (Nat.zero_le _) (Nat.zero_le _) cx dX3_passStep_18 rfl
def fX3_undoStep (B : Nat) (σ : qSt) : Option (Int × qSt) :=
  (qbd (fX3_turnRound B σ) fun (r1 : Int) (σ1 : qSt) => (qbd (fX3_hopAll B (-1) σ1) fun (r6 : Int) (σ2 : qSt) => (qbd (fX3_turnRound B σ2) fun (r10 : Int) (σ3 : qSt) => (qbd (fX3_turnMeetings B (-1) σ3) fun (r15 : Int) (σ4 : qSt) => (some (0, σ4))))))
set_option maxRecDepth 100000 in
set_option maxHeartbeats 4000000 in
theorem tX3_undoStep {l : Launch} {z0 : Nat} {g : qG} {w : qWd} {ad : Nat → Nat} {B : Nat} (hB : qBC g ad w) (hBB : B = 1 ∨ B = 14) (σ : qSt) : qCT l yX3_undoStep cX3_undoStep 1 none qrm4 g z0 w [.ref (ad B)] σ (fX3_undoStep B σ) qrv := by
  refine qCT.of [(0, some (.ref (ad B)))] (by decide +kernel) (Nat.le_of_ble_eq_true rfl) rfl ?_
  intro p e s m args below meth c cx
  unfold fX3_undoStep
  refine r_aload_n (pc := 0) cx dX3_undoStep_0 rfl ?_
  refine r_dVv (pc := 1) cx (tX3_turnRound hB hBB  σ) qm_X3_turnRound qv_X3_turnRound hcl_X3 (lwB hB hBB) wm_X3_94 dX3_undoStep_1 rfl rfl (Nat.le_of_ble_eq_true rfl) ⟨Nat.le_of_ble_eq_true rfl, Nat.le_of_ble_eq_true rfl⟩ ⟨rfl, rfl⟩ ⟨Nat.zero_le _, Nat.zero_le _⟩ (fun r1 σ1 => ?_)
  refine r_aload_n (pc := 4) cx dX3_undoStep_4 rfl ?_
  refine r_iconst (pc := 5) cx dX3_undoStep_5 ?_
  refine r_dVv (pc := 6) cx (tX3_hopAll hB hBB (-1) σ1) qm_X3_hopAll qv_X3_hopAll hcl_X3 (lwB hB hBB) wm_X3_85 dX3_undoStep_6 rfl rfl (Nat.le_of_ble_eq_true rfl) ⟨Nat.le_of_ble_eq_true rfl, Nat.le_of_ble_eq_true rfl⟩ ⟨rfl, rfl⟩ ⟨Nat.zero_le _, Nat.zero_le _⟩ (fun r6 σ2 => ?_)
  refine r_aload_n (pc := 9) cx dX3_undoStep_9 rfl ?_
  refine r_dVv (pc := 10) cx (tX3_turnRound hB hBB  σ2) qm_X3_turnRound qv_X3_turnRound hcl_X3 (lwB hB hBB) wm_X3_94 dX3_undoStep_10 rfl rfl (Nat.le_of_ble_eq_true rfl) ⟨Nat.le_of_ble_eq_true rfl, Nat.le_of_ble_eq_true rfl⟩ ⟨rfl, rfl⟩ ⟨Nat.zero_le _, Nat.zero_le _⟩ (fun r10 σ3 => ?_)
  refine r_aload_n (pc := 13) cx dX3_undoStep_13 rfl ?_
  refine r_iconst (pc := 14) cx dX3_undoStep_14 ?_
  refine r_dVv (pc := 15) cx (tX3_turnMeetings hB hBB (-1) σ3) qm_X3_turnMeetings qv_X3_turnMeetings hcl_X3 (lwB hB hBB) wm_X3_81 dX3_undoStep_15 rfl rfl (Nat.le_of_ble_eq_true rfl) ⟨Nat.le_of_ble_eq_true rfl, Nat.le_of_ble_eq_true rfl⟩ ⟨rfl, rfl⟩ ⟨Nat.zero_le _, Nat.zero_le _⟩ (fun r15 σ4 => ?_)
  exact r_return (w0 := w) (fun _ _ h => h) (Nat.zero_le _) (Nat.zero_le _) cx dX3_undoStep_18 rfl
def fX3_becomeLike (σ : qSt) : Option (Int × qSt) :=
  (qb (qrow σ 15 (fun i' => if 0 ≤ i' ∧ i' < 96 then σ 2 i' else σ 15 i')) fun (σ1 : qSt) => (qb (qrow σ1 16 (fun i' => if 0 ≤ i' ∧ i' < 96 then σ1 3 i' else σ1 16 i')) fun (σ2 : qSt) => (qb (qrow σ2 17 (fun i' => if 0 ≤ i' ∧ i' < 96 then σ2 4 i' else σ2 17 i')) fun (σ3 : qSt) => (qb (qrow σ3 18 (fun i' => if 0 ≤ i' ∧ i' < 96 then σ3 5 i' else σ3 18 i')) fun (σ4 : qSt) => (qb (qrow σ4 21 (fun i' => if 0 ≤ i' ∧ i' < 4 then σ4 8 i' else σ4 21 i')) fun (σ5 : qSt) => (qb (qrow σ5 22 (fun i' => if 0 ≤ i' ∧ i' < 4 then σ5 9 i' else σ5 22 i')) fun (σ6 : qSt) => (qb (qrow σ6 23 (fun i' => if 0 ≤ i' ∧ i' < 4 then σ6 10 i' else σ6 23 i')) fun (σ7 : qSt) => (qb (qrow σ7 24 (fun i' => if 0 ≤ i' ∧ i' < 4 then σ7 11 i' else σ7 24 i')) fun (σ8 : qSt) => (qb (qrow σ8 25 (fun i' => if 0 ≤ i' ∧ i' < 4 then σ8 12 i' else σ8 25 i')) fun (σ9 : qSt) => (qb (qrow σ9 26 (fun i' => if 0 ≤ i' ∧ i' < 4 then σ9 13 i' else σ9 26 i')) fun (σ10 : qSt) => (qb (qset σ10 14 12 (σ10 1 12)) fun (σ11 : qSt) => (some (0, σ11)))))))))))))
set_option maxRecDepth 100000 in
set_option maxHeartbeats 4000000 in
theorem tX3_becomeLike {l : Launch} {z0 : Nat} {g : qG} {w : qWd} {ad : Nat → Nat} (hB : qBC g ad w) (σ : qSt) : qCT l yX3_becomeLike cX3_becomeLike 2 none qrm0 g z0 w [.ref (ad 14), .ref (ad 1)] σ (fX3_becomeLike σ) qrv := by
  refine qCT.of [(0, some (.ref (ad 14))), (1, some (.ref (ad 1)))] (by decide +kernel) (Nat.le_of_ble_eq_true rfl) rfl ?_
  intro p e s m args below meth c cx
  unfold fX3_becomeLike
  refine r_aload_n (pc := 0) cx dX3_becomeLike_0 rfl ?_
  refine r_get (pc := 1) cx hcl_X3 qc_X3 (lw1 hB) (j := 0) (by decide) wf_X3_9 dX3_becomeLike_1 (x := .ref (ad 2)) rfl ?_
  refine r_iconst (pc := 4) cx dX3_becomeLike_4 ?_
  refine r_aload_n (pc := 5) cx dX3_becomeLike_5 rfl ?_
  refine r_get (pc := 6) cx hcl_X3 qc_X3 (lw14 hB) (j := 0) (by decide) wf_X3_9 dX3_becomeLike_6 (x := .ref (ad 15)) rfl ?_
  refine r_iconst (pc := 9) cx dX3_becomeLike_9 ?_
  refine r_bipush (pc := 10) (v := 96) cx dX3_becomeLike_10 (by decide +kernel) ?_
  refine r_copy (pc := 12) cx (lw2 hB) (lw15 hB) (len := 96) (by decide) wm_X3_54 wnat wnats wnati (Nat.le_of_ble_eq_true rfl) (by decide +kernel) dX3_becomeLike_12 (fun σ1 => ?_)
  refine r_aload_n (pc := 15) cx dX3_becomeLike_15 rfl ?_
  refine r_get (pc := 16) cx hcl_X3 qc_X3 (lw1 hB) (j := 1) (by decide) wf_X3_15 dX3_becomeLike_16 (x := .ref (ad 3)) rfl ?_
  refine r_iconst (pc := 19) cx dX3_becomeLike_19 ?_
  refine r_aload_n (pc := 20) cx dX3_becomeLike_20 rfl ?_
  refine r_get (pc := 21) cx hcl_X3 qc_X3 (lw14 hB) (j := 1) (by decide) wf_X3_15 dX3_becomeLike_21 (x := .ref (ad 16)) rfl ?_
  refine r_iconst (pc := 24) cx dX3_becomeLike_24 ?_
  refine r_bipush (pc := 25) (v := 96) cx dX3_becomeLike_25 (by decide +kernel) ?_
  refine r_copy (pc := 27) cx (lw3 hB) (lw16 hB) (len := 96) (by decide) wm_X3_54 wnat wnats wnati (Nat.le_of_ble_eq_true rfl) (by decide +kernel) dX3_becomeLike_27 (fun σ2 => ?_)
  refine r_aload_n (pc := 30) cx dX3_becomeLike_30 rfl ?_
  refine r_get (pc := 31) cx hcl_X3 qc_X3 (lw1 hB) (j := 2) (by decide) wf_X3_18 dX3_becomeLike_31 (x := .ref (ad 4)) rfl ?_
  refine r_iconst (pc := 34) cx dX3_becomeLike_34 ?_
  refine r_aload_n (pc := 35) cx dX3_becomeLike_35 rfl ?_
  refine r_get (pc := 36) cx hcl_X3 qc_X3 (lw14 hB) (j := 2) (by decide) wf_X3_18 dX3_becomeLike_36 (x := .ref (ad 17)) rfl ?_
  refine r_iconst (pc := 39) cx dX3_becomeLike_39 ?_
  refine r_bipush (pc := 40) (v := 96) cx dX3_becomeLike_40 (by decide +kernel) ?_
  refine r_copy (pc := 42) cx (lw4 hB) (lw17 hB) (len := 96) (by decide) wm_X3_54 wnat wnats wnati (Nat.le_of_ble_eq_true rfl) (by decide +kernel) dX3_becomeLike_42 (fun σ3 => ?_)
  refine r_aload_n (pc := 45) cx dX3_becomeLike_45 rfl ?_
  refine r_get (pc := 46) cx hcl_X3 qc_X3 (lw1 hB) (j := 3) (by decide) wf_X3_21 dX3_becomeLike_46 (x := .ref (ad 5)) rfl ?_
  refine r_iconst (pc := 49) cx dX3_becomeLike_49 ?_
  refine r_aload_n (pc := 50) cx dX3_becomeLike_50 rfl ?_
  refine r_get (pc := 51) cx hcl_X3 qc_X3 (lw14 hB) (j := 3) (by decide) wf_X3_21 dX3_becomeLike_51 (x := .ref (ad 18)) rfl ?_
  refine r_iconst (pc := 54) cx dX3_becomeLike_54 ?_
  refine r_bipush (pc := 55) (v := 96) cx dX3_becomeLike_55 (by decide +kernel) ?_
  refine r_copy (pc := 57) cx (lw5 hB) (lw18 hB) (len := 96) (by decide) wm_X3_54 wnat wnats wnati (Nat.le_of_ble_eq_true rfl) (by decide +kernel) dX3_becomeLike_57 (fun σ4 => ?_)
  refine r_aload_n (pc := 60) cx dX3_becomeLike_60 rfl ?_
  refine r_get (pc := 61) cx hcl_X3 qc_X3 (lw1 hB) (j := 6) (by decide) wf_X3_30 dX3_becomeLike_61 (x := .ref (ad 8)) rfl ?_
  refine r_iconst (pc := 64) cx dX3_becomeLike_64 ?_
  refine r_aload_n (pc := 65) cx dX3_becomeLike_65 rfl ?_
  refine r_get (pc := 66) cx hcl_X3 qc_X3 (lw14 hB) (j := 6) (by decide) wf_X3_30 dX3_becomeLike_66 (x := .ref (ad 21)) rfl ?_
  refine r_iconst (pc := 69) cx dX3_becomeLike_69 ?_
  refine r_iconst (pc := 70) cx dX3_becomeLike_70 ?_
  refine r_copy (pc := 71) cx (lw8 hB) (lw21 hB) (len := 4) (by decide) wm_X3_54 wnat wnats wnati (Nat.le_of_ble_eq_true rfl) (by decide +kernel) dX3_becomeLike_71 (fun σ5 => ?_)
  refine r_aload_n (pc := 74) cx dX3_becomeLike_74 rfl ?_
  refine r_get (pc := 75) cx hcl_X3 qc_X3 (lw1 hB) (j := 7) (by decide) wf_X3_33 dX3_becomeLike_75 (x := .ref (ad 9)) rfl ?_
  refine r_iconst (pc := 78) cx dX3_becomeLike_78 ?_
  refine r_aload_n (pc := 79) cx dX3_becomeLike_79 rfl ?_
  refine r_get (pc := 80) cx hcl_X3 qc_X3 (lw14 hB) (j := 7) (by decide) wf_X3_33 dX3_becomeLike_80 (x := .ref (ad 22)) rfl ?_
  refine r_iconst (pc := 83) cx dX3_becomeLike_83 ?_
  refine r_iconst (pc := 84) cx dX3_becomeLike_84 ?_
  refine r_copy (pc := 85) cx (lw9 hB) (lw22 hB) (len := 4) (by decide) wm_X3_54 wnat wnats wnati (Nat.le_of_ble_eq_true rfl) (by decide +kernel) dX3_becomeLike_85 (fun σ6 => ?_)
  refine r_aload_n (pc := 88) cx dX3_becomeLike_88 rfl ?_
  refine r_get (pc := 89) cx hcl_X3 qc_X3 (lw1 hB) (j := 8) (by decide) wf_X3_36 dX3_becomeLike_89 (x := .ref (ad 10)) rfl ?_
  refine r_iconst (pc := 92) cx dX3_becomeLike_92 ?_
  refine r_aload_n (pc := 93) cx dX3_becomeLike_93 rfl ?_
  refine r_get (pc := 94) cx hcl_X3 qc_X3 (lw14 hB) (j := 8) (by decide) wf_X3_36 dX3_becomeLike_94 (x := .ref (ad 23)) rfl ?_
  refine r_iconst (pc := 97) cx dX3_becomeLike_97 ?_
  refine r_iconst (pc := 98) cx dX3_becomeLike_98 ?_
  refine r_copy (pc := 99) cx (lw10 hB) (lw23 hB) (len := 4) (by decide) wm_X3_54 wnat wnats wnati (Nat.le_of_ble_eq_true rfl) (by decide +kernel) dX3_becomeLike_99 (fun σ7 => ?_)
  refine r_aload_n (pc := 102) cx dX3_becomeLike_102 rfl ?_
  refine r_get (pc := 103) cx hcl_X3 qc_X3 (lw1 hB) (j := 9) (by decide) wf_X3_39 dX3_becomeLike_103 (x := .ref (ad 11)) rfl ?_
  refine r_iconst (pc := 106) cx dX3_becomeLike_106 ?_
  refine r_aload_n (pc := 107) cx dX3_becomeLike_107 rfl ?_
  refine r_get (pc := 108) cx hcl_X3 qc_X3 (lw14 hB) (j := 9) (by decide) wf_X3_39 dX3_becomeLike_108 (x := .ref (ad 24)) rfl ?_
  refine r_iconst (pc := 111) cx dX3_becomeLike_111 ?_
  refine r_iconst (pc := 112) cx dX3_becomeLike_112 ?_
  refine r_copy (pc := 113) cx (lw11 hB) (lw24 hB) (len := 4) (by decide) wm_X3_54 wnat wnats wnati (Nat.le_of_ble_eq_true rfl) (by decide +kernel) dX3_becomeLike_113 (fun σ8 => ?_)
  refine r_aload_n (pc := 116) cx dX3_becomeLike_116 rfl ?_
  refine r_get (pc := 117) cx hcl_X3 qc_X3 (lw1 hB) (j := 10) (by decide) wf_X3_42 dX3_becomeLike_117 (x := .ref (ad 12)) rfl ?_
  refine r_iconst (pc := 120) cx dX3_becomeLike_120 ?_
  refine r_aload_n (pc := 121) cx dX3_becomeLike_121 rfl ?_
  refine r_get (pc := 122) cx hcl_X3 qc_X3 (lw14 hB) (j := 10) (by decide) wf_X3_42 dX3_becomeLike_122 (x := .ref (ad 25)) rfl ?_
  refine r_iconst (pc := 125) cx dX3_becomeLike_125 ?_
  refine r_iconst (pc := 126) cx dX3_becomeLike_126 ?_
  refine r_copy (pc := 127) cx (lw12 hB) (lw25 hB) (len := 4) (by decide) wm_X3_54 wnat wnats wnati (Nat.le_of_ble_eq_true rfl) (by decide +kernel) dX3_becomeLike_127 (fun σ9 => ?_)
  refine r_aload_n (pc := 130) cx dX3_becomeLike_130 rfl ?_
  refine r_get (pc := 131) cx hcl_X3 qc_X3 (lw1 hB) (j := 11) (by decide) wf_X3_45 dX3_becomeLike_131 (x := .ref (ad 13)) rfl ?_
  refine r_iconst (pc := 134) cx dX3_becomeLike_134 ?_
  refine r_aload_n (pc := 135) cx dX3_becomeLike_135 rfl ?_
  refine r_get (pc := 136) cx hcl_X3 qc_X3 (lw14 hB) (j := 11) (by decide) wf_X3_45 dX3_becomeLike_136 (x := .ref (ad 26)) rfl ?_
  refine r_iconst (pc := 139) cx dX3_becomeLike_139 ?_
  refine r_iconst (pc := 140) cx dX3_becomeLike_140 ?_
  refine r_copy (pc := 141) cx (lw13 hB) (lw26 hB) (len := 4) (by decide) wm_X3_54 wnat wnats wnati (Nat.le_of_ble_eq_true rfl) (by decide +kernel) dX3_becomeLike_141 (fun σ10 => ?_)
  refine r_aload_n (pc := 144) cx dX3_becomeLike_144 rfl ?_
  refine r_aload_n (pc := 145) cx dX3_becomeLike_145 rfl ?_
  refine r_get (pc := 146) cx hcl_X3 qc_X3 (lw1 hB) (j := 12) (by decide) wf_X3_60 dX3_becomeLike_146 (x := .int (qI (σ10 1 12))) rfl ?_
  refine r_puti (pc := 149) (J := 12) cx hcl_X3 qc_X3 (lw14 hB) (j := 12) (by decide) tyX3_ok nmX3 wf_X3_60 rfl (by decide +kernel) rfl (Nat.le_of_ble_eq_true rfl) (fun r => rfl) dX3_becomeLike_149 (fun σ11 => ?_)
  exact r_return (w0 := w) (fun _ _ h => h) (Nat.zero_le _) (Nat.zero_le _) cx dX3_becomeLike_152 rfl
