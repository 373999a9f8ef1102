def fX6_thrown (σ : qSt) : Option Int :=
  (some (σ 47 0))
set_option maxRecDepth 100000 in
set_option maxHeartbeats 4000000 in
theorem tX6_thrown {l : Launch} {z0 : Nat} {g : qG} {w : qWd} {ad : Nat → Nat} (hM : qBM g ad w) (σ : qSt) : qCT l yX6_thrown cX6_thrown 1 (some .int) qrm0 g z0 w [.ref (ad 47)] σ (qlift (fX6_thrown σ) σ) qri := by
  refine qCTp.of [(0, some (.ref (ad 47)))] (by decide +kernel) (Nat.le_of_ble_eq_true rfl) rfl ?_
  intro p e s m args below meth c cx
  unfold fX6_thrown
  refine r_aload_n (pc := 0) cx dX6_thrown_0 rfl ?_
  refine r_get (pc := 1) cx hcl_X6 qc_X6 (lw47 hM) (j := 0) (by decide) wf_X6_58 dX6_thrown_1 (x := .int (qI (σ 47 0))) rfl ?_
  exact r_ireturn (w0 := w) (fun _ _ h => h) (Nat.zero_le _) (Nat.zero_le _) cx dX6_thrown_4 rfl
def fX6_refused (p0 : Int) (σ : qSt) : Option (Int × qSt) :=
  (qb (qset σ 47 0 p0) fun (σ1 : qSt) => (if qI p0 = 0 then (some (0, σ1)) else (some (1, σ1))))
set_option maxRecDepth 100000 in
set_option maxHeartbeats 4000000 in
theorem tX6_refused {l : Launch} {z0 : Nat} {g : qG} {w : qWd} {ad : Nat → Nat} (hM : qBM g ad w) (p0 : Int) (σ : qSt) : qCT l yX6_refused cX6_refused 2 (some .boolean) qrm0 g z0 w [.ref (ad 47), .int (qI p0)] σ (fX6_refused p0 σ) qri := by
  refine qCT.of [(0, some (.ref (ad 47))), (1, some (.int (qI p0)))] (by decide +kernel) (Nat.le_of_ble_eq_true rfl) rfl ?_
  intro p e s m args below meth c cx
  unfold fX6_refused
  refine r_aload_n (pc := 0) cx dX6_refused_0 rfl ?_
  refine r_iload_n (pc := 1) cx dX6_refused_1 rfl ?_
  refine r_puti (pc := 2) (J := 0) cx hcl_X6 qc_X6 (lw47 hM) (j := 0) (by decide) tyX6_ok nmX6 wf_X6_58 rfl (by decide +kernel) rfl (Nat.le_of_ble_eq_true rfl) (fun r => rfl) dX6_refused_2 (fun σ1 => ?_)
  refine r_iload_n (pc := 5) cx dX6_refused_5 rfl ?_
  refine r_if_eq (tgt := 13) cx dX6_refused_6 (by decide) ?_ ?_
  · refine r_iconst (pc := 13) cx dX6_refused_13 ?_
    exact r_zreturn (w0 := w) (fun _ _ h => h) (Nat.zero_le _) (Nat.zero_le _) cx (by decide +kernel) dX6_refused_14 rfl
  · refine r_iconst (pc := 9) cx dX6_refused_9 ?_
    refine r_goto (pc := 10) (tgt := 14) cx dX6_refused_10 (by decide) ?_
    exact r_zreturn (w0 := w) (fun _ _ h => h) (Nat.zero_le _) (Nat.zero_le _) cx (by decide +kernel) dX6_refused_14 rfl
def fX6_within (σ : qSt) (p0 : Int) (p1 : Int) (p2 : Int) : Option Int :=
  (if qI p0 < qI p1 then (some 0) else (if qI p2 < qI p0 then (some 0) else (some 1)))
set_option maxRecDepth 100000 in
set_option maxHeartbeats 4000000 in
theorem tX6_within {l : Launch} {z0 : Nat} {g : qG} {w : qWd} (p0 : Int) (p1 : Int) (p2 : Int) (σ : qSt) : qCT l yX6_within cX6_within 3 (some .boolean) qrm0 g z0 w [.int (qI p0), .int (qI p1), .int (qI p2)] σ (qlift (fX6_within σ p0 p1 p2) σ) qri := by
  refine qCTp.of [(0, some (.int (qI p0))), (1, some (.int (qI p1))), (2, some (.int (qI p2)))] (by decide +kernel) (Nat.le_of_ble_eq_true rfl) rfl ?_
  intro p e s m args below meth c cx
  unfold fX6_within
  refine r_iload_n (pc := 0) cx dX6_within_0 rfl ?_
  refine r_iload_n (pc := 1) cx dX6_within_1 rfl ?_
  refine r_icmp_lt (tgt := 14) cx dX6_within_2 (by decide) ?_ ?_
  · refine r_iconst (pc := 14) cx dX6_within_14 ?_
    exact r_zreturn (w0 := w) (fun _ _ h => h) (Nat.zero_le _) (Nat.zero_le _) cx (by decide +kernel) dX6_within_15 rfl
  · refine r_iload_n (pc := 5) cx dX6_within_5 rfl ?_
    refine r_iload_n (pc := 6) cx dX6_within_6 rfl ?_
    refine r_icmp_gt (tgt := 14) cx dX6_within_7 (by decide) ?_ ?_
    · refine r_iconst (pc := 14) cx dX6_within_14 ?_
      exact r_zreturn (w0 := w) (fun _ _ h => h) (Nat.zero_le _) (Nat.zero_le _) cx (by decide +kernel) dX6_within_15 rfl
    · refine r_iconst (pc := 10) cx dX6_within_10 ?_
      refine r_goto (pc := 11) (tgt := 15) cx dX6_within_11 (by decide) ?_
      exact r_zreturn (w0 := w) (fun _ _ h => h) (Nat.zero_le _) (Nat.zero_le _) cx (by decide +kernel) dX6_within_15 rfl
def fX6_isCell (σ : qSt) (p0 : Int) : Option Int :=
  ((fX6_within σ p0 0 95).bind fun (r4 : Int) => (if r4 = 0 ∨ r4 = 1 then (some r4) else none))
set_option maxRecDepth 100000 in
set_option maxHeartbeats 4000000 in
theorem tX6_isCell {l : Launch} {z0 : Nat} {g : qG} {w : qWd} {ad : Nat → Nat} (hM : qBM g ad w) (p0 : Int) (σ : qSt) : qCT l yX6_isCell cX6_isCell 2 (some .boolean) qrm1 g z0 w [.ref (ad 47), .int (qI p0)] σ (qlift (fX6_isCell σ p0) σ) qri := by
  refine qCTp.of [(0, some (.ref (ad 47))), (1, some (.int (qI p0)))] (by decide +kernel) (Nat.le_of_ble_eq_true rfl) rfl ?_
  intro p e s m args below meth c cx
  unfold fX6_isCell
  refine r_iload_n (pc := 0) cx dX6_isCell_0 rfl ?_
  refine r_iconst (pc := 1) cx dX6_isCell_1 ?_
  refine r_bipush (pc := 2) (v := 95) cx dX6_isCell_2 (by decide +kernel) ?_
  refine r_pSi (pc := 4) cx (tX6_within  p0 0 95 σ) qm_X6_within qs_X6_within wm_X6_62 dX6_isCell_4 rfl rfl (Nat.le_of_ble_eq_true rfl) ⟨Nat.le_of_ble_eq_true rfl, Nat.le_of_ble_eq_true rfl⟩ ⟨rfl, rfl⟩ ⟨Nat.zero_le _, Nat.zero_le _⟩ (fun r4 => ?_)
  refine qS.ite (fun hz => ?_) (fun _ => qS.fail)
  exact r_zreturn (w0 := w) (fun _ _ h => h) (Nat.zero_le _) (Nat.zero_le _) cx (by rcases hz with hz | hz <;> rw [hz] <;> rfl) dX6_isCell_7 rfl
def fX6_beside (σ : qSt) (p0 : Int) (p1 : Int) : Option Int :=
  (qb (qdiv p0 12) fun (y1 : Int) => (if qI p1 = 0 then (some ((12 * y1) + (qrem ((p0 + 1) - (12 * y1)) 12))) else (if qI p1 = qI 2 then (some ((12 * y1) + (qrem ((p0 + 11) - (12 * y1)) 12))) else (if qI p1 = qI 1 then (if qI y1 = 0 then (some (-1)) else (some (p0 - 12))) else (if qI y1 = qI 7 then (some (-1)) else (some (p0 + 12)))))))
set_option maxRecDepth 100000 in
set_option maxHeartbeats 4000000 in
theorem tX6_beside {l : Launch} {z0 : Nat} {g : qG} {w : qWd} (p0 : Int) (p1 : Int) (σ : qSt) : qCT l yX6_beside cX6_beside 3 (some .int) qrm0 g z0 w [.int (qI p0), .int (qI p1)] σ (qlift (fX6_beside σ p0 p1) σ) qri := by
  refine qCTp.of [(0, some (.int (qI p0))), (1, some (.int (qI p1)))] (by decide +kernel) (Nat.le_of_ble_eq_true rfl) rfl ?_
  intro p e s m args below meth c cx
  unfold fX6_beside
  refine r_iload_n (pc := 0) cx dX6_beside_0 rfl ?_
  refine r_bipush (pc := 1) (v := 12) cx dX6_beside_1 (by decide +kernel) ?_
  refine r_idiv (pc := 3) cx dX6_beside_3 (by decide +kernel) ?_
  refine r_nmi (fun y1 => ?_)
  refine r_istore_n (pc := 4) cx dX6_beside_4 (by decide) rfl ?_
  refine r_iload_n (pc := 5) cx dX6_beside_5 rfl ?_
  refine r_if_ne (tgt := 26) cx dX6_beside_6 (by decide) ?_ ?_
  · refine r_iload_n (pc := 26) cx dX6_beside_26 rfl ?_
    refine r_iconst (pc := 27) cx dX6_beside_27 ?_
    refine r_icmp_ne (tgt := 49) cx dX6_beside_28 (by decide) ?_ ?_
    · refine r_iload_n (pc := 49) cx dX6_beside_49 rfl ?_
      refine r_iconst (pc := 50) cx dX6_beside_50 ?_
      refine r_icmp_ne (tgt := 69) cx dX6_beside_51 (by decide) ?_ ?_
      · refine r_iload_n (pc := 69) cx dX6_beside_69 rfl ?_
        refine r_bipush (pc := 70) (v := 7) cx dX6_beside_70 (by decide +kernel) ?_
        refine r_icmp_ne (tgt := 79) cx dX6_beside_72 (by decide) ?_ ?_
        · refine r_iload_n (pc := 79) cx dX6_beside_79 rfl ?_
          refine r_bipush (pc := 80) (v := 12) cx dX6_beside_80 (by decide +kernel) ?_
          refine r_iadd (pc := 82) cx dX6_beside_82 ?_
          exact r_ireturn (w0 := w) (fun _ _ h => h) (Nat.zero_le _) (Nat.zero_le _) cx dX6_beside_83 rfl
        · refine r_iconst (pc := 75) cx dX6_beside_75 ?_
          refine r_goto (pc := 76) (tgt := 83) cx dX6_beside_76 (by decide) ?_
          exact r_ireturn (w0 := w) (fun _ _ h => h) (Nat.zero_le _) (Nat.zero_le _) cx dX6_beside_83 rfl
      · refine r_iload_n (pc := 54) cx dX6_beside_54 rfl ?_
        refine r_if_ne (tgt := 62) cx dX6_beside_55 (by decide) ?_ ?_
        · refine r_iload_n (pc := 62) cx dX6_beside_62 rfl ?_
          refine r_bipush (pc := 63) (v := 12) cx dX6_beside_63 (by decide +kernel) ?_
          refine r_isub (pc := 65) cx dX6_beside_65 ?_
          refine r_goto (pc := 66) (tgt := 83) cx dX6_beside_66 (by decide) ?_
          exact r_ireturn (w0 := w) (fun _ _ h => h) (Nat.zero_le _) (Nat.zero_le _) cx dX6_beside_83 rfl
        · refine r_iconst (pc := 58) cx dX6_beside_58 ?_
          refine r_goto (pc := 59) (tgt := 83) cx dX6_beside_59 (by decide) ?_
          exact r_ireturn (w0 := w) (fun _ _ h => h) (Nat.zero_le _) (Nat.zero_le _) cx dX6_beside_83 rfl
    · refine r_bipush (pc := 31) (v := 12) cx dX6_beside_31 (by decide +kernel) ?_
      refine r_iload_n (pc := 33) cx dX6_beside_33 rfl ?_
      refine r_imul (pc := 34) cx dX6_beside_34 ?_
      refine r_iload_n (pc := 35) cx dX6_beside_35 rfl ?_
      refine r_bipush (pc := 36) (v := 11) cx dX6_beside_36 (by decide +kernel) ?_
      refine r_iadd (pc := 38) cx dX6_beside_38 ?_
      refine r_bipush (pc := 39) (v := 12) cx dX6_beside_39 (by decide +kernel) ?_
      refine r_iload_n (pc := 41) cx dX6_beside_41 rfl ?_
      refine r_imul (pc := 42) cx dX6_beside_42 ?_
      refine r_isub (pc := 43) cx dX6_beside_43 ?_
      refine r_bipush (pc := 44) (v := 12) cx dX6_beside_44 (by decide +kernel) ?_
      refine r_irem (pc := 46) cx dX6_beside_46 (by decide +kernel) ?_
      refine r_iadd (pc := 47) cx dX6_beside_47 ?_
      exact r_ireturn (w0 := w) (fun _ _ h => h) (Nat.zero_le _) (Nat.zero_le _) cx dX6_beside_48 rfl
  · refine r_bipush (pc := 9) (v := 12) cx dX6_beside_9 (by decide +kernel) ?_
    refine r_iload_n (pc := 11) cx dX6_beside_11 rfl ?_
    refine r_imul (pc := 12) cx dX6_beside_12 ?_
    refine r_iload_n (pc := 13) cx dX6_beside_13 rfl ?_
    refine r_iconst (pc := 14) cx dX6_beside_14 ?_
    refine r_iadd (pc := 15) cx dX6_beside_15 ?_
    refine r_bipush (pc := 16) (v := 12) cx dX6_beside_16 (by decide +kernel) ?_
    refine r_iload_n (pc := 18) cx dX6_beside_18 rfl ?_
    refine r_imul (pc := 19) cx dX6_beside_19 ?_
    refine r_isub (pc := 20) cx dX6_beside_20 ?_
    refine r_bipush (pc := 21) (v := 12) cx dX6_beside_21 (by decide +kernel) ?_
    refine r_irem (pc := 23) cx dX6_beside_23 (by decide +kernel) ?_
    refine r_iadd (pc := 24) cx dX6_beside_24 ?_
    exact r_ireturn (w0 := w) (fun _ _ h => h) (Nat.zero_le _) (Nat.zero_le _) cx dX6_beside_25 rfl
def fX6_blocks (σ : qSt) (p0 : Int) : Option Int :=
  (if qI p0 = qI (-1) then (some 1) else (if 0 ≤ p0 ∧ p0 < 96 then (if qI (σ 48 p0) = qI 1 then (some 1) else (some 0)) else none))
set_option maxRecDepth 100000 in
set_option maxHeartbeats 4000000 in
theorem tX6_blocks {l : Launch} {z0 : Nat} {g : qG} {w : qWd} {ad : Nat → Nat} (hM : qBM g ad w) (p0 : Int) (σ : qSt) : qCT l yX6_blocks cX6_blocks 2 (some .boolean) qrm0 g z0 w [.ref (ad 47), .int (qI p0)] σ (qlift (fX6_blocks σ p0) σ) qri := by
  refine qCTp.of [(0, some (.ref (ad 47))), (1, some (.int (qI p0)))] (by decide +kernel) (Nat.le_of_ble_eq_true rfl) rfl ?_
  intro p e s m args below meth c cx
  unfold fX6_blocks
  refine r_iload_n (pc := 0) cx dX6_blocks_0 rfl ?_
  refine r_iconst (pc := 1) cx dX6_blocks_1 ?_
  refine r_icmp_eq (tgt := 15) cx dX6_blocks_2 (by decide) ?_ ?_
  · refine r_iconst (pc := 15) cx dX6_blocks_15 ?_
    refine r_goto (pc := 16) (tgt := 20) cx dX6_blocks_16 (by decide) ?_
    exact r_zreturn (w0 := w) (fun _ _ h => h) (Nat.zero_le _) (Nat.zero_le _) cx (by decide +kernel) dX6_blocks_20 rfl
  · refine r_aload_n (pc := 5) cx dX6_blocks_5 rfl ?_
    refine r_get (pc := 6) cx hcl_X6 qc_X6 (lw47 hM) (j := 1) (by decide) wf_X6_7 dX6_blocks_6 (x := .ref (ad 48)) rfl ?_
    refine r_iload_n (pc := 9) cx dX6_blocks_9 rfl ?_
    refine r_iaload (pc := 10) cx (lw48 hM) rfl (by decide) dX6_blocks_10 ?_
    refine r_iconst (pc := 11) cx dX6_blocks_11 ?_
    refine r_icmp_ne (tgt := 19) cx dX6_blocks_12 (by decide) ?_ ?_
    · refine r_iconst (pc := 19) cx dX6_blocks_19 ?_
      exact r_zreturn (w0 := w) (fun _ _ h => h) (Nat.zero_le _) (Nat.zero_le _) cx (by decide +kernel) dX6_blocks_20 rfl
    · refine r_iconst (pc := 15) cx dX6_blocks_15 ?_
      refine r_goto (pc := 16) (tgt := 20) cx dX6_blocks_16 (by decide) ?_
      exact r_zreturn (w0 := w) (fun _ _ h => h) (Nat.zero_le _) (Nat.zero_le _) cx (by decide +kernel) dX6_blocks_20 rfl
def fX6_many (σ : qSt) (p0 : Int) : Option Int :=
  (some ((((qand p0 1) + (qand (qshr p0 1) 1)) + (qand (qshr p0 2) 1)) + (qand (qshr p0 3) 1)))
set_option maxRecDepth 100000 in
set_option maxHeartbeats 4000000 in
theorem tX6_many {l : Launch} {z0 : Nat} {g : qG} {w : qWd} (p0 : Int) (σ : qSt) : qCT l yX6_many cX6_many 1 (some .int) qrm0 g z0 w [.int (qI p0)] σ (qlift (fX6_many σ p0) σ) qri := by
  refine qCTp.of [(0, some (.int (qI p0)))] (by decide +kernel) (Nat.le_of_ble_eq_true rfl) rfl ?_
  intro p e s m args below meth c cx
  unfold fX6_many
  refine r_iload_n (pc := 0) cx dX6_many_0 rfl ?_
  refine r_iconst (pc := 1) cx dX6_many_1 ?_
  refine r_iand (pc := 2) cx dX6_many_2 ?_
  refine r_iload_n (pc := 3) cx dX6_many_3 rfl ?_
  refine r_iconst (pc := 4) cx dX6_many_4 ?_
  refine r_ishr (pc := 5) cx dX6_many_5 ?_
  refine r_iconst (pc := 6) cx dX6_many_6 ?_
  refine r_iand (pc := 7) cx dX6_many_7 ?_
  refine r_iadd (pc := 8) cx dX6_many_8 ?_
  refine r_iload_n (pc := 9) cx dX6_many_9 rfl ?_
  refine r_iconst (pc := 10) cx dX6_many_10 ?_
  refine r_ishr (pc := 11) cx dX6_many_11 ?_
  refine r_iconst (pc := 12) cx dX6_many_12 ?_
  refine r_iand (pc := 13) cx dX6_many_13 ?_
  refine r_iadd (pc := 14) cx dX6_many_14 ?_
  refine r_iload_n (pc := 15) cx dX6_many_15 rfl ?_
  refine r_iconst (pc := 16) cx dX6_many_16 ?_
  refine r_ishr (pc := 17) cx dX6_many_17 ?_
  refine r_iconst (pc := 18) cx dX6_many_18 ?_
  refine r_iand (pc := 19) cx dX6_many_19 ?_
  refine r_iadd (pc := 20) cx dX6_many_20 ?_
  exact r_ireturn (w0 := w) (fun _ _ h => h) (Nat.zero_le _) (Nat.zero_le _) cx dX6_many_21 rfl
def fX6_opposite (σ : qSt) (p0 : Int) : Option Int :=
  (some (qrem (p0 + 2) 4))
set_option maxRecDepth 100000 in
set_option maxHeartbeats 4000000 in
theorem tX6_opposite {l : Launch} {z0 : Nat} {g : qG} {w : qWd} (p0 : Int) (σ : qSt) : qCT l yX6_opposite cX6_opposite 1 (some .int) qrm0 g z0 w [.int (qI p0)] σ (qlift (fX6_opposite σ p0) σ) qri := by
  refine qCTp.of [(0, some (.int (qI p0)))] (by decide +kernel) (Nat.le_of_ble_eq_true rfl) rfl ?_
  intro p e s m args below meth c cx
  unfold fX6_opposite
  refine r_iload_n (pc := 0) cx dX6_opposite_0 rfl ?_
  refine r_iconst (pc := 1) cx dX6_opposite_1 ?_
  refine r_iadd (pc := 2) cx dX6_opposite_2 ?_
  refine r_iconst (pc := 3) cx dX6_opposite_3 ?_
  refine r_irem (pc := 4) cx dX6_opposite_4 (by decide +kernel) ?_
  exact r_ireturn (w0 := w) (fun _ _ h => h) (Nat.zero_le _) (Nat.zero_le _) cx dX6_opposite_5 rfl
def fX6_cellsOf_c26 (σ : qSt) (k4 : Int → Int → Int → Option Int) (x1 : Int) (x3 : Int) (s0 : Int) (s1 : Int) : Option Int :=
  (qb (s1 + s0) fun (y1 : Int) => (k4 x1 y1 (x3 + 1)))
set_option maxRecDepth 100000 in
set_option maxHeartbeats 4000000 in
theorem tX6_cellsOf_c26 {p : Program} {l : Launch} {e : Env} {s : State} {m : MethodId} {args : Array Value} {below : List Frame} {meth : Method} {c : Code} {z0 : Nat} {g : qG} {w : qWd} {ad : Nat → Nat} {σ : qSt} (cx : qCx p s m meth c cX6_cellsOf 4 RX6 (some .int) g z0) (hM : qBM g ad w) {k4 : Int → Int → Int → Option Int} (hk4 : ∀ (x1 : Int) (x2 : Int) (x3 : Int), qS p l e qrm0 s m args below meth c 4 g z0 w 0 0 (fun r => qQ below g z0 w qri args s 0 0 (r, σ)) (k4 x1 x2 x3) σ 4 [(0, some (.ref (ad 47))), (1, some (.int (qI x1))), (2, some (.int (qI x2))), (3, some (.int (qI x3)))] []) (x1 : Int) (x3 : Int) (s0 : Int) (s1 : Int) : qS p l e qrm0 s m args below meth c 4 g z0 w 0 0 (fun r => qQ below g z0 w qri args s 0 0 (r, σ)) (fX6_cellsOf_c26 σ k4 x1 x3 s0 s1) σ 26 [(0, some (.ref (ad 47))), (1, some (.int (qI x1))), (3, some (.int (qI x3)))] [.int (qI s0), .int (qI s1)] := by
  unfold fX6_cellsOf_c26
  refine r_iadd (pc := 26) cx dX6_cellsOf_26 ?_
  refine r_nmi (fun y1 => ?_)
  refine r_istore_n (pc := 27) cx dX6_cellsOf_27 (by decide) rfl ?_
  refine r_iinc (pc := 28) cx dX6_cellsOf_28 rfl (by decide) rfl ?_
  refine r_goto (pc := 31) (tgt := 4) cx dX6_cellsOf_31 (by decide) ?_
  exact qS.sub (qsub_cons rfl (qsub_cons rfl (qsub_cons rfl (qsub_cons rfl (qsub_nil _))))) (hk4 _ _ _)
def fX6_cellsOf_c4 (σ : qSt) : Nat → Int → Int → Int → Option Int
  | 0, _, _, _ => none
  | f + 1, x1, x2, x3 => (if qI 96 ≤ qI x3 then (some x2) else (if 0 ≤ x3 ∧ x3 < 96 then (if qI (σ 49 x3) = qI x1 then (fX6_cellsOf_c26 σ (fX6_cellsOf_c4 σ f) x1 x3 1 x2) else (fX6_cellsOf_c26 σ (fX6_cellsOf_c4 σ f) x1 x3 0 x2)) else none))
set_option maxRecDepth 100000 in
set_option maxHeartbeats 4000000 in
theorem tX6_cellsOf_c4 {p : Program} {l : Launch} {e : Env} {s : State} {m : MethodId} {args : Array Value} {below : List Frame} {meth : Method} {c : Code} {z0 : Nat} {g : qG} {w : qWd} {ad : Nat → Nat} {σ : qSt} (cx : qCx p s m meth c cX6_cellsOf 4 RX6 (some .int) g z0) (hM : qBM g ad w) : ∀ (f : Nat) (x1 : Int) (x2 : Int) (x3 : Int), qS p l e qrm0 s m args below meth c 4 g z0 w 0 0 (fun r => qQ below g z0 w qri args s 0 0 (r, σ)) (fX6_cellsOf_c4 σ f x1 x2 x3) σ 4 [(0, some (.ref (ad 47))), (1, some (.int (qI x1))), (2, some (.int (qI x2))), (3, some (.int (qI x3)))] [] := by
  intro f
  induction f with
  | zero => exact fun _ _ _ => qS.fail
  | succ f ih =>
    intro x1 x2 x3
    unfold fX6_cellsOf_c4
    refine r_iload_n (pc := 4) cx dX6_cellsOf_4 rfl ?_
    refine r_bipush (pc := 5) (v := 96) cx dX6_cellsOf_5 (by decide +kernel) ?_
    refine r_icmp_ge (tgt := 34) cx dX6_cellsOf_7 (by decide) ?_ ?_
    · refine r_iload_n (pc := 34) cx dX6_cellsOf_34 rfl ?_
      exact r_ireturn (w0 := w) (fun _ _ h => h) (Nat.zero_le _) (Nat.zero_le _) cx dX6_cellsOf_35 rfl
    · refine r_iload_n (pc := 10) cx dX6_cellsOf_10 rfl ?_
      refine r_aload_n (pc := 11) cx dX6_cellsOf_11 rfl ?_
      refine r_get (pc := 12) cx hcl_X6 qc_X6 (lw47 hM) (j := 2) (by decide) wf_X6_13 dX6_cellsOf_12 (x := .ref (ad 49)) rfl ?_
      refine r_iload_n (pc := 15) cx dX6_cellsOf_15 rfl ?_
      refine r_iaload (pc := 16) cx (lw49 hM) rfl (by decide) dX6_cellsOf_16 ?_
      refine r_iload_n (pc := 17) cx dX6_cellsOf_17 rfl ?_
      refine r_icmp_ne (tgt := 25) cx dX6_cellsOf_18 (by decide) ?_ ?_
      · refine r_iconst (pc := 25) cx dX6_cellsOf_25 ?_
        exact qS.sub (qsub_cons rfl (qsub_cons rfl (qsub_cons rfl (qsub_nil _)))) (tX6_cellsOf_c26 cx hM ih _ _ _ _)
      · refine r_iconst (pc := 21) cx dX6_cellsOf_21 ?_
        refine r_goto (pc := 22) (tgt := 26) cx dX6_cellsOf_22 (by decide) ?_
        exact qS.sub (qsub_cons rfl (qsub_cons rfl (qsub_cons rfl (qsub_nil _)))) (tX6_cellsOf_c26 cx hM ih _ _ _ _)
def fX6_cellsOf (σ : qSt) (p0 : Int) : Option Int :=
  (fX6_cellsOf_c4 σ qFU p0 0 0)
set_option maxRecDepth 100000 in
set_option maxHeartbeats 4000000 in
theorem tX6_cellsOf {l : Launch} {z0 : Nat} {g : qG} {w : qWd} {ad : Nat → Nat} (hM : qBM g ad w) (p0 : Int) (σ : qSt) : qCT l yX6_cellsOf cX6_cellsOf 4 (some .int) qrm0 g z0 w [.ref (ad 47), .int (qI p0)] σ (qlift (fX6_cellsOf σ p0) σ) qri := by
  refine qCTp.of [(0, some (.ref (ad 47))), (1, some (.int (qI p0)))] (by decide +kernel) (Nat.le_of_ble_eq_true rfl) rfl ?_
  intro p e s m args below meth c cx
  unfold fX6_cellsOf
  refine r_iconst (pc := 0) cx dX6_cellsOf_0 ?_
  refine r_istore_n (pc := 1) cx dX6_cellsOf_1 (by decide) rfl ?_
  refine r_iconst (pc := 2) cx dX6_cellsOf_2 ?_
  refine r_istore_n (pc := 3) cx dX6_cellsOf_3 (by decide) rfl ?_
  exact qS.sub (qsub_cons rfl (qsub_cons rfl (qsub_cons rfl (qsub_cons rfl (qsub_nil _))))) (tX6_cellsOf_c4 cx hM _ _ _ _)
def fX6_hasProbe_c31 (σ : qSt) (k4 : Int → Int → Int → Option Int) (x1 : Int) (x3 : Int) (s0 : Int) : Option Int :=
  (k4 x1 s0 (x3 + 1))
set_option maxRecDepth 100000 in
set_option maxHeartbeats 4000000 in
theorem tX6_hasProbe_c31 {p : Program} {l : Launch} {e : Env} {s : State} {m : MethodId} {args : Array Value} {below : List Frame} {meth : Method} {c : Code} {z0 : Nat} {g : qG} {w : qWd} {ad : Nat → Nat} {σ : qSt} (cx : qCx p s m meth c cX6_hasProbe 4 RX6 (some .boolean) g z0) (hM : qBM g ad w) {k4 : Int → Int → Int → Option Int} (hk4 : ∀ (x1 : Int) (x2 : Int) (x3 : Int), qS p l e qrm0 s m args below meth c 4 g z0 w 0 0 (fun r => qQ below g z0 w qri args s 0 0 (r, σ)) (k4 x1 x2 x3) σ 4 [(0, some (.ref (ad 47))), (1, some (.int (qI x1))), (2, some (.int (qI x2))), (3, some (.int (qI x3)))] []) (x1 : Int) (x3 : Int) (s0 : Int) : qS p l e qrm0 s m args below meth c 4 g z0 w 0 0 (fun r => qQ below g z0 w qri args s 0 0 (r, σ)) (fX6_hasProbe_c31 σ k4 x1 x3 s0) σ 31 [(0, some (.ref (ad 47))), (1, some (.int (qI x1))), (3, some (.int (qI x3)))] [.int (qI s0)] := by
  unfold fX6_hasProbe_c31
  refine r_istore_n (pc := 31) cx dX6_hasProbe_31 (by decide) rfl ?_
  refine r_iinc (pc := 32) cx dX6_hasProbe_32 rfl (by decide) rfl ?_
  refine r_goto (pc := 35) (tgt := 4) cx dX6_hasProbe_35 (by decide) ?_
  exact qS.sub (qsub_cons rfl (qsub_cons rfl (qsub_cons rfl (qsub_cons rfl (qsub_nil _))))) (hk4 _ _ _)
def fX6_hasProbe_c26 (σ : qSt) (k4 : Int → Int → Int → Option Int) (x1 : Int) (x3 : Int) : Option Int :=
  (fX6_hasProbe_c31 σ k4 x1 x3 1)
set_option maxRecDepth 100000 in
set_option maxHeartbeats 4000000 in
theorem tX6_hasProbe_c26 {p : Program} {l : Launch} {e : Env} {s : State} {m : MethodId} {args : Array Value} {below : List Frame} {meth : Method} {c : Code} {z0 : Nat} {g : qG} {w : qWd} {ad : Nat → Nat} {σ : qSt} (cx : qCx p s m meth c cX6_hasProbe 4 RX6 (some .boolean) g z0) (hM : qBM g ad w) {k4 : Int → Int → Int → Option Int} (hk4 : ∀ (x1 : Int) (x2 : Int) (x3 : Int), qS p l e qrm0 s m args below meth c 4 g z0 w 0 0 (fun r => qQ below g z0 w qri args s 0 0 (r, σ)) (k4 x1 x2 x3) σ 4 [(0, some (.ref (ad 47))), (1, some (.int (qI x1))), (2, some (.int (qI x2))), (3, some (.int (qI x3)))] []) (x1 : Int) (x3 : Int) : qS p l e qrm0 s m args below meth c 4 g z0 w 0 0 (fun r => qQ below g z0 w qri args s 0 0 (r, σ)) (fX6_hasProbe_c26 σ k4 x1 x3) σ 26 [(0, some (.ref (ad 47))), (1, some (.int (qI x1))), (3, some (.int (qI x3)))] [] := by
  unfold fX6_hasProbe_c26
  refine r_iconst (pc := 26) cx dX6_hasProbe_26 ?_
  refine r_goto (pc := 27) (tgt := 31) cx dX6_hasProbe_27 (by decide) ?_
  exact qS.sub (qsub_cons rfl (qsub_cons rfl (qsub_cons rfl (qsub_nil _)))) (tX6_hasProbe_c31 cx hM hk4 _ _ _)
def fX6_hasProbe_c4 (σ : qSt) : Nat → Int → Int → Int → Option Int
  | 0, _, _, _ => none
  | f + 1, x1, x2, x3 => (if qI (σ 47 19) ≤ qI x3 then (if x2 = 0 ∨ x2 = 1 then (some x2) else none) else (if qI x2 = 0 then (if 0 ≤ x3 ∧ x3 < 4 then (if qI (σ 61 x3) = qI x1 then (fX6_hasProbe_c26 σ (fX6_hasProbe_c4 σ f) x1 x3) else (fX6_hasProbe_c31 σ (fX6_hasProbe_c4 σ f) x1 x3 0)) else none) else (fX6_hasProbe_c26 σ (fX6_hasProbe_c4 σ f) x1 x3)))
set_option maxRecDepth 100000 in
set_option maxHeartbeats 4000000 in
theorem tX6_hasProbe_c4 {p : Program} {l : Launch} {e : Env} {s : State} {m : MethodId} {args : Array Value} {below : List Frame} {meth : Method} {c : Code} {z0 : Nat} {g : qG} {w : qWd} {ad : Nat → Nat} {σ : qSt} (cx : qCx p s m meth c cX6_hasProbe 4 RX6 (some .boolean) g z0) (hM : qBM g ad w) : ∀ (f : Nat) (x1 : Int) (x2 : Int) (x3 : Int), qS p l e qrm0 s m args below meth c 4 g z0 w 0 0 (fun r => qQ below g z0 w qri args s 0 0 (r, σ)) (fX6_hasProbe_c4 σ f x1 x2 x3) σ 4 [(0, some (.ref (ad 47))), (1, some (.int (qI x1))), (2, some (.int (qI x2))), (3, some (.int (qI x3)))] [] := by
  intro f
  induction f with
  | zero => exact fun _ _ _ => qS.fail
  | succ f ih =>
    intro x1 x2 x3
    unfold fX6_hasProbe_c4
    refine r_iload_n (pc := 4) cx dX6_hasProbe_4 rfl ?_
    refine r_aload_n (pc := 5) cx dX6_hasProbe_5 rfl ?_
    refine r_get (pc := 6) cx hcl_X6 qc_X6 (lw47 hM) (j := 19) (by decide) wf_X6_66 dX6_hasProbe_6 (x := .int (qI (σ 47 19))) rfl ?_
    refine r_icmp_ge (tgt := 38) cx dX6_hasProbe_9 (by decide) ?_ ?_
    · refine r_iload_n (pc := 38) cx dX6_hasProbe_38 rfl ?_
      refine qS.ite (fun hz => ?_) (fun _ => qS.fail)
      exact r_zreturn (w0 := w) (fun _ _ h => h) (Nat.zero_le _) (Nat.zero_le _) cx (by rcases hz with hz | hz <;> rw [hz] <;> rfl) dX6_hasProbe_39 rfl
    · refine r_iload_n (pc := 12) cx dX6_hasProbe_12 rfl ?_
      refine r_if_ne (tgt := 26) cx dX6_hasProbe_13 (by decide) ?_ ?_
      · exact qS.sub (qsub_cons rfl (qsub_cons rfl (qsub_cons rfl (qsub_nil _)))) (tX6_hasProbe_c26 cx hM ih _ _)
      · refine r_aload_n (pc := 16) cx dX6_hasProbe_16 rfl ?_
        refine r_get (pc := 17) cx hcl_X6 qc_X6 (lw47 hM) (j := 20) (by decide) wf_X6_49 dX6_hasProbe_17 (x := .ref (ad 61)) rfl ?_
        refine r_iload_n (pc := 20) cx dX6_hasProbe_20 rfl ?_
        refine r_iaload (pc := 21) cx (lw61 hM) rfl (by decide) dX6_hasProbe_21 ?_
        refine r_iload_n (pc := 22) cx dX6_hasProbe_22 rfl ?_
        refine r_icmp_ne (tgt := 30) cx dX6_hasProbe_23 (by decide) ?_ ?_
        · refine r_iconst (pc := 30) cx dX6_hasProbe_30 ?_
          exact qS.sub (qsub_cons rfl (qsub_cons rfl (qsub_cons rfl (qsub_nil _)))) (tX6_hasProbe_c31 cx hM ih _ _ _)
        · exact qS.sub (qsub_cons rfl (qsub_cons rfl (qsub_cons rfl (qsub_nil _)))) (tX6_hasProbe_c26 cx hM ih _ _)
def fX6_hasProbe (σ : qSt) (p0 : Int) : Option Int :=
  (fX6_hasProbe_c4 σ qFU p0 0 0)
set_option maxRecDepth 100000 in
set_option maxHeartbeats 4000000 in
theorem tX6_hasProbe {l : Launch} {z0 : Nat} {g : qG} {w : qWd} {ad : Nat → Nat} (hM : qBM g ad w) (p0 : Int) (σ : qSt) : qCT l yX6_hasProbe cX6_hasProbe 4 (some .boolean) qrm0 g z0 w [.ref (ad 47), .int (qI p0)] σ (qlift (fX6_hasProbe σ p0) σ) qri := by
  refine qCTp.of [(0, some (.ref (ad 47))), (1, some (.int (qI p0)))] (by decide +kernel) (Nat.le_of_ble_eq_true rfl) rfl ?_
  intro p e s m args below meth c cx
  unfold fX6_hasProbe
  refine r_iconst (pc := 0) cx dX6_hasProbe_0 ?_
  refine r_istore_n (pc := 1) cx dX6_hasProbe_1 (by decide) rfl ?_
  refine r_iconst (pc := 2) cx dX6_hasProbe_2 ?_
  refine r_istore_n (pc := 3) cx dX6_hasProbe_3 (by decide) rfl ?_
  exact qS.sub (qsub_cons rfl (qsub_cons rfl (qsub_cons rfl (qsub_cons rfl (qsub_nil _))))) (tX6_hasProbe_c4 cx hM _ _ _ _)
def fX6_canBeWall_c47 (σ : qSt) (k18 : Int → Int → Int → Int → Option Int) (x1 : Int) (x2 : Int) (x4 : Int) (s0 : Int) : Option Int :=
  (k18 x1 x2 s0 (x4 + 1))
set_option maxRecDepth 100000 in
set_option maxHeartbeats 4000000 in
theorem tX6_canBeWall_c47 {p : Program} {l : Launch} {e : Env} {s : State} {m : MethodId} {args : Array Value} {below : List Frame} {meth : Method} {c : Code} {z0 : Nat} {g : qG} {w : qWd} {ad : Nat → Nat} {σ : qSt} (cx : qCx p s m meth c cX6_canBeWall 5 RX6 (some .boolean) g z0) (hM : qBM g ad w) {k18 : Int → Int → Int → Int → Option Int} (hk18 : ∀ (x1 : Int) (x2 : Int) (x3 : Int) (x4 : Int), qS p l e qrm1 s m args below meth c 5 g z0 w 0 0 (fun r => qQ below g z0 w qri args s 0 0 (r, σ)) (k18 x1 x2 x3 x4) σ 18 [(0, some (.ref (ad 47))), (1, some (.int (qI x1))), (2, some (.int (qI x2))), (3, some (.int (qI x3))), (4, some (.int (qI x4)))] []) (x1 : Int) (x2 : Int) (x4 : Int) (s0 : Int) : qS p l e qrm1 s m args below meth c 5 g z0 w 0 0 (fun r => qQ below g z0 w qri args s 0 0 (r, σ)) (fX6_canBeWall_c47 σ k18 x1 x2 x4 s0) σ 47 [(0, some (.ref (ad 47))), (1, some (.int (qI x1))), (2, some (.int (qI x2))), (4, some (.int (qI x4)))] [.int (qI s0)] := by
  unfold fX6_canBeWall_c47
  refine r_istore_n (pc := 47) cx dX6_canBeWall_47 (by decide) rfl ?_
  refine r_iinc (pc := 48) cx dX6_canBeWall_48 rfl (by decide) rfl ?_
  refine r_goto (pc := 51) (tgt := 18) cx dX6_canBeWall_51 (by decide) ?_
  exact qS.sub (qsub_cons rfl (qsub_cons rfl (qsub_cons rfl (qsub_cons rfl (qsub_cons rfl (qsub_nil _)))))) (hk18 _ _ _ _)
def fX6_canBeWall_c46 (σ : qSt) (k18 : Int → Int → Int → Int → Option Int) (x1 : Int) (x2 : Int) (x4 : Int) : Option Int :=
  (fX6_canBeWall_c47 σ k18 x1 x2 x4 0)
set_option maxRecDepth 100000 in
set_option maxHeartbeats 4000000 in
theorem tX6_canBeWall_c46 {p : Program} {l : Launch} {e : Env} {s : State} {m : MethodId} {args : Array Value} {below : List Frame} {meth : Method} {c : Code} {z0 : Nat} {g : qG} {w : qWd} {ad : Nat → Nat} {σ : qSt} (cx : qCx p s m meth c cX6_canBeWall 5 RX6 (some .boolean) g z0) (hM : qBM g ad w) {k18 : Int → Int → Int → Int → Option Int} (hk18 : ∀ (x1 : Int) (x2 : Int) (x3 : Int) (x4 : Int), qS p l e qrm1 s m args below meth c 5 g z0 w 0 0 (fun r => qQ below g z0 w qri args s 0 0 (r, σ)) (k18 x1 x2 x3 x4) σ 18 [(0, some (.ref (ad 47))), (1, some (.int (qI x1))), (2, some (.int (qI x2))), (3, some (.int (qI x3))), (4, some (.int (qI x4)))] []) (x1 : Int) (x2 : Int) (x4 : Int) : qS p l e qrm1 s m args below meth c 5 g z0 w 0 0 (fun r => qQ below g z0 w qri args s 0 0 (r, σ)) (fX6_canBeWall_c46 σ k18 x1 x2 x4) σ 46 [(0, some (.ref (ad 47))), (1, some (.int (qI x1))), (2, some (.int (qI x2))), (4, some (.int (qI x4)))] [] := by
  unfold fX6_canBeWall_c46
  refine r_iconst (pc := 46) cx dX6_canBeWall_46 ?_
  exact qS.sub (qsub_cons rfl (qsub_cons rfl (qsub_cons rfl (qsub_cons rfl (qsub_nil _))))) (tX6_canBeWall_c47 cx hM hk18 _ _ _ _)
def fX6_canBeWall_c18 (σ : qSt) : Nat → Int → Int → Int → Int → Option Int
  | 0, _, _, _, _ => none
  | f + 1, x1, x2, x3, x4 => (if qI 4 ≤ qI x4 then (if 0 ≤ x1 ∧ x1 < 96 then (if qI (σ 48 x1) = 0 then (if qI x3 = 0 then (some 0) else ((fX6_hasProbe σ x1).bind fun (r69 : Int) => (if qI r69 = 0 then (if qI x2 = qI (-1) then (some 1) else ((fX6_cellsOf σ x2).bind fun (r82 : Int) => (if qI 12 ≤ qI r82 then (some 0) else (some 1)))) else (some 0)))) else (some 0)) else none) else (if qI x3 = 0 then (fX6_canBeWall_c46 σ (fX6_canBeWall_c18 σ f) x1 x2 x4) else (if 0 ≤ ((4 * x1) + x4) ∧ ((4 * x1) + x4) < 384 then (if qI (σ 56 ((4 * x1) + x4)) = 0 then (fX6_canBeWall_c47 σ (fX6_canBeWall_c18 σ f) x1 x2 x4 1) else (fX6_canBeWall_c46 σ (fX6_canBeWall_c18 σ f) x1 x2 x4)) else none)))
set_option maxRecDepth 100000 in
set_option maxHeartbeats 4000000 in
theorem tX6_canBeWall_c18 {p : Program} {l : Launch} {e : Env} {s : State} {m : MethodId} {args : Array Value} {below : List Frame} {meth : Method} {c : Code} {z0 : Nat} {g : qG} {w : qWd} {ad : Nat → Nat} {σ : qSt} (cx : qCx p s m meth c cX6_canBeWall 5 RX6 (some .boolean) g z0) (hM : qBM g ad w) : ∀ (f : Nat) (x1 : Int) (x2 : Int) (x3 : Int) (x4 : Int), qS p l e qrm1 s m args below meth c 5 g z0 w 0 0 (fun r => qQ below g z0 w qri args s 0 0 (r, σ)) (fX6_canBeWall_c18 σ f x1 x2 x3 x4) σ 18 [(0, some (.ref (ad 47))), (1, some (.int (qI x1))), (2, some (.int (qI x2))), (3, some (.int (qI x3))), (4, some (.int (qI x4)))] [] := by
  intro f
  induction f with
  | zero => exact fun _ _ _ _ => qS.fail
  | succ f ih =>
    intro x1 x2 x3 x4
    unfold fX6_canBeWall_c18
    refine r_iload (pc := 18) cx dX6_canBeWall_18 rfl ?_
    refine r_iconst (pc := 20) cx dX6_canBeWall_20 ?_
    refine r_icmp_ge (tgt := 54) cx dX6_canBeWall_21 (by decide) ?_ ?_
    · refine r_aload_n (pc := 54) cx dX6_canBeWall_54 rfl ?_
      refine r_get (pc := 55) cx hcl_X6 qc_X6 (lw47 hM) (j := 1) (by decide) wf_X6_7 dX6_canBeWall_55 (x := .ref (ad 48)) rfl ?_
      refine r_iload_n (pc := 58) cx dX6_canBeWall_58 rfl ?_
      refine r_iaload (pc := 59) cx (lw48 hM) rfl (by decide) dX6_canBeWall_59 ?_
      refine r_if_ne (tgt := 94) cx dX6_canBeWall_60 (by decide) ?_ ?_
      · refine r_iconst (pc := 94) cx dX6_canBeWall_94 ?_
        exact r_zreturn (w0 := w) (fun _ _ h => h) (Nat.zero_le _) (Nat.zero_le _) cx (by decide +kernel) dX6_canBeWall_95 rfl
      · refine r_iload_n (pc := 63) cx dX6_canBeWall_63 rfl ?_
        refine r_if_eq (tgt := 94) cx dX6_canBeWall_64 (by decide) ?_ ?_
        · refine r_iconst (pc := 94) cx dX6_canBeWall_94 ?_
          exact r_zreturn (w0 := w) (fun _ _ h => h) (Nat.zero_le _) (Nat.zero_le _) cx (by decide +kernel) dX6_canBeWall_95 rfl
        · refine r_aload_n (pc := 67) cx dX6_canBeWall_67 rfl ?_
          refine r_iload_n (pc := 68) cx dX6_canBeWall_68 rfl ?_
          refine r_pVi (pc := 69) cx (tX6_hasProbe hM x1 σ) qm_X6_hasProbe qv_X6_hasProbe hcl_X6 (lw47 hM) wm_X6_69 dX6_canBeWall_69 rfl rfl (Nat.le_of_ble_eq_true rfl) ⟨Nat.le_of_ble_eq_true rfl, Nat.le_of_ble_eq_true rfl⟩ ⟨rfl, rfl⟩ ⟨Nat.zero_le _, Nat.zero_le _⟩ (fun r69 => ?_)
          refine r_if_ne (tgt := 94) cx dX6_canBeWall_72 (by decide) ?_ ?_
          · refine r_iconst (pc := 94) cx dX6_canBeWall_94 ?_
            exact r_zreturn (w0 := w) (fun _ _ h => h) (Nat.zero_le _) (Nat.zero_le _) cx (by decide +kernel) dX6_canBeWall_95 rfl
          · refine r_iload_n (pc := 75) cx dX6_canBeWall_75 rfl ?_
            refine r_iconst (pc := 76) cx dX6_canBeWall_76 ?_
            refine r_icmp_eq (tgt := 90) cx dX6_canBeWall_77 (by decide) ?_ ?_
            · refine r_iconst (pc := 90) cx dX6_canBeWall_90 ?_
              refine r_goto (pc := 91) (tgt := 95) cx dX6_canBeWall_91 (by decide) ?_
              exact r_zreturn (w0 := w) (fun _ _ h => h) (Nat.zero_le _) (Nat.zero_le _) cx (by decide +kernel) dX6_canBeWall_95 rfl
            · refine r_aload_n (pc := 80) cx dX6_canBeWall_80 rfl ?_
              refine r_iload_n (pc := 81) cx dX6_canBeWall_81 rfl ?_
              refine r_pVi (pc := 82) cx (tX6_cellsOf hM x2 σ) qm_X6_cellsOf qv_X6_cellsOf hcl_X6 (lw47 hM) wm_X6_73 dX6_canBeWall_82 rfl rfl (Nat.le_of_ble_eq_true rfl) ⟨Nat.le_of_ble_eq_true rfl, Nat.le_of_ble_eq_true rfl⟩ ⟨rfl, rfl⟩ ⟨Nat.zero_le _, Nat.zero_le _⟩ (fun r82 => ?_)
              refine r_bipush (pc := 85) (v := 12) cx dX6_canBeWall_85 (by decide +kernel) ?_
              refine r_icmp_ge (tgt := 94) cx dX6_canBeWall_87 (by decide) ?_ ?_
              · refine r_iconst (pc := 94) cx dX6_canBeWall_94 ?_
                exact r_zreturn (w0 := w) (fun _ _ h => h) (Nat.zero_le _) (Nat.zero_le _) cx (by decide +kernel) dX6_canBeWall_95 rfl
              · refine r_iconst (pc := 90) cx dX6_canBeWall_90 ?_
                refine r_goto (pc := 91) (tgt := 95) cx dX6_canBeWall_91 (by decide) ?_
                exact r_zreturn (w0 := w) (fun _ _ h => h) (Nat.zero_le _) (Nat.zero_le _) cx (by decide +kernel) dX6_canBeWall_95 rfl
    · refine r_iload_n (pc := 24) cx dX6_canBeWall_24 rfl ?_
      refine r_if_eq (tgt := 46) cx dX6_canBeWall_25 (by decide) ?_ ?_
      · exact qS.sub (qsub_cons rfl (qsub_cons rfl (qsub_cons rfl (qsub_cons rfl (qsub_nil _))))) (tX6_canBeWall_c46 cx hM ih _ _ _)
      · refine r_aload_n (pc := 28) cx dX6_canBeWall_28 rfl ?_
        refine r_get (pc := 29) cx hcl_X6 qc_X6 (lw47 hM) (j := 9) (by decide) wf_X6_34 dX6_canBeWall_29 (x := .ref (ad 56)) rfl ?_
        refine r_iconst (pc := 32) cx dX6_canBeWall_32 ?_
        refine r_iload_n (pc := 33) cx dX6_canBeWall_33 rfl ?_
        refine r_imul (pc := 34) cx dX6_canBeWall_34 ?_
        refine r_iload (pc := 35) cx dX6_canBeWall_35 rfl ?_
        refine r_iadd (pc := 37) cx dX6_canBeWall_37 ?_
        refine r_iaload (pc := 38) cx (lw56 hM) rfl (by decide) dX6_canBeWall_38 ?_
        refine r_if_ne (tgt := 46) cx dX6_canBeWall_39 (by decide) ?_ ?_
        · exact qS.sub (qsub_cons rfl (qsub_cons rfl (qsub_cons rfl (qsub_cons rfl (qsub_nil _))))) (tX6_canBeWall_c46 cx hM ih _ _ _)
        · refine r_iconst (pc := 42) cx dX6_canBeWall_42 ?_
          refine r_goto (pc := 43) (tgt := 47) cx dX6_canBeWall_43 (by decide) ?_
          exact qS.sub (qsub_cons rfl (qsub_cons rfl (qsub_cons rfl (qsub_cons rfl (qsub_nil _))))) (tX6_canBeWall_c47 cx hM ih _ _ _ _)
def fX6_canBeWall_c14 (σ : qSt) (x1 : Int) (x2 : Int) (s0 : Int) : Option Int :=
  (fX6_canBeWall_c18 σ qFU x1 x2 s0 0)
set_option maxRecDepth 100000 in
set_option maxHeartbeats 4000000 in
theorem tX6_canBeWall_c14 {p : Program} {l : Launch} {e : Env} {s : State} {m : MethodId} {args : Array Value} {below : List Frame} {meth : Method} {c : Code} {z0 : Nat} {g : qG} {w : qWd} {ad : Nat → Nat} {σ : qSt} (cx : qCx p s m meth c cX6_canBeWall 5 RX6 (some .boolean) g z0) (hM : qBM g ad w) (x1 : Int) (x2 : Int) (s0 : Int) : qS p l e qrm1 s m args below meth c 5 g z0 w 0 0 (fun r => qQ below g z0 w qri args s 0 0 (r, σ)) (fX6_canBeWall_c14 σ x1 x2 s0) σ 14 [(0, some (.ref (ad 47))), (1, some (.int (qI x1))), (2, some (.int (qI x2)))] [.int (qI s0)] := by
  unfold fX6_canBeWall_c14
  refine r_istore_n (pc := 14) cx dX6_canBeWall_14 (by decide) rfl ?_
  refine r_iconst (pc := 15) cx dX6_canBeWall_15 ?_
  refine r_istore (pc := 16) cx dX6_canBeWall_16 (by decide) rfl ?_
  exact qS.sub (qsub_cons rfl (qsub_cons rfl (qsub_cons rfl (qsub_cons rfl (qsub_cons rfl (qsub_nil _)))))) (tX6_canBeWall_c18 cx hM _ _ _ _ _)
def fX6_canBeWall (σ : qSt) (p0 : Int) (p1 : Int) : Option Int :=
  (if 0 ≤ p0 ∧ p0 < 96 then (if qI (σ 50 p0) = 0 then (fX6_canBeWall_c14 σ p0 p1 1) else (fX6_canBeWall_c14 σ p0 p1 0)) else none)
set_option maxRecDepth 100000 in
set_option maxHeartbeats 4000000 in
theorem tX6_canBeWall {l : Launch} {z0 : Nat} {g : qG} {w : qWd} {ad : Nat → Nat} (hM : qBM g ad w) (p0 : Int) (p1 : Int) (σ : qSt) : qCT l yX6_canBeWall cX6_canBeWall 5 (some .boolean) qrm1 g z0 w [.ref (ad 47), .int (qI p0), .int (qI p1)] σ (qlift (fX6_canBeWall σ p0 p1) σ) qri := by
  refine qCTp.of [(0, some (.ref (ad 47))), (1, some (.int (qI p0))), (2, some (.int (qI p1)))] (by decide +kernel) (Nat.le_of_ble_eq_true rfl) rfl ?_
  intro p e s m args below meth c cx
  unfold fX6_canBeWall
  refine r_aload_n (pc := 0) cx dX6_canBeWall_0 rfl ?_
  refine r_get (pc := 1) cx hcl_X6 qc_X6 (lw47 hM) (j := 3) (by decide) wf_X6_16 dX6_canBeWall_1 (x := .ref (ad 50)) rfl ?_
  refine r_iload_n (pc := 4) cx dX6_canBeWall_4 rfl ?_
  refine r_iaload (pc := 5) cx (lw50 hM) rfl (by decide) dX6_canBeWall_5 ?_
  refine r_if_ne (tgt := 13) cx dX6_canBeWall_6 (by decide) ?_ ?_
  · refine r_iconst (pc := 13) cx dX6_canBeWall_13 ?_
    exact qS.sub (qsub_cons rfl (qsub_cons rfl (qsub_cons rfl (qsub_nil _)))) (tX6_canBeWall_c14 cx hM _ _ _)
  · refine r_iconst (pc := 9) cx dX6_canBeWall_9 ?_
    refine r_goto (pc := 10) (tgt := 14) cx dX6_canBeWall_10 (by decide) ?_
    exact qS.sub (qsub_cons rfl (qsub_cons rfl (qsub_cons rfl (qsub_nil _)))) (tX6_canBeWall_c14 cx hM _ _ _)
def fX6_wall_c46 (x1 : Int) (x2 : Int) (s0 : Int) (σ : qSt) : Option (Int × qSt) :=
  (qbd (fX6_refused s0 σ) fun (r46 : Int) (σ1 : qSt) => (if qI r46 = 0 then (if 0 ≤ x1 ∧ x1 < 96 then (qb (qset σ1 48 x1 1) fun (σ2 : qSt) => (if 0 ≤ x1 ∧ x1 < 96 then (qb (qset σ2 49 x1 x2) fun (σ3 : qSt) => (qb (qset σ3 47 16 0) fun (σ4 : qSt) => (some (0, σ4)))) else none)) else none) else (some (0, σ1))))
set_option maxRecDepth 100000 in
set_option maxHeartbeats 4000000 in
theorem tX6_wall_c46 {p : Program} {l : Launch} {e : Env} {s : State} {m : MethodId} {args : Array Value} {below : List Frame} {meth : Method} {c : Code} {z0 : Nat} {g : qG} {w : qWd} {ad : Nat → Nat} (cx : qCx p s m meth c cX6_wall 4 RX6 none g z0) (hM : qBM g ad w) (x1 : Int) (x2 : Int) (s0 : Int) (σ : qSt) : qS p l e qrm2 s m args below meth c 4 g z0 w 0 0 (qQ below g z0 w qrv args s 0 0) (fX6_wall_c46 x1 x2 s0 σ) σ 46 [(0, some (.ref (ad 47))), (1, some (.int (qI x1))), (2, some (.int (qI x2)))] [.int (qI s0), .ref (ad 47)] := by
  unfold fX6_wall_c46
  refine r_dVi (pc := 46) cx (tX6_refused hM s0 σ) qm_X6_refused qv_X6_refused hcl_X6 (lw47 hM) wm_X6_84 dX6_wall_46 rfl rfl (Nat.le_of_ble_eq_true rfl) ⟨Nat.le_of_ble_eq_true rfl, Nat.le_of_ble_eq_true rfl⟩ ⟨rfl, rfl⟩ ⟨Nat.zero_le _, Nat.zero_le _⟩ (fun r46 σ1 => ?_)
  refine r_if_eq (tgt := 53) cx dX6_wall_49 (by decide) ?_ ?_
  · refine r_aload_n (pc := 53) cx dX6_wall_53 rfl ?_
    refine r_get (pc := 54) cx hcl_X6 qc_X6 (lw47 hM) (j := 1) (by decide) wf_X6_7 dX6_wall_54 (x := .ref (ad 48)) rfl ?_
    refine r_iload_n (pc := 57) cx dX6_wall_57 rfl ?_
    refine r_iconst (pc := 58) cx dX6_wall_58 ?_
    refine r_iastore (pc := 59) cx (lw48 hM) rfl (by decide) dX6_wall_59 (fun σ2 => ?_)
    refine r_aload_n (pc := 60) cx dX6_wall_60 rfl ?_
    refine r_get (pc := 61) cx hcl_X6 qc_X6 (lw47 hM) (j := 2) (by decide) wf_X6_13 dX6_wall_61 (x := .ref (ad 49)) rfl ?_
    refine r_iload_n (pc := 64) cx dX6_wall_64 rfl ?_
    refine r_iload_n (pc := 65) cx dX6_wall_65 rfl ?_
    refine r_iastore (pc := 66) cx (lw49 hM) rfl (by decide) dX6_wall_66 (fun σ3 => ?_)
    refine r_aload_n (pc := 67) cx dX6_wall_67 rfl ?_
    refine r_iconst (pc := 68) cx dX6_wall_68 ?_
    refine r_puti (pc := 69) (J := 16) cx hcl_X6 qc_X6 (lw47 hM) (j := 16) (by decide) tyX6_ok nmX6 wf_X6_87 rfl (by decide +kernel) rfl (Nat.le_of_ble_eq_true rfl) (fun r => rfl) dX6_wall_69 (fun σ4 => ?_)
    exact r_return (w0 := w) (fun _ _ h => h) (Nat.zero_le _) (Nat.zero_le _) cx dX6_wall_72 rfl
  · exact r_return (w0 := w) (fun _ _ h => h) (Nat.zero_le _) (Nat.zero_le _) cx dX6_wall_52 rfl
def fX6_wall_c22 (x1 : Int) (x2 : Int) (s0 : Int) (σ : qSt) : Option (Int × qSt) :=
  (if qI s0 = 0 then (fX6_wall_c46 x1 x2 1 σ) else ((fX6_canBeWall σ x1 x2).bind fun (r35 : Int) => (if qI r35 = 0 then (fX6_wall_c46 x1 x2 2 σ) else (fX6_wall_c46 x1 x2 0 σ))))
set_option maxRecDepth 100000 in
set_option maxHeartbeats 4000000 in
theorem tX6_wall_c22 {p : Program} {l : Launch} {e : Env} {s : State} {m : MethodId} {args : Array Value} {below : List Frame} {meth : Method} {c : Code} {z0 : Nat} {g : qG} {w : qWd} {ad : Nat → Nat} (cx : qCx p s m meth c cX6_wall 4 RX6 none g z0) (hM : qBM g ad w) (x1 : Int) (x2 : Int) (s0 : Int) (σ : qSt) : qS p l e qrm2 s m args below meth c 4 g z0 w 0 0 (qQ below g z0 w qrv args s 0 0) (fX6_wall_c22 x1 x2 s0 σ) σ 22 [(0, some (.ref (ad 47))), (1, some (.int (qI x1))), (2, some (.int (qI x2)))] [.int (qI s0)] := by
  unfold fX6_wall_c22
  refine r_istore_n (pc := 22) cx dX6_wall_22 (by decide) rfl ?_
  refine r_aload_n (pc := 23) cx dX6_wall_23 rfl ?_
  refine r_iload_n (pc := 24) cx dX6_wall_24 rfl ?_
  refine r_if_ne (tgt := 32) cx dX6_wall_25 (by decide) ?_ ?_
  · refine r_aload_n (pc := 32) cx dX6_wall_32 rfl ?_
    refine r_iload_n (pc := 33) cx dX6_wall_33 rfl ?_
    refine r_iload_n (pc := 34) cx dX6_wall_34 rfl ?_
    refine r_pVi (pc := 35) cx (tX6_canBeWall hM x1 x2 σ) qm_X6_canBeWall qv_X6_canBeWall hcl_X6 (lw47 hM) wm_X6_80 dX6_wall_35 rfl rfl (Nat.le_of_ble_eq_true rfl) ⟨Nat.le_of_ble_eq_true rfl, Nat.le_of_ble_eq_true rfl⟩ ⟨rfl, rfl⟩ ⟨Nat.zero_le _, Nat.zero_le _⟩ (fun r35 => ?_)
    refine r_if_ne (tgt := 45) cx dX6_wall_38 (by decide) ?_ ?_
    · refine r_iconst (pc := 45) cx dX6_wall_45 ?_
      exact qS.sub (qsub_cons rfl (qsub_cons rfl (qsub_cons rfl (qsub_nil _)))) (tX6_wall_c46 cx hM _ _ _ _)
    · refine r_iconst (pc := 41) cx dX6_wall_41 ?_
      refine r_goto (pc := 42) (tgt := 46) cx dX6_wall_42 (by decide) ?_
      exact qS.sub (qsub_cons rfl (qsub_cons rfl (qsub_cons rfl (qsub_nil _)))) (tX6_wall_c46 cx hM _ _ _ _)
  · refine r_iconst (pc := 28) cx dX6_wall_28 ?_
    refine r_goto (pc := 29) (tgt := 46) cx dX6_wall_29 (by decide) ?_
    exact qS.sub (qsub_cons rfl (qsub_cons rfl (qsub_cons rfl (qsub_nil _)))) (tX6_wall_c46 cx hM _ _ _ _)
def fX6_wall_c21 (x1 : Int) (x2 : Int) (σ : qSt) : Option (Int × qSt) :=
  (fX6_wall_c22 x1 x2 0 σ)
set_option maxRecDepth 100000 in
set_option maxHeartbeats 4000000 in
theorem tX6_wall_c21 {p : Program} {l : Launch} {e : Env} {s : State} {m : MethodId} {args : Array Value} {below : List Frame} {meth : Method} {c : Code} {z0 : Nat} {g : qG} {w : qWd} {ad : Nat → Nat} (cx : qCx p s m meth c cX6_wall 4 RX6 none g z0) (hM : qBM g ad w) (x1 : Int) (x2 : Int) (σ : qSt) : qS p l e qrm2 s m args below meth c 4 g z0 w 0 0 (qQ below g z0 w qrv args s 0 0) (fX6_wall_c21 x1 x2 σ) σ 21 [(0, some (.ref (ad 47))), (1, some (.int (qI x1))), (2, some (.int (qI x2)))] [] := by
  unfold fX6_wall_c21
  refine r_iconst (pc := 21) cx dX6_wall_21 ?_
  exact qS.sub (qsub_cons rfl (qsub_cons rfl (qsub_cons rfl (qsub_nil _)))) (tX6_wall_c22 cx hM _ _ _ _)
def fX6_wall (p0 : Int) (p1 : Int) (σ : qSt) : Option (Int × qSt) :=
  ((fX6_isCell σ p0).bind fun (r2 : Int) => (if qI r2 = 0 then (fX6_wall_c21 p0 p1 σ) else ((fX6_within σ p1 (-1) 3).bind fun (r11 : Int) => (if qI r11 = 0 then (fX6_wall_c21 p0 p1 σ) else (fX6_wall_c22 p0 p1 1 σ)))))
set_option maxRecDepth 100000 in
set_option maxHeartbeats 4000000 in
theorem tX6_wall {l : Launch} {z0 : Nat} {g : qG} {w : qWd} {ad : Nat → Nat} (hM : qBM g ad w) (p0 : Int) (p1 : Int) (σ : qSt) : qCT l yX6_wall cX6_wall 4 none qrm2 g z0 w [.ref (ad 47), .int (qI p0), .int (qI p1)] σ (fX6_wall p0 p1 σ) qrv := by
  refine qCT.of [(0, some (.ref (ad 47))), (1, some (.int (qI p0))), (2, some (.int (qI p1)))] (by decide +kernel) (Nat.le_of_ble_eq_true rfl) rfl ?_
  intro p e s m args below meth c cx
  unfold fX6_wall
  refine r_aload_n (pc := 0) cx dX6_wall_0 rfl ?_
  refine r_iload_n (pc := 1) cx dX6_wall_1 rfl ?_
  refine r_pVi (pc := 2) cx (tX6_isCell hM p0 σ) qm_X6_isCell qv_X6_isCell hcl_X6 (lw47 hM) wm_X6_77 dX6_wall_2 rfl rfl (Nat.le_of_ble_eq_true rfl) ⟨Nat.le_of_ble_eq_true rfl, Nat.le_of_ble_eq_true rfl⟩ ⟨rfl, rfl⟩ ⟨Nat.zero_le _, Nat.zero_le _⟩ (fun r2 => ?_)
  refine r_if_eq (tgt := 21) cx dX6_wall_5 (by decide) ?_ ?_
  · exact qS.sub (qsub_cons rfl (qsub_cons rfl (qsub_cons rfl (qsub_nil _)))) (tX6_wall_c21 cx hM _ _ _)
  · refine r_iload_n (pc := 8) cx dX6_wall_8 rfl ?_
    refine r_iconst (pc := 9) cx dX6_wall_9 ?_
    refine r_iconst (pc := 10) cx dX6_wall_10 ?_
    refine r_pSi (pc := 11) cx (tX6_within  p1 (-1) 3 σ) qm_X6_within qs_X6_within wm_X6_62 dX6_wall_11 rfl rfl (Nat.le_of_ble_eq_true rfl) ⟨Nat.le_of_ble_eq_true rfl, Nat.le_of_ble_eq_true rfl⟩ ⟨rfl, rfl⟩ ⟨Nat.zero_le _, Nat.zero_le _⟩ (fun r11 => ?_)
    refine r_if_eq (tgt := 21) cx dX6_wall_14 (by decide) ?_ ?_
    · exact qS.sub (qsub_cons rfl (qsub_cons rfl (qsub_cons rfl (qsub_nil _)))) (tX6_wall_c21 cx hM _ _ _)
    · refine r_iconst (pc := 17) cx dX6_wall_17 ?_
      refine r_goto (pc := 18) (tgt := 22) cx dX6_wall_18 (by decide) ?_
      exact qS.sub (qsub_cons rfl (qsub_cons rfl (qsub_cons rfl (qsub_nil _)))) (tX6_wall_c22 cx hM _ _ _ _)
def fX6_clear_c14 (x1 : Int) (s0 : Int) (σ : qSt) : Option (Int × qSt) :=
  (qbd (fX6_refused s0 σ) fun (r14 : Int) (σ1 : qSt) => (if qI r14 = 0 then (if 0 ≤ x1 ∧ x1 < 96 then (qb (σ1 48 x1) fun (y2 : Int) => (if 0 ≤ x1 ∧ x1 < 96 then (qb (qset σ1 48 x1 0) fun (σ3 : qSt) => (if 0 ≤ x1 ∧ x1 < 96 then (qb (qset σ3 49 x1 (-1)) fun (σ4 : qSt) => (qb (qset σ4 47 16 0) fun (σ5 : qSt) => (some (y2, σ5)))) else none)) else none)) else none) else (some (0, σ1))))
set_option maxRecDepth 100000 in
set_option maxHeartbeats 4000000 in
theorem tX6_clear_c14 {p : Program} {l : Launch} {e : Env} {s : State} {m : MethodId} {args : Array Value} {below : List Frame} {meth : Method} {c : Code} {z0 : Nat} {g : qG} {w : qWd} {ad : Nat → Nat} (cx : qCx p s m meth c cX6_clear 3 RX6 (some .int) g z0) (hM : qBM g ad w) (x1 : Int) (s0 : Int) (σ : qSt) : qS p l e qrm2 s m args below meth c 3 g z0 w 0 0 (qQ below g z0 w qri args s 0 0) (fX6_clear_c14 x1 s0 σ) σ 14 [(0, some (.ref (ad 47))), (1, some (.int (qI x1)))] [.int (qI s0), .ref (ad 47)] := by
  unfold fX6_clear_c14
  refine r_dVi (pc := 14) cx (tX6_refused hM s0 σ) qm_X6_refused qv_X6_refused hcl_X6 (lw47 hM) wm_X6_84 dX6_clear_14 rfl rfl (Nat.le_of_ble_eq_true rfl) ⟨Nat.le_of_ble_eq_true rfl, Nat.le_of_ble_eq_true rfl⟩ ⟨rfl, rfl⟩ ⟨Nat.zero_le _, Nat.zero_le _⟩ (fun r14 σ1 => ?_)
  refine r_if_eq (tgt := 22) cx dX6_clear_17 (by decide) ?_ ?_
  · refine r_aload_n (pc := 22) cx dX6_clear_22 rfl ?_
    refine r_get (pc := 23) cx hcl_X6 qc_X6 (lw47 hM) (j := 1) (by decide) wf_X6_7 dX6_clear_23 (x := .ref (ad 48)) rfl ?_
    refine r_iload_n (pc := 26) cx dX6_clear_26 rfl ?_
    refine r_iaload (pc := 27) cx (lw48 hM) rfl (by decide) dX6_clear_27 ?_
    refine r_nmi (fun y2 => ?_)
    refine r_istore_n (pc := 28) cx dX6_clear_28 (by decide) rfl ?_
    refine r_aload_n (pc := 29) cx dX6_clear_29 rfl ?_
    refine r_get (pc := 30) cx hcl_X6 qc_X6 (lw47 hM) (j := 1) (by decide) wf_X6_7 dX6_clear_30 (x := .ref (ad 48)) rfl ?_
    refine r_iload_n (pc := 33) cx dX6_clear_33 rfl ?_
    refine r_iconst (pc := 34) cx dX6_clear_34 ?_
    refine r_iastore (pc := 35) cx (lw48 hM) rfl (by decide) dX6_clear_35 (fun σ3 => ?_)
    refine r_aload_n (pc := 36) cx dX6_clear_36 rfl ?_
    refine r_get (pc := 37) cx hcl_X6 qc_X6 (lw47 hM) (j := 2) (by decide) wf_X6_13 dX6_clear_37 (x := .ref (ad 49)) rfl ?_
    refine r_iload_n (pc := 40) cx dX6_clear_40 rfl ?_
    refine r_iconst (pc := 41) cx dX6_clear_41 ?_
    refine r_iastore (pc := 42) cx (lw49 hM) rfl (by decide) dX6_clear_42 (fun σ4 => ?_)
    refine r_aload_n (pc := 43) cx dX6_clear_43 rfl ?_
    refine r_iconst (pc := 44) cx dX6_clear_44 ?_
    refine r_puti (pc := 45) (J := 16) cx hcl_X6 qc_X6 (lw47 hM) (j := 16) (by decide) tyX6_ok nmX6 wf_X6_87 rfl (by decide +kernel) rfl (Nat.le_of_ble_eq_true rfl) (fun r => rfl) dX6_clear_45 (fun σ5 => ?_)
    refine r_iload_n (pc := 48) cx dX6_clear_48 rfl ?_
    exact r_ireturn (w0 := w) (fun _ _ h => h) (Nat.zero_le _) (Nat.zero_le _) cx dX6_clear_49 rfl
  · refine r_iconst (pc := 20) cx dX6_clear_20 ?_
    exact r_ireturn (w0 := w) (fun _ _ h => h) (Nat.zero_le _) (Nat.zero_le _) cx dX6_clear_21 rfl
def fX6_clear (p0 : Int) (σ : qSt) : Option (Int × qSt) :=
  ((fX6_isCell σ p0).bind fun (r3 : Int) => (if qI r3 = 0 then (fX6_clear_c14 p0 1 σ) else (fX6_clear_c14 p0 0 σ)))
set_option maxRecDepth 100000 in
set_option maxHeartbeats 4000000 in
theorem tX6_clear {l : Launch} {z0 : Nat} {g : qG} {w : qWd} {ad : Nat → Nat} (hM : qBM g ad w) (p0 : Int) (σ : qSt) : qCT l yX6_clear cX6_clear 3 (some .int) qrm2 g z0 w [.ref (ad 47), .int (qI p0)] σ (fX6_clear p0 σ) qri := by
  refine qCT.of [(0, some (.ref (ad 47))), (1, some (.int (qI p0)))] (by decide +kernel) (Nat.le_of_ble_eq_true rfl) rfl ?_
  intro p e s m args below meth c cx
  unfold fX6_clear
  refine r_aload_n (pc := 0) cx dX6_clear_0 rfl ?_
  refine r_aload_n (pc := 1) cx dX6_clear_1 rfl ?_
  refine r_iload_n (pc := 2) cx dX6_clear_2 rfl ?_
  refine r_pVi (pc := 3) cx (tX6_isCell hM p0 σ) qm_X6_isCell qv_X6_isCell hcl_X6 (lw47 hM) wm_X6_77 dX6_clear_3 rfl rfl (Nat.le_of_ble_eq_true rfl) ⟨Nat.le_of_ble_eq_true rfl, Nat.le_of_ble_eq_true rfl⟩ ⟨rfl, rfl⟩ ⟨Nat.zero_le _, Nat.zero_le _⟩ (fun r3 => ?_)
  refine r_if_eq (tgt := 13) cx dX6_clear_6 (by decide) ?_ ?_
  · refine r_iconst (pc := 13) cx dX6_clear_13 ?_
    exact qS.sub (qsub_cons rfl (qsub_cons rfl (qsub_nil _))) (tX6_clear_c14 cx hM _ _ _)
  · refine r_iconst (pc := 9) cx dX6_clear_9 ?_
    refine r_goto (pc := 10) (tgt := 14) cx dX6_clear_10 (by decide) ?_
    exact qS.sub (qsub_cons rfl (qsub_cons rfl (qsub_nil _))) (tX6_clear_c14 cx hM _ _ _)
def fX6_open_c40 (x1 : Int) (x2 : Int) (s0 : Int) (σ : qSt) : Option (Int × qSt) :=
  (qbd (fX6_refused s0 σ) fun (r40 : Int) (σ1 : qSt) => (if qI r40 = 0 then (if 0 ≤ x1 ∧ x1 < 96 then (qb (qset σ1 48 x1 x2) fun (σ2 : qSt) => (qb (qset σ2 47 16 0) fun (σ3 : qSt) => (some (0, σ3)))) else none) else (some (0, σ1))))
set_option maxRecDepth 100000 in
set_option maxHeartbeats 4000000 in
theorem tX6_open_c40 {p : Program} {l : Launch} {e : Env} {s : State} {m : MethodId} {args : Array Value} {below : List Frame} {meth : Method} {c : Code} {z0 : Nat} {g : qG} {w : qWd} {ad : Nat → Nat} (cx : qCx p s m meth c cX6_open 3 RX6 none g z0) (hM : qBM g ad w) (x1 : Int) (x2 : Int) (s0 : Int) (σ : qSt) : qS p l e qrm2 s m args below meth c 3 g z0 w 0 0 (qQ below g z0 w qrv args s 0 0) (fX6_open_c40 x1 x2 s0 σ) σ 40 [(0, some (.ref (ad 47))), (1, some (.int (qI x1))), (2, some (.int (qI x2)))] [.int (qI s0), .ref (ad 47)] := by
  unfold fX6_open_c40
  refine r_dVi (pc := 40) cx (tX6_refused hM s0 σ) qm_X6_refused qv_X6_refused hcl_X6 (lw47 hM) wm_X6_84 dX6_open_40 rfl rfl (Nat.le_of_ble_eq_true rfl) ⟨Nat.le_of_ble_eq_true rfl, Nat.le_of_ble_eq_true rfl⟩ ⟨rfl, rfl⟩ ⟨Nat.zero_le _, Nat.zero_le _⟩ (fun r40 σ1 => ?_)
  refine r_if_eq (tgt := 47) cx dX6_open_43 (by decide) ?_ ?_
  · refine r_aload_n (pc := 47) cx dX6_open_47 rfl ?_
    refine r_get (pc := 48) cx hcl_X6 qc_X6 (lw47 hM) (j := 1) (by decide) wf_X6_7 dX6_open_48 (x := .ref (ad 48)) rfl ?_
    refine r_iload_n (pc := 51) cx dX6_open_51 rfl ?_
    refine r_iload_n (pc := 52) cx dX6_open_52 rfl ?_
    refine r_iastore (pc := 53) cx (lw48 hM) rfl (by decide) dX6_open_53 (fun σ2 => ?_)
    refine r_aload_n (pc := 54) cx dX6_open_54 rfl ?_
    refine r_iconst (pc := 55) cx dX6_open_55 ?_
    refine r_puti (pc := 56) (J := 16) cx hcl_X6 qc_X6 (lw47 hM) (j := 16) (by decide) tyX6_ok nmX6 wf_X6_87 rfl (by decide +kernel) rfl (Nat.le_of_ble_eq_true rfl) (fun r => rfl) dX6_open_56 (fun σ3 => ?_)
    exact r_return (w0 := w) (fun _ _ h => h) (Nat.zero_le _) (Nat.zero_le _) cx dX6_open_59 rfl
  · exact r_return (w0 := w) (fun _ _ h => h) (Nat.zero_le _) (Nat.zero_le _) cx dX6_open_46 rfl
def fX6_open (p0 : Int) (p1 : Int) (σ : qSt) : Option (Int × qSt) :=
  ((fX6_isCell σ p0).bind fun (r3 : Int) => (if qI r3 = 0 then (fX6_open_c40 p0 p1 1 σ) else ((fX6_within σ p1 2 3).bind fun (r16 : Int) => (if qI r16 = 0 then (fX6_open_c40 p0 p1 2 σ) else (if 0 ≤ p0 ∧ p0 < 96 then (if qI (σ 48 p0) = 0 then (fX6_open_c40 p0 p1 0 σ) else (fX6_open_c40 p0 p1 3 σ)) else none)))))
set_option maxRecDepth 100000 in
set_option maxHeartbeats 4000000 in
theorem tX6_open {l : Launch} {z0 : Nat} {g : qG} {w : qWd} {ad : Nat → Nat} (hM : qBM g ad w) (p0 : Int) (p1 : Int) (σ : qSt) : qCT l yX6_open cX6_open 3 none qrm2 g z0 w [.ref (ad 47), .int (qI p0), .int (qI p1)] σ (fX6_open p0 p1 σ) qrv := by
  refine qCT.of [(0, some (.ref (ad 47))), (1, some (.int (qI p0))), (2, some (.int (qI p1)))] (by decide +kernel) (Nat.le_of_ble_eq_true rfl) rfl ?_
  intro p e s m args below meth c cx
  unfold fX6_open
  refine r_aload_n (pc := 0) cx dX6_open_0 rfl ?_
  refine r_aload_n (pc := 1) cx dX6_open_1 rfl ?_
  refine r_iload_n (pc := 2) cx dX6_open_2 rfl ?_
  refine r_pVi (pc := 3) cx (tX6_isCell hM p0 σ) qm_X6_isCell qv_X6_isCell hcl_X6 (lw47 hM) wm_X6_77 dX6_open_3 rfl rfl (Nat.le_of_ble_eq_true rfl) ⟨Nat.le_of_ble_eq_true rfl, Nat.le_of_ble_eq_true rfl⟩ ⟨rfl, rfl⟩ ⟨Nat.zero_le _, Nat.zero_le _⟩ (fun r3 => ?_)
  refine r_if_ne (tgt := 13) cx dX6_open_6 (by decide) ?_ ?_
  · refine r_iload_n (pc := 13) cx dX6_open_13 rfl ?_
    refine r_iconst (pc := 14) cx dX6_open_14 ?_
    refine r_iconst (pc := 15) cx dX6_open_15 ?_
    refine r_pSi (pc := 16) cx (tX6_within  p1 2 3 σ) qm_X6_within qs_X6_within wm_X6_62 dX6_open_16 rfl rfl (Nat.le_of_ble_eq_true rfl) ⟨Nat.le_of_ble_eq_true rfl, Nat.le_of_ble_eq_true rfl⟩ ⟨rfl, rfl⟩ ⟨Nat.zero_le _, Nat.zero_le _⟩ (fun r16 => ?_)
    refine r_if_ne (tgt := 26) cx dX6_open_19 (by decide) ?_ ?_
    · refine r_aload_n (pc := 26) cx dX6_open_26 rfl ?_
      refine r_get (pc := 27) cx hcl_X6 qc_X6 (lw47 hM) (j := 1) (by decide) wf_X6_7 dX6_open_27 (x := .ref (ad 48)) rfl ?_
      refine r_iload_n (pc := 30) cx dX6_open_30 rfl ?_
      refine r_iaload (pc := 31) cx (lw48 hM) rfl (by decide) dX6_open_31 ?_
      refine r_if_eq (tgt := 39) cx dX6_open_32 (by decide) ?_ ?_
      · refine r_iconst (pc := 39) cx dX6_open_39 ?_
        exact qS.sub (qsub_cons rfl (qsub_cons rfl (qsub_cons rfl (qsub_nil _)))) (tX6_open_c40 cx hM _ _ _ _)
      · refine r_iconst (pc := 35) cx dX6_open_35 ?_
        refine r_goto (pc := 36) (tgt := 40) cx dX6_open_36 (by decide) ?_
        exact qS.sub (qsub_cons rfl (qsub_cons rfl (qsub_cons rfl (qsub_nil _)))) (tX6_open_c40 cx hM _ _ _ _)
    · refine r_iconst (pc := 22) cx dX6_open_22 ?_
      refine r_goto (pc := 23) (tgt := 40) cx dX6_open_23 (by decide) ?_
      exact qS.sub (qsub_cons rfl (qsub_cons rfl (qsub_cons rfl (qsub_nil _)))) (tX6_open_c40 cx hM _ _ _ _)
  · refine r_iconst (pc := 9) cx dX6_open_9 ?_
    refine r_goto (pc := 10) (tgt := 40) cx dX6_open_10 (by decide) ?_
    exact qS.sub (qsub_cons rfl (qsub_cons rfl (qsub_cons rfl (qsub_nil _)))) (tX6_open_c40 cx hM _ _ _ _)
def fX6_particle_c61 (x1 : Int) (x2 : Int) (s0 : Int) (σ : qSt) : Option (Int × qSt) :=
  (qbd (fX6_refused s0 σ) fun (r61 : Int) (σ1 : qSt) => (if qI r61 = 0 then (if 0 ≤ x1 ∧ x1 < 96 then (if 0 ≤ x1 ∧ x1 < 96 then (qb (qset σ1 50 x1 (qor (σ1 50 x1) (qshl 1 x2))) fun (σ2 : qSt) => (qb (qset σ2 47 16 0) fun (σ3 : qSt) => (if 0 ≤ x1 ∧ x1 < 96 then (some ((σ3 50 x1), σ3)) else none))) else none) else none) else (some (0, σ1))))
set_option maxRecDepth 100000 in
set_option maxHeartbeats 4000000 in
theorem tX6_particle_c61 {p : Program} {l : Launch} {e : Env} {s : State} {m : MethodId} {args : Array Value} {below : List Frame} {meth : Method} {c : Code} {z0 : Nat} {g : qG} {w : qWd} {ad : Nat → Nat} (cx : qCx p s m meth c cX6_particle 5 RX6 (some .int) g z0) (hM : qBM g ad w) (x1 : Int) (x2 : Int) (s0 : Int) (σ : qSt) : qS p l e qrm2 s m args below meth c 5 g z0 w 0 0 (qQ below g z0 w qri args s 0 0) (fX6_particle_c61 x1 x2 s0 σ) σ 61 [(0, some (.ref (ad 47))), (1, some (.int (qI x1))), (2, some (.int (qI x2)))] [.int (qI s0), .ref (ad 47)] := by
  unfold fX6_particle_c61
  refine r_dVi (pc := 61) cx (tX6_refused hM s0 σ) qm_X6_refused qv_X6_refused hcl_X6 (lw47 hM) wm_X6_84 dX6_particle_61 rfl rfl (Nat.le_of_ble_eq_true rfl) ⟨Nat.le_of_ble_eq_true rfl, Nat.le_of_ble_eq_true rfl⟩ ⟨rfl, rfl⟩ ⟨Nat.zero_le _, Nat.zero_le _⟩ (fun r61 σ1 => ?_)
  refine r_if_eq (tgt := 69) cx dX6_particle_64 (by decide) ?_ ?_
  · refine r_aload_n (pc := 69) cx dX6_particle_69 rfl ?_
    refine r_get (pc := 70) cx hcl_X6 qc_X6 (lw47 hM) (j := 3) (by decide) wf_X6_16 dX6_particle_70 (x := .ref (ad 50)) rfl ?_
    refine r_iload_n (pc := 73) cx dX6_particle_73 rfl ?_
    refine r_dup2 (pc := 74) cx dX6_particle_74 rfl rfl ?_
    refine r_iaload (pc := 75) cx (lw50 hM) rfl (by decide) dX6_particle_75 ?_
    refine r_iconst (pc := 76) cx dX6_particle_76 ?_
    refine r_iload_n (pc := 77) cx dX6_particle_77 rfl ?_
    refine r_ishl (pc := 78) cx dX6_particle_78 ?_
    refine r_ior (pc := 79) cx dX6_particle_79 ?_
    refine r_iastore (pc := 80) cx (lw50 hM) rfl (by decide) dX6_particle_80 (fun σ2 => ?_)
    refine r_aload_n (pc := 81) cx dX6_particle_81 rfl ?_
    refine r_iconst (pc := 82) cx dX6_particle_82 ?_
    refine r_puti (pc := 83) (J := 16) cx hcl_X6 qc_X6 (lw47 hM) (j := 16) (by decide) tyX6_ok nmX6 wf_X6_87 rfl (by decide +kernel) rfl (Nat.le_of_ble_eq_true rfl) (fun r => rfl) dX6_particle_83 (fun σ3 => ?_)
    refine r_aload_n (pc := 86) cx dX6_particle_86 rfl ?_
    refine r_get (pc := 87) cx hcl_X6 qc_X6 (lw47 hM) (j := 3) (by decide) wf_X6_16 dX6_particle_87 (x := .ref (ad 50)) rfl ?_
    refine r_iload_n (pc := 90) cx dX6_particle_90 rfl ?_
    refine r_iaload (pc := 91) cx (lw50 hM) rfl (by decide) dX6_particle_91 ?_
    exact r_ireturn (w0 := w) (fun _ _ h => h) (Nat.zero_le _) (Nat.zero_le _) cx dX6_particle_92 rfl
  · refine r_iconst (pc := 67) cx dX6_particle_67 ?_
    exact r_ireturn (w0 := w) (fun _ _ h => h) (Nat.zero_le _) (Nat.zero_le _) cx dX6_particle_68 rfl
def fX6_particle_c56 (x1 : Int) (x2 : Int) (σ : qSt) : Option (Int × qSt) :=
  (fX6_particle_c61 x1 x2 3 σ)
set_option maxRecDepth 100000 in
set_option maxHeartbeats 4000000 in
theorem tX6_particle_c56 {p : Program} {l : Launch} {e : Env} {s : State} {m : MethodId} {args : Array Value} {below : List Frame} {meth : Method} {c : Code} {z0 : Nat} {g : qG} {w : qWd} {ad : Nat → Nat} (cx : qCx p s m meth c cX6_particle 5 RX6 (some .int) g z0) (hM : qBM g ad w) (x1 : Int) (x2 : Int) (σ : qSt) : qS p l e qrm2 s m args below meth c 5 g z0 w 0 0 (qQ below g z0 w qri args s 0 0) (fX6_particle_c56 x1 x2 σ) σ 56 [(0, some (.ref (ad 47))), (1, some (.int (qI x1))), (2, some (.int (qI x2)))] [.ref (ad 47)] := by
  unfold fX6_particle_c56
  refine r_iconst (pc := 56) cx dX6_particle_56 ?_
  refine r_goto (pc := 57) (tgt := 61) cx dX6_particle_57 (by decide) ?_
  exact qS.sub (qsub_cons rfl (qsub_cons rfl (qsub_cons rfl (qsub_nil _)))) (tX6_particle_c61 cx hM _ _ _ _)
def fX6_particle (p0 : Int) (p1 : Int) (σ : qSt) : Option (Int × qSt) :=
  ((fX6_isCell σ p0).bind fun (r2 : Int) => ((fX6_within σ p1 0 3).bind fun (r9 : Int) => (if qI r2 = 0 then (fX6_particle_c61 p0 p1 1 σ) else (if qI r9 = 0 then (fX6_particle_c61 p0 p1 2 σ) else (if 0 ≤ p0 ∧ p0 < 96 then (if qI (σ 48 p0) = qI 1 then (fX6_particle_c56 p0 p1 σ) else (if 0 ≤ p0 ∧ p0 < 96 then (if qI (qand (qshr (σ 50 p0) p1) 1) = qI 1 then (fX6_particle_c56 p0 p1 σ) else (fX6_particle_c61 p0 p1 0 σ)) else none)) else none)))))
set_option maxRecDepth 100000 in
set_option maxHeartbeats 4000000 in
theorem tX6_particle {l : Launch} {z0 : Nat} {g : qG} {w : qWd} {ad : Nat → Nat} (hM : qBM g ad w) (p0 : Int) (p1 : Int) (σ : qSt) : qCT l yX6_particle cX6_particle 5 (some .int) qrm2 g z0 w [.ref (ad 47), .int (qI p0), .int (qI p1)] σ (fX6_particle p0 p1 σ) qri := by
  refine qCT.of [(0, some (.ref (ad 47))), (1, some (.int (qI p0))), (2, some (.int (qI p1)))] (by decide +kernel) (Nat.le_of_ble_eq_true rfl) rfl ?_
  intro p e s m args below meth c cx
  unfold fX6_particle
  refine r_aload_n (pc := 0) cx dX6_particle_0 rfl ?_
  refine r_iload_n (pc := 1) cx dX6_particle_1 rfl ?_
  refine r_pVi (pc := 2) cx (tX6_isCell hM p0 σ) qm_X6_isCell qv_X6_isCell hcl_X6 (lw47 hM) wm_X6_77 dX6_particle_2 rfl rfl (Nat.le_of_ble_eq_true rfl) ⟨Nat.le_of_ble_eq_true rfl, Nat.le_of_ble_eq_true rfl⟩ ⟨rfl, rfl⟩ ⟨Nat.zero_le _, Nat.zero_le _⟩ (fun r2 => ?_)
  refine r_istore_n (pc := 5) cx dX6_particle_5 (by decide) rfl ?_
  refine r_iload_n (pc := 6) cx dX6_particle_6 rfl ?_
  refine r_iconst (pc := 7) cx dX6_particle_7 ?_
  refine r_iconst (pc := 8) cx dX6_particle_8 ?_
  refine r_pSi (pc := 9) cx (tX6_within  p1 0 3 σ) qm_X6_within qs_X6_within wm_X6_62 dX6_particle_9 rfl rfl (Nat.le_of_ble_eq_true rfl) ⟨Nat.le_of_ble_eq_true rfl, Nat.le_of_ble_eq_true rfl⟩ ⟨rfl, rfl⟩ ⟨Nat.zero_le _, Nat.zero_le _⟩ (fun r9 => ?_)
  refine r_istore (pc := 12) cx dX6_particle_12 (by decide) rfl ?_
  refine r_aload_n (pc := 14) cx dX6_particle_14 rfl ?_
  refine r_iload_n (pc := 15) cx dX6_particle_15 rfl ?_
  refine r_if_ne (tgt := 23) cx dX6_particle_16 (by decide) ?_ ?_
  · refine r_iload (pc := 23) cx dX6_particle_23 rfl ?_
    refine r_if_ne (tgt := 32) cx dX6_particle_25 (by decide) ?_ ?_
    · refine r_aload_n (pc := 32) cx dX6_particle_32 rfl ?_
      refine r_get (pc := 33) cx hcl_X6 qc_X6 (lw47 hM) (j := 1) (by decide) wf_X6_7 dX6_particle_33 (x := .ref (ad 48)) rfl ?_
      refine r_iload_n (pc := 36) cx dX6_particle_36 rfl ?_
      refine r_iaload (pc := 37) cx (lw48 hM) rfl (by decide) dX6_particle_37 ?_
      refine r_iconst (pc := 38) cx dX6_particle_38 ?_
      refine r_icmp_eq (tgt := 56) cx dX6_particle_39 (by decide) ?_ ?_
      · exact qS.sub (qsub_cons rfl (qsub_cons rfl (qsub_cons rfl (qsub_nil _)))) (tX6_particle_c56 cx hM _ _ _)
      · refine r_aload_n (pc := 42) cx dX6_particle_42 rfl ?_
        refine r_get (pc := 43) cx hcl_X6 qc_X6 (lw47 hM) (j := 3) (by decide) wf_X6_16 dX6_particle_43 (x := .ref (ad 50)) rfl ?_
        refine r_iload_n (pc := 46) cx dX6_particle_46 rfl ?_
        refine r_iaload (pc := 47) cx (lw50 hM) rfl (by decide) dX6_particle_47 ?_
        refine r_iload_n (pc := 48) cx dX6_particle_48 rfl ?_
        refine r_ishr (pc := 49) cx dX6_particle_49 ?_
        refine r_iconst (pc := 50) cx dX6_particle_50 ?_
        refine r_iand (pc := 51) cx dX6_particle_51 ?_
        refine r_iconst (pc := 52) cx dX6_particle_52 ?_
        refine r_icmp_ne (tgt := 60) cx dX6_particle_53 (by decide) ?_ ?_
        · refine r_iconst (pc := 60) cx dX6_particle_60 ?_
          exact qS.sub (qsub_cons rfl (qsub_cons rfl (qsub_cons rfl (qsub_nil _)))) (tX6_particle_c61 cx hM _ _ _ _)
        · exact qS.sub (qsub_cons rfl (qsub_cons rfl (qsub_cons rfl (qsub_nil _)))) (tX6_particle_c56 cx hM _ _ _)
    · refine r_iconst (pc := 28) cx dX6_particle_28 ?_
      refine r_goto (pc := 29) (tgt := 61) cx dX6_particle_29 (by decide) ?_
      exact qS.sub (qsub_cons rfl (qsub_cons rfl (qsub_cons rfl (qsub_nil _)))) (tX6_particle_c61 cx hM _ _ _ _)
  · refine r_iconst (pc := 19) cx dX6_particle_19 ?_
    refine r_goto (pc := 20) (tgt := 61) cx dX6_particle_20 (by decide) ?_
    exact qS.sub (qsub_cons rfl (qsub_cons rfl (qsub_cons rfl (qsub_nil _)))) (tX6_particle_c61 cx hM _ _ _ _)
def fX6_ink_c14 (x1 : Int) (s0 : Int) (σ : qSt) : Option (Int × qSt) :=
  (qbd (fX6_refused s0 σ) fun (r14 : Int) (σ1 : qSt) => (if qI r14 = 0 then (if 0 ≤ x1 ∧ x1 < 96 then ((fX6_many σ1 (σ1 50 x1)).bind fun (r28 : Int) => (if 0 ≤ x1 ∧ x1 < 96 then ((fX6_many σ1 (σ1 51 x1)).bind fun (r37 : Int) => (qb (r28 - r37) fun (y2 : Int) => (if 0 ≤ x1 ∧ x1 < 96 then (if 0 ≤ x1 ∧ x1 < 96 then (qb (qset σ1 51 x1 (σ1 50 x1)) fun (σ3 : qSt) => (qb (qset σ3 47 16 0) fun (σ4 : qSt) => (some (y2, σ4)))) else none) else none))) else none)) else none) else (some (0, σ1))))
set_option maxRecDepth 100000 in
set_option maxHeartbeats 4000000 in
theorem tX6_ink_c14 {p : Program} {l : Launch} {e : Env} {s : State} {m : MethodId} {args : Array Value} {below : List Frame} {meth : Method} {c : Code} {z0 : Nat} {g : qG} {w : qWd} {ad : Nat → Nat} (cx : qCx p s m meth c cX6_ink 3 RX6 (some .int) g z0) (hM : qBM g ad w) (x1 : Int) (s0 : Int) (σ : qSt) : qS p l e qrm2 s m args below meth c 3 g z0 w 0 0 (qQ below g z0 w qri args s 0 0) (fX6_ink_c14 x1 s0 σ) σ 14 [(0, some (.ref (ad 47))), (1, some (.int (qI x1)))] [.int (qI s0), .ref (ad 47)] := by
  unfold fX6_ink_c14
  refine r_dVi (pc := 14) cx (tX6_refused hM s0 σ) qm_X6_refused qv_X6_refused hcl_X6 (lw47 hM) wm_X6_84 dX6_ink_14 rfl rfl (Nat.le_of_ble_eq_true rfl) ⟨Nat.le_of_ble_eq_true rfl, Nat.le_of_ble_eq_true rfl⟩ ⟨rfl, rfl⟩ ⟨Nat.zero_le _, Nat.zero_le _⟩ (fun r14 σ1 => ?_)
  refine r_if_eq (tgt := 22) cx dX6_ink_17 (by decide) ?_ ?_
  · refine r_aload_n (pc := 22) cx dX6_ink_22 rfl ?_
    refine r_get (pc := 23) cx hcl_X6 qc_X6 (lw47 hM) (j := 3) (by decide) wf_X6_16 dX6_ink_23 (x := .ref (ad 50)) rfl ?_
    refine r_iload_n (pc := 26) cx dX6_ink_26 rfl ?_
    refine r_iaload (pc := 27) cx (lw50 hM) rfl (by decide) dX6_ink_27 ?_
    refine r_pSi (pc := 28) cx (tX6_many  (σ1 50 x1) σ1) qm_X6_many qs_X6_many wm_X6_90 dX6_ink_28 rfl rfl (Nat.le_of_ble_eq_true rfl) ⟨Nat.le_of_ble_eq_true rfl, Nat.le_of_ble_eq_true rfl⟩ ⟨rfl, rfl⟩ ⟨Nat.zero_le _, Nat.zero_le _⟩ (fun r28 => ?_)
    refine r_aload_n (pc := 31) cx dX6_ink_31 rfl ?_
    refine r_get (pc := 32) cx hcl_X6 qc_X6 (lw47 hM) (j := 4) (by decide) wf_X6_19 dX6_ink_32 (x := .ref (ad 51)) rfl ?_
    refine r_iload_n (pc := 35) cx dX6_ink_35 rfl ?_
    refine r_iaload (pc := 36) cx (lw51 hM) rfl (by decide) dX6_ink_36 ?_
    refine r_pSi (pc := 37) cx (tX6_many  (σ1 51 x1) σ1) qm_X6_many qs_X6_many wm_X6_90 dX6_ink_37 rfl rfl (Nat.le_of_ble_eq_true rfl) ⟨Nat.le_of_ble_eq_true rfl, Nat.le_of_ble_eq_true rfl⟩ ⟨rfl, rfl⟩ ⟨Nat.zero_le _, Nat.zero_le _⟩ (fun r37 => ?_)
    refine r_isub (pc := 40) cx dX6_ink_40 ?_
    refine r_nmi (fun y2 => ?_)
    refine r_istore_n (pc := 41) cx dX6_ink_41 (by decide) rfl ?_
    refine r_aload_n (pc := 42) cx dX6_ink_42 rfl ?_
    refine r_get (pc := 43) cx hcl_X6 qc_X6 (lw47 hM) (j := 4) (by decide) wf_X6_19 dX6_ink_43 (x := .ref (ad 51)) rfl ?_
    refine r_iload_n (pc := 46) cx dX6_ink_46 rfl ?_
    refine r_aload_n (pc := 47) cx dX6_ink_47 rfl ?_
    refine r_get (pc := 48) cx hcl_X6 qc_X6 (lw47 hM) (j := 3) (by decide) wf_X6_16 dX6_ink_48 (x := .ref (ad 50)) rfl ?_
    refine r_iload_n (pc := 51) cx dX6_ink_51 rfl ?_
    refine r_iaload (pc := 52) cx (lw50 hM) rfl (by decide) dX6_ink_52 ?_
    refine r_iastore (pc := 53) cx (lw51 hM) rfl (by decide) dX6_ink_53 (fun σ3 => ?_)
    refine r_aload_n (pc := 54) cx dX6_ink_54 rfl ?_
    refine r_iconst (pc := 55) cx dX6_ink_55 ?_
    refine r_puti (pc := 56) (J := 16) cx hcl_X6 qc_X6 (lw47 hM) (j := 16) (by decide) tyX6_ok nmX6 wf_X6_87 rfl (by decide +kernel) rfl (Nat.le_of_ble_eq_true rfl) (fun r => rfl) dX6_ink_56 (fun σ4 => ?_)
    refine r_iload_n (pc := 59) cx dX6_ink_59 rfl ?_
    exact r_ireturn (w0 := w) (fun _ _ h => h) (Nat.zero_le _) (Nat.zero_le _) cx dX6_ink_60 rfl
  · refine r_iconst (pc := 20) cx dX6_ink_20 ?_
    exact r_ireturn (w0 := w) (fun _ _ h => h) (Nat.zero_le _) (Nat.zero_le _) cx dX6_ink_21 rfl
def fX6_ink (p0 : Int) (σ : qSt) : Option (Int × qSt) :=
  ((fX6_isCell σ p0).bind fun (r3 : Int) => (if qI r3 = 0 then (fX6_ink_c14 p0 1 σ) else (fX6_ink_c14 p0 0 σ)))
set_option maxRecDepth 100000 in
set_option maxHeartbeats 4000000 in
theorem tX6_ink {l : Launch} {z0 : Nat} {g : qG} {w : qWd} {ad : Nat → Nat} (hM : qBM g ad w) (p0 : Int) (σ : qSt) : qCT l yX6_ink cX6_ink 3 (some .int) qrm2 g z0 w [.ref (ad 47), .int (qI p0)] σ (fX6_ink p0 σ) qri := by
  refine qCT.of [(0, some (.ref (ad 47))), (1, some (.int (qI p0)))] (by decide +kernel) (Nat.le_of_ble_eq_true rfl) rfl ?_
  intro p e s m args below meth c cx
  unfold fX6_ink
  refine r_aload_n (pc := 0) cx dX6_ink_0 rfl ?_
  refine r_aload_n (pc := 1) cx dX6_ink_1 rfl ?_
  refine r_iload_n (pc := 2) cx dX6_ink_2 rfl ?_
  refine r_pVi (pc := 3) cx (tX6_isCell hM p0 σ) qm_X6_isCell qv_X6_isCell hcl_X6 (lw47 hM) wm_X6_77 dX6_ink_3 rfl rfl (Nat.le_of_ble_eq_true rfl) ⟨Nat.le_of_ble_eq_true rfl, Nat.le_of_ble_eq_true rfl⟩ ⟨rfl, rfl⟩ ⟨Nat.zero_le _, Nat.zero_le _⟩ (fun r3 => ?_)
  refine r_if_eq (tgt := 13) cx dX6_ink_6 (by decide) ?_ ?_
  · refine r_iconst (pc := 13) cx dX6_ink_13 ?_
    exact qS.sub (qsub_cons rfl (qsub_cons rfl (qsub_nil _))) (tX6_ink_c14 cx hM _ _ _)
  · refine r_iconst (pc := 9) cx dX6_ink_9 ?_
    refine r_goto (pc := 10) (tgt := 14) cx dX6_ink_10 (by decide) ?_
    exact qS.sub (qsub_cons rfl (qsub_cons rfl (qsub_nil _))) (tX6_ink_c14 cx hM _ _ _)
def fX6_probe_c36 (x1 : Int) (s0 : Int) (σ : qSt) : Option (Int × qSt) :=
  (qbd (fX6_refused s0 σ) fun (r36 : Int) (σ1 : qSt) => (if qI r36 = 0 then (if 0 ≤ (σ1 47 19) ∧ (σ1 47 19) < 4 then (qb (qset σ1 61 (σ1 47 19) x1) fun (σ2 : qSt) => (qb (qset σ2 47 19 ((σ2 47 19) + 1)) fun (σ3 : qSt) => (qb (qset σ3 47 16 0) fun (σ4 : qSt) => (some (((σ4 47 19) - 1), σ4))))) else none) else (some (0, σ1))))
set_option maxRecDepth 100000 in
set_option maxHeartbeats 4000000 in
theorem tX6_probe_c36 {p : Program} {l : Launch} {e : Env} {s : State} {m : MethodId} {args : Array Value} {below : List Frame} {meth : Method} {c : Code} {z0 : Nat} {g : qG} {w : qWd} {ad : Nat → Nat} (cx : qCx p s m meth c cX6_probe 2 RX6 (some .int) g z0) (hM : qBM g ad w) (x1 : Int) (s0 : Int) (σ : qSt) : qS p l e qrm2 s m args below meth c 2 g z0 w 0 0 (qQ below g z0 w qri args s 0 0) (fX6_probe_c36 x1 s0 σ) σ 36 [(0, some (.ref (ad 47))), (1, some (.int (qI x1)))] [.int (qI s0), .ref (ad 47)] := by
  unfold fX6_probe_c36
  refine r_dVi (pc := 36) cx (tX6_refused hM s0 σ) qm_X6_refused qv_X6_refused hcl_X6 (lw47 hM) wm_X6_84 dX6_probe_36 rfl rfl (Nat.le_of_ble_eq_true rfl) ⟨Nat.le_of_ble_eq_true rfl, Nat.le_of_ble_eq_true rfl⟩ ⟨rfl, rfl⟩ ⟨Nat.zero_le _, Nat.zero_le _⟩ (fun r36 σ1 => ?_)
  refine r_if_eq (tgt := 44) cx dX6_probe_39 (by decide) ?_ ?_
  · refine r_aload_n (pc := 44) cx dX6_probe_44 rfl ?_
    refine r_get (pc := 45) cx hcl_X6 qc_X6 (lw47 hM) (j := 20) (by decide) wf_X6_49 dX6_probe_45 (x := .ref (ad 61)) rfl ?_
    refine r_aload_n (pc := 48) cx dX6_probe_48 rfl ?_
    refine r_get (pc := 49) cx hcl_X6 qc_X6 (lw47 hM) (j := 19) (by decide) wf_X6_66 dX6_probe_49 (x := .int (qI (σ1 47 19))) rfl ?_
    refine r_iload_n (pc := 52) cx dX6_probe_52 rfl ?_
    refine r_iastore (pc := 53) cx (lw61 hM) rfl (by decide) dX6_probe_53 (fun σ2 => ?_)
    refine r_aload_n (pc := 54) cx dX6_probe_54 rfl ?_
    refine r_dup (pc := 55) cx dX6_probe_55 rfl ?_
    refine r_get (pc := 56) cx hcl_X6 qc_X6 (lw47 hM) (j := 19) (by decide) wf_X6_66 dX6_probe_56 (x := .int (qI (σ2 47 19))) rfl ?_
    refine r_iconst (pc := 59) cx dX6_probe_59 ?_
    refine r_iadd (pc := 60) cx dX6_probe_60 ?_
    refine r_puti (pc := 61) (J := 19) cx hcl_X6 qc_X6 (lw47 hM) (j := 19) (by decide) tyX6_ok nmX6 wf_X6_66 rfl (by decide +kernel) rfl (Nat.le_of_ble_eq_true rfl) (fun r => rfl) dX6_probe_61 (fun σ3 => ?_)
    refine r_aload_n (pc := 64) cx dX6_probe_64 rfl ?_
    refine r_iconst (pc := 65) cx dX6_probe_65 ?_
    refine r_puti (pc := 66) (J := 16) cx hcl_X6 qc_X6 (lw47 hM) (j := 16) (by decide) tyX6_ok nmX6 wf_X6_87 rfl (by decide +kernel) rfl (Nat.le_of_ble_eq_true rfl) (fun r => rfl) dX6_probe_66 (fun σ4 => ?_)
    refine r_aload_n (pc := 69) cx dX6_probe_69 rfl ?_
    refine r_get (pc := 70) cx hcl_X6 qc_X6 (lw47 hM) (j := 19) (by decide) wf_X6_66 dX6_probe_70 (x := .int (qI (σ4 47 19))) rfl ?_
    refine r_iconst (pc := 73) cx dX6_probe_73 ?_
    refine r_isub (pc := 74) cx dX6_probe_74 ?_
    exact r_ireturn (w0 := w) (fun _ _ h => h) (Nat.zero_le _) (Nat.zero_le _) cx dX6_probe_75 rfl
  · refine r_iconst (pc := 42) cx dX6_probe_42 ?_
    exact r_ireturn (w0 := w) (fun _ _ h => h) (Nat.zero_le _) (Nat.zero_le _) cx dX6_probe_43 rfl
def fX6_probe_c31 (x1 : Int) (σ : qSt) : Option (Int × qSt) :=
  (fX6_probe_c36 x1 2 σ)
set_option maxRecDepth 100000 in
set_option maxHeartbeats 4000000 in
theorem tX6_probe_c31 {p : Program} {l : Launch} {e : Env} {s : State} {m : MethodId} {args : Array Value} {below : List Frame} {meth : Method} {c : Code} {z0 : Nat} {g : qG} {w : qWd} {ad : Nat → Nat} (cx : qCx p s m meth c cX6_probe 2 RX6 (some .int) g z0) (hM : qBM g ad w) (x1 : Int) (σ : qSt) : qS p l e qrm2 s m args below meth c 2 g z0 w 0 0 (qQ below g z0 w qri args s 0 0) (fX6_probe_c31 x1 σ) σ 31 [(0, some (.ref (ad 47))), (1, some (.int (qI x1)))] [.ref (ad 47)] := by
  unfold fX6_probe_c31
  refine r_iconst (pc := 31) cx dX6_probe_31 ?_
  refine r_goto (pc := 32) (tgt := 36) cx dX6_probe_32 (by decide) ?_
  exact qS.sub (qsub_cons rfl (qsub_cons rfl (qsub_nil _))) (tX6_probe_c36 cx hM _ _ _)
def fX6_probe (p0 : Int) (σ : qSt) : Option (Int × qSt) :=
  ((fX6_isCell σ p0).bind fun (r3 : Int) => (if qI r3 = 0 then (fX6_probe_c36 p0 1 σ) else (if 0 ≤ p0 ∧ p0 < 96 then (if qI (σ 48 p0) = qI 1 then (fX6_probe_c31 p0 σ) else (if qI (σ 47 19) = qI 4 then (fX6_probe_c31 p0 σ) else (fX6_probe_c36 p0 0 σ))) else none)))
set_option maxRecDepth 100000 in
set_option maxHeartbeats 4000000 in
theorem tX6_probe {l : Launch} {z0 : Nat} {g : qG} {w : qWd} {ad : Nat → Nat} (hM : qBM g ad w) (p0 : Int) (σ : qSt) : qCT l yX6_probe cX6_probe 2 (some .int) qrm2 g z0 w [.ref (ad 47), .int (qI p0)] σ (fX6_probe p0 σ) qri := by
  refine qCT.of [(0, some (.ref (ad 47))), (1, some (.int (qI p0)))] (by decide +kernel) (Nat.le_of_ble_eq_true rfl) rfl ?_
  intro p e s m args below meth c cx
  unfold fX6_probe
  refine r_aload_n (pc := 0) cx dX6_probe_0 rfl ?_
  refine r_aload_n (pc := 1) cx dX6_probe_1 rfl ?_
  refine r_iload_n (pc := 2) cx dX6_probe_2 rfl ?_
  refine r_pVi (pc := 3) cx (tX6_isCell hM p0 σ) qm_X6_isCell qv_X6_isCell hcl_X6 (lw47 hM) wm_X6_77 dX6_probe_3 rfl rfl (Nat.le_of_ble_eq_true rfl) ⟨Nat.le_of_ble_eq_true rfl, Nat.le_of_ble_eq_true rfl⟩ ⟨rfl, rfl⟩ ⟨Nat.zero_le _, Nat.zero_le _⟩ (fun r3 => ?_)
  refine r_if_ne (tgt := 13) cx dX6_probe_6 (by decide) ?_ ?_
  · refine r_aload_n (pc := 13) cx dX6_probe_13 rfl ?_
    refine r_get (pc := 14) cx hcl_X6 qc_X6 (lw47 hM) (j := 1) (by decide) wf_X6_7 dX6_probe_14 (x := .ref (ad 48)) rfl ?_
    refine r_iload_n (pc := 17) cx dX6_probe_17 rfl ?_
    refine r_iaload (pc := 18) cx (lw48 hM) rfl (by decide) dX6_probe_18 ?_
    refine r_iconst (pc := 19) cx dX6_probe_19 ?_
    refine r_icmp_eq (tgt := 31) cx dX6_probe_20 (by decide) ?_ ?_
    · exact qS.sub (qsub_cons rfl (qsub_cons rfl (qsub_nil _))) (tX6_probe_c31 cx hM _ _)
    · refine r_aload_n (pc := 23) cx dX6_probe_23 rfl ?_
      refine r_get (pc := 24) cx hcl_X6 qc_X6 (lw47 hM) (j := 19) (by decide) wf_X6_66 dX6_probe_24 (x := .int (qI (σ 47 19))) rfl ?_
      refine r_iconst (pc := 27) cx dX6_probe_27 ?_
      refine r_icmp_ne (tgt := 35) cx dX6_probe_28 (by decide) ?_ ?_
      · refine r_iconst (pc := 35) cx dX6_probe_35 ?_
        exact qS.sub (qsub_cons rfl (qsub_cons rfl (qsub_nil _))) (tX6_probe_c36 cx hM _ _ _)
      · exact qS.sub (qsub_cons rfl (qsub_cons rfl (qsub_nil _))) (tX6_probe_c31 cx hM _ _)
  · refine r_iconst (pc := 9) cx dX6_probe_9 ?_
    refine r_goto (pc := 10) (tgt := 36) cx dX6_probe_10 (by decide) ?_
    exact qS.sub (qsub_cons rfl (qsub_cons rfl (qsub_nil _))) (tX6_probe_c36 cx hM _ _ _)
def fX6_fault_c29 (x1 : Int) (x2 : Int) (s0 : Int) (σ : qSt) : Option (Int × qSt) :=
  (qbd (fX6_refused s0 σ) fun (r29 : Int) (σ1 : qSt) => (if qI r29 = 0 then (if 0 ≤ x1 ∧ x1 < 4 then (qb (σ1 59 x1) fun (y2 : Int) => (if 0 ≤ x1 ∧ x1 < 4 then (qb (qset σ1 59 x1 x2) fun (σ3 : qSt) => (some (y2, σ3))) else none)) else none) else (some (0, σ1))))
set_option maxRecDepth 100000 in
set_option maxHeartbeats 4000000 in
theorem tX6_fault_c29 {p : Program} {l : Launch} {e : Env} {s : State} {m : MethodId} {args : Array Value} {below : List Frame} {meth : Method} {c : Code} {z0 : Nat} {g : qG} {w : qWd} {ad : Nat → Nat} (cx : qCx p s m meth c cX6_fault 4 RX6 (some .int) g z0) (hM : qBM g ad w) (x1 : Int) (x2 : Int) (s0 : Int) (σ : qSt) : qS p l e qrm1 s m args below meth c 4 g z0 w 0 0 (qQ below g z0 w qri args s 0 0) (fX6_fault_c29 x1 x2 s0 σ) σ 29 [(0, some (.ref (ad 47))), (1, some (.int (qI x1))), (2, some (.int (qI x2)))] [.int (qI s0), .ref (ad 47)] := by
  unfold fX6_fault_c29
  refine r_dVi (pc := 29) cx (tX6_refused hM s0 σ) qm_X6_refused qv_X6_refused hcl_X6 (lw47 hM) wm_X6_84 dX6_fault_29 rfl rfl (Nat.le_of_ble_eq_true rfl) ⟨Nat.le_of_ble_eq_true rfl, Nat.le_of_ble_eq_true rfl⟩ ⟨rfl, rfl⟩ ⟨Nat.zero_le _, Nat.zero_le _⟩ (fun r29 σ1 => ?_)
  refine r_if_eq (tgt := 37) cx dX6_fault_32 (by decide) ?_ ?_
  · refine r_aload_n (pc := 37) cx dX6_fault_37 rfl ?_
    refine r_get (pc := 38) cx hcl_X6 qc_X6 (lw47 hM) (j := 12) (by decide) wf_X6_43 dX6_fault_38 (x := .ref (ad 59)) rfl ?_
    refine r_iload_n (pc := 41) cx dX6_fault_41 rfl ?_
    refine r_iaload (pc := 42) cx (lw59 hM) rfl (by decide) dX6_fault_42 ?_
    refine r_nmi (fun y2 => ?_)
    refine r_istore_n (pc := 43) cx dX6_fault_43 (by decide) rfl ?_
    refine r_aload_n (pc := 44) cx dX6_fault_44 rfl ?_
    refine r_get (pc := 45) cx hcl_X6 qc_X6 (lw47 hM) (j := 12) (by decide) wf_X6_43 dX6_fault_45 (x := .ref (ad 59)) rfl ?_
    refine r_iload_n (pc := 48) cx dX6_fault_48 rfl ?_
    refine r_iload_n (pc := 49) cx dX6_fault_49 rfl ?_
    refine r_iastore (pc := 50) cx (lw59 hM) rfl (by decide) dX6_fault_50 (fun σ3 => ?_)
    refine r_iload_n (pc := 51) cx dX6_fault_51 rfl ?_
    exact r_ireturn (w0 := w) (fun _ _ h => h) (Nat.zero_le _) (Nat.zero_le _) cx dX6_fault_52 rfl
  · refine r_iconst (pc := 35) cx dX6_fault_35 ?_
    exact r_ireturn (w0 := w) (fun _ _ h => h) (Nat.zero_le _) (Nat.zero_le _) cx dX6_fault_36 rfl
def fX6_fault (p0 : Int) (p1 : Int) (σ : qSt) : Option (Int × qSt) :=
  ((fX6_within σ p0 0 3).bind fun (r4 : Int) => (if qI r4 = 0 then (fX6_fault_c29 p0 p1 1 σ) else ((fX6_within σ p1 (-5) 5).bind fun (r18 : Int) => (if qI r18 = 0 then (fX6_fault_c29 p0 p1 2 σ) else (fX6_fault_c29 p0 p1 0 σ)))))
set_option maxRecDepth 100000 in
set_option maxHeartbeats 4000000 in
theorem tX6_fault {l : Launch} {z0 : Nat} {g : qG} {w : qWd} {ad : Nat → Nat} (hM : qBM g ad w) (p0 : Int) (p1 : Int) (σ : qSt) : qCT l yX6_fault cX6_fault 4 (some .int) qrm1 g z0 w [.ref (ad 47), .int (qI p0), .int (qI p1)] σ (fX6_fault p0 p1 σ) qri := by
  refine qCT.of [(0, some (.ref (ad 47))), (1, some (.int (qI p0))), (2, some (.int (qI p1)))] (by decide +kernel) (Nat.le_of_ble_eq_true rfl) rfl ?_
  intro p e s m args below meth c cx
  unfold fX6_fault
  refine r_aload_n (pc := 0) cx dX6_fault_0 rfl ?_
  refine r_iload_n (pc := 1) cx dX6_fault_1 rfl ?_
  refine r_iconst (pc := 2) cx dX6_fault_2 ?_
  refine r_iconst (pc := 3) cx dX6_fault_3 ?_
  refine r_pSi (pc := 4) cx (tX6_within  p0 0 3 σ) qm_X6_within qs_X6_within wm_X6_62 dX6_fault_4 rfl rfl (Nat.le_of_ble_eq_true rfl) ⟨Nat.le_of_ble_eq_true rfl, Nat.le_of_ble_eq_true rfl⟩ ⟨rfl, rfl⟩ ⟨Nat.zero_le _, Nat.zero_le _⟩ (fun r4 => ?_)
  refine r_if_ne (tgt := 14) cx dX6_fault_7 (by decide) ?_ ?_
  · refine r_iload_n (pc := 14) cx dX6_fault_14 rfl ?_
    refine r_bipush (pc := 15) (v := (-5)) cx dX6_fault_15 (by decide +kernel) ?_
    refine r_iconst (pc := 17) cx dX6_fault_17 ?_
    refine r_pSi (pc := 18) cx (tX6_within  p1 (-5) 5 σ) qm_X6_within qs_X6_within wm_X6_62 dX6_fault_18 rfl rfl (Nat.le_of_ble_eq_true rfl) ⟨Nat.le_of_ble_eq_true rfl, Nat.le_of_ble_eq_true rfl⟩ ⟨rfl, rfl⟩ ⟨Nat.zero_le _, Nat.zero_le _⟩ (fun r18 => ?_)
    refine r_if_ne (tgt := 28) cx dX6_fault_21 (by decide) ?_ ?_
    · refine r_iconst (pc := 28) cx dX6_fault_28 ?_
      exact qS.sub (qsub_cons rfl (qsub_cons rfl (qsub_cons rfl (qsub_nil _)))) (tX6_fault_c29 cx hM _ _ _ _)
    · refine r_iconst (pc := 24) cx dX6_fault_24 ?_
      refine r_goto (pc := 25) (tgt := 29) cx dX6_fault_25 (by decide) ?_
      exact qS.sub (qsub_cons rfl (qsub_cons rfl (qsub_cons rfl (qsub_nil _)))) (tX6_fault_c29 cx hM _ _ _ _)
  · refine r_iconst (pc := 10) cx dX6_fault_10 ?_
    refine r_goto (pc := 11) (tgt := 29) cx dX6_fault_11 (by decide) ?_
    exact qS.sub (qsub_cons rfl (qsub_cons rfl (qsub_cons rfl (qsub_nil _)))) (tX6_fault_c29 cx hM _ _ _ _)
def fX6_allCounts_c4 (σ : qSt) : Nat → Int → Int → Option Int
  | 0, _, _ => none
  | f + 1, x1, x3 => (if qI 384 ≤ qI x3 then (some x1) else (if 0 ≤ x3 ∧ x3 < 384 then (qb (x1 + (qi2l (σ 56 x3))) fun (y1 : Int) => (fX6_allCounts_c4 σ f y1 (x3 + 1))) else none))
set_option maxRecDepth 100000 in
set_option maxHeartbeats 4000000 in
theorem tX6_allCounts_c4 {p : Program} {l : Launch} {e : Env} {s : State} {m : MethodId} {args : Array Value} {below : List Frame} {meth : Method} {c : Code} {z0 : Nat} {g : qG} {w : qWd} {ad : Nat → Nat} {σ : qSt} (cx : qCx p s m meth c cX6_allCounts 4 RX6 (some .long) g z0) (hM : qBM g ad w) : ∀ (f : Nat) (x1 : Int) (x3 : Int), qS p l e qrm0 s m args below meth c 4 g z0 w 0 0 (fun r => qQ below g z0 w qrj args s 0 0 (r, σ)) (fX6_allCounts_c4 σ f x1 x3) σ 4 [(0, some (.ref (ad 47))), (1, some (.long (qJ x1))), (3, some (.int (qI x3)))] [] := by
  intro f
  induction f with
  | zero => exact fun _ _ => qS.fail
  | succ f ih =>
    intro x1 x3
    unfold fX6_allCounts_c4
    refine r_iload_n (pc := 4) cx dX6_allCounts_4 rfl ?_
    refine r_sipush (pc := 5) (v := 384) cx dX6_allCounts_5 (by decide +kernel) ?_
    refine r_icmp_ge (tgt := 27) cx dX6_allCounts_8 (by decide) ?_ ?_
    · refine r_lload_n (pc := 27) cx dX6_allCounts_27 rfl ?_
      exact r_lreturn (w0 := w) (fun _ _ h => h) (Nat.zero_le _) (Nat.zero_le _) cx dX6_allCounts_28 rfl
    · refine r_lload_n (pc := 11) cx dX6_allCounts_11 rfl ?_
      refine r_aload_n (pc := 12) cx dX6_allCounts_12 rfl ?_
      refine r_get (pc := 13) cx hcl_X6 qc_X6 (lw47 hM) (j := 9) (by decide) wf_X6_34 dX6_allCounts_13 (x := .ref (ad 56)) rfl ?_
      refine r_iload_n (pc := 16) cx dX6_allCounts_16 rfl ?_
      refine r_iaload (pc := 17) cx (lw56 hM) rfl (by decide) dX6_allCounts_17 ?_
      refine r_i2l (pc := 18) cx dX6_allCounts_18 ?_
      refine r_ladd (pc := 19) cx dX6_allCounts_19 ?_
      refine r_nml (fun y1 => ?_)
      refine r_lstore_n (pc := 20) cx dX6_allCounts_20 (by decide) rfl ?_
      refine r_iinc (pc := 21) cx dX6_allCounts_21 rfl (by decide) rfl ?_
      refine r_goto (pc := 24) (tgt := 4) cx dX6_allCounts_24 (by decide) ?_
      exact qS.sub (qsub_cons rfl (qsub_cons rfl (qsub_cons rfl (qsub_nil _)))) (ih _ _)
def fX6_allCounts (σ : qSt) : Option Int :=
  (fX6_allCounts_c4 σ qFU 0 0)
set_option maxRecDepth 100000 in
set_option maxHeartbeats 4000000 in
theorem tX6_allCounts {l : Launch} {z0 : Nat} {g : qG} {w : qWd} {ad : Nat → Nat} (hM : qBM g ad w) (σ : qSt) : qCT l yX6_allCounts cX6_allCounts 4 (some .long) qrm0 g z0 w [.ref (ad 47)] σ (qlift (fX6_allCounts σ) σ) qrj := by
  refine qCTp.of [(0, some (.ref (ad 47)))] (by decide +kernel) (Nat.le_of_ble_eq_true rfl) rfl ?_
  intro p e s m args below meth c cx
  unfold fX6_allCounts
  refine r_lconst (pc := 0) (z := 0) cx dX6_allCounts_0 (by decide +kernel) ?_
  refine r_lstore_n (pc := 1) cx dX6_allCounts_1 (by decide) rfl ?_
  refine r_iconst (pc := 2) cx dX6_allCounts_2 ?_
  refine r_istore_n (pc := 3) cx dX6_allCounts_3 (by decide) rfl ?_
  exact qS.sub (qsub_cons rfl (qsub_cons rfl (qsub_cons rfl (qsub_nil _)))) (tX6_allCounts_c4 cx hM _ _ _)
def fX6_bring_c81 (x1 : Int) (x2 : Int) (x3 : Int) (s0 : Int) (σ : qSt) : Option (Int × qSt) :=
  (qbd (fX6_refused s0 σ) fun (r81 : Int) (σ1 : qSt) => (if qI r81 = 0 then (if 0 ≤ ((4 * x1) + x2) ∧ ((4 * x1) + x2) < 384 then (if 0 ≤ ((4 * x1) + x2) ∧ ((4 * x1) + x2) < 384 then (qb (qset σ1 56 ((4 * x1) + x2) ((σ1 56 ((4 * x1) + x2)) + x3)) fun (σ2 : qSt) => (if 0 ≤ ((4 * x1) + x2) ∧ ((4 * x1) + x2) < 384 then (some ((σ2 56 ((4 * x1) + x2)), σ2)) else none)) else none) else none) else (some (0, σ1))))
set_option maxRecDepth 100000 in
set_option maxHeartbeats 4000000 in
theorem tX6_bring_c81 {p : Program} {l : Launch} {e : Env} {s : State} {m : MethodId} {args : Array Value} {below : List Frame} {meth : Method} {c : Code} {z0 : Nat} {g : qG} {w : qWd} {ad : Nat → Nat} (cx : qCx p s m meth c cX6_bring 6 RX6 (some .int) g z0) (hM : qBM g ad w) (x1 : Int) (x2 : Int) (x3 : Int) (s0 : Int) (σ : qSt) : qS p l e qrm2 s m args below meth c 6 g z0 w 0 0 (qQ below g z0 w qri args s 0 0) (fX6_bring_c81 x1 x2 x3 s0 σ) σ 81 [(0, some (.ref (ad 47))), (1, some (.int (qI x1))), (2, some (.int (qI x2))), (3, some (.int (qI x3)))] [.int (qI s0), .ref (ad 47)] := by
  unfold fX6_bring_c81
  refine r_dVi (pc := 81) cx (tX6_refused hM s0 σ) qm_X6_refused qv_X6_refused hcl_X6 (lw47 hM) wm_X6_84 dX6_bring_81 rfl rfl (Nat.le_of_ble_eq_true rfl) ⟨Nat.le_of_ble_eq_true rfl, Nat.le_of_ble_eq_true rfl⟩ ⟨rfl, rfl⟩ ⟨Nat.zero_le _, Nat.zero_le _⟩ (fun r81 σ1 => ?_)
  refine r_if_eq (tgt := 89) cx dX6_bring_84 (by decide) ?_ ?_
  · refine r_aload_n (pc := 89) cx dX6_bring_89 rfl ?_
    refine r_get (pc := 90) cx hcl_X6 qc_X6 (lw47 hM) (j := 9) (by decide) wf_X6_34 dX6_bring_90 (x := .ref (ad 56)) rfl ?_
    refine r_iconst (pc := 93) cx dX6_bring_93 ?_
    refine r_iload_n (pc := 94) cx dX6_bring_94 rfl ?_
    refine r_imul (pc := 95) cx dX6_bring_95 ?_
    refine r_iload_n (pc := 96) cx dX6_bring_96 rfl ?_
    refine r_iadd (pc := 97) cx dX6_bring_97 ?_
    refine r_dup2 (pc := 98) cx dX6_bring_98 rfl rfl ?_
    refine r_iaload (pc := 99) cx (lw56 hM) rfl (by decide) dX6_bring_99 ?_
    refine r_iload_n (pc := 100) cx dX6_bring_100 rfl ?_
    refine r_iadd (pc := 101) cx dX6_bring_101 ?_
    refine r_iastore (pc := 102) cx (lw56 hM) rfl (by decide) dX6_bring_102 (fun σ2 => ?_)
    refine r_aload_n (pc := 103) cx dX6_bring_103 rfl ?_
    refine r_get (pc := 104) cx hcl_X6 qc_X6 (lw47 hM) (j := 9) (by decide) wf_X6_34 dX6_bring_104 (x := .ref (ad 56)) rfl ?_
    refine r_iconst (pc := 107) cx dX6_bring_107 ?_
    refine r_iload_n (pc := 108) cx dX6_bring_108 rfl ?_
    refine r_imul (pc := 109) cx dX6_bring_109 ?_
    refine r_iload_n (pc := 110) cx dX6_bring_110 rfl ?_
    refine r_iadd (pc := 111) cx dX6_bring_111 ?_
    refine r_iaload (pc := 112) cx (lw56 hM) rfl (by decide) dX6_bring_112 ?_
    exact r_ireturn (w0 := w) (fun _ _ h => h) (Nat.zero_le _) (Nat.zero_le _) cx dX6_bring_113 rfl
  · refine r_iconst (pc := 87) cx dX6_bring_87 ?_
    exact r_ireturn (w0 := w) (fun _ _ h => h) (Nat.zero_le _) (Nat.zero_le _) cx dX6_bring_88 rfl
def fX6_bring_c76 (x1 : Int) (x2 : Int) (x3 : Int) (σ : qSt) : Option (Int × qSt) :=
  (fX6_bring_c81 x1 x2 x3 3 σ)
set_option maxRecDepth 100000 in
set_option maxHeartbeats 4000000 in
theorem tX6_bring_c76 {p : Program} {l : Launch} {e : Env} {s : State} {m : MethodId} {args : Array Value} {below : List Frame} {meth : Method} {c : Code} {z0 : Nat} {g : qG} {w : qWd} {ad : Nat → Nat} (cx : qCx p s m meth c cX6_bring 6 RX6 (some .int) g z0) (hM : qBM g ad w) (x1 : Int) (x2 : Int) (x3 : Int) (σ : qSt) : qS p l e qrm2 s m args below meth c 6 g z0 w 0 0 (qQ below g z0 w qri args s 0 0) (fX6_bring_c76 x1 x2 x3 σ) σ 76 [(0, some (.ref (ad 47))), (1, some (.int (qI x1))), (2, some (.int (qI x2))), (3, some (.int (qI x3)))] [.ref (ad 47)] := by
  unfold fX6_bring_c76
  refine r_iconst (pc := 76) cx dX6_bring_76 ?_
  refine r_goto (pc := 77) (tgt := 81) cx dX6_bring_77 (by decide) ?_
  exact qS.sub (qsub_cons rfl (qsub_cons rfl (qsub_cons rfl (qsub_cons rfl (qsub_nil _))))) (tX6_bring_c81 cx hM _ _ _ _ _)
def fX6_bring_c24 (x1 : Int) (x2 : Int) (x3 : Int) (s0 : Int) (σ : qSt) : Option (Int × qSt) :=
  ((fX6_isCell σ x1).bind fun (r28 : Int) => (if qI r28 = 0 then (fX6_bring_c81 x1 x2 x3 1 σ) else (if qI s0 = 0 then (fX6_bring_c81 x1 x2 x3 2 σ) else (if 0 ≤ x1 ∧ x1 < 96 then (if qI (σ 48 x1) = qI 1 then (fX6_bring_c76 x1 x2 x3 σ) else ((fX6_allCounts σ).bind fun (r63 : Int) => (if qI (qlcmp (r63 + (qi2l x3)) 1000000) ≤ 0 then (fX6_bring_c81 x1 x2 x3 0 σ) else (fX6_bring_c76 x1 x2 x3 σ)))) else none))))
set_option maxRecDepth 100000 in
set_option maxHeartbeats 4000000 in
theorem tX6_bring_c24 {p : Program} {l : Launch} {e : Env} {s : State} {m : MethodId} {args : Array Value} {below : List Frame} {meth : Method} {c : Code} {z0 : Nat} {g : qG} {w : qWd} {ad : Nat → Nat} (cx : qCx p s m meth c cX6_bring 6 RX6 (some .int) g z0) (hM : qBM g ad w) (x1 : Int) (x2 : Int) (x3 : Int) (s0 : Int) (σ : qSt) : qS p l e qrm2 s m args below meth c 6 g z0 w 0 0 (qQ below g z0 w qri args s 0 0) (fX6_bring_c24 x1 x2 x3 s0 σ) σ 24 [(0, some (.ref (ad 47))), (1, some (.int (qI x1))), (2, some (.int (qI x2))), (3, some (.int (qI x3)))] [.int (qI s0)] := by
  unfold fX6_bring_c24
  refine r_istore (pc := 24) cx dX6_bring_24 (by decide) rfl ?_
  refine r_aload_n (pc := 26) cx dX6_bring_26 rfl ?_
  refine r_iload_n (pc := 27) cx dX6_bring_27 rfl ?_
  refine r_pVi (pc := 28) cx (tX6_isCell hM x1 σ) qm_X6_isCell qv_X6_isCell hcl_X6 (lw47 hM) wm_X6_77 dX6_bring_28 rfl rfl (Nat.le_of_ble_eq_true rfl) ⟨Nat.le_of_ble_eq_true rfl, Nat.le_of_ble_eq_true rfl⟩ ⟨rfl, rfl⟩ ⟨Nat.zero_le _, Nat.zero_le _⟩ (fun r28 => ?_)
  refine r_istore (pc := 31) cx dX6_bring_31 (by decide) rfl ?_
  refine r_aload_n (pc := 33) cx dX6_bring_33 rfl ?_
  refine r_iload (pc := 34) cx dX6_bring_34 rfl ?_
  refine r_if_ne (tgt := 43) cx dX6_bring_36 (by decide) ?_ ?_
  · refine r_iload (pc := 43) cx dX6_bring_43 rfl ?_
    refine r_if_ne (tgt := 52) cx dX6_bring_45 (by decide) ?_ ?_
    · refine r_aload_n (pc := 52) cx dX6_bring_52 rfl ?_
      refine r_get (pc := 53) cx hcl_X6 qc_X6 (lw47 hM) (j := 1) (by decide) wf_X6_7 dX6_bring_53 (x := .ref (ad 48)) rfl ?_
      refine r_iload_n (pc := 56) cx dX6_bring_56 rfl ?_
      refine r_iaload (pc := 57) cx (lw48 hM) rfl (by decide) dX6_bring_57 ?_
      refine r_iconst (pc := 58) cx dX6_bring_58 ?_
      refine r_icmp_eq (tgt := 76) cx dX6_bring_59 (by decide) ?_ ?_
      · exact qS.sub (qsub_cons rfl (qsub_cons rfl (qsub_cons rfl (qsub_cons rfl (qsub_nil _))))) (tX6_bring_c76 cx hM _ _ _ _)
      · refine r_aload_n (pc := 62) cx dX6_bring_62 rfl ?_
        refine r_pVj (pc := 63) cx (tX6_allCounts hM  σ) qm_X6_allCounts qv_X6_allCounts hcl_X6 (lw47 hM) wm_X6_94 dX6_bring_63 rfl rfl (Nat.le_of_ble_eq_true rfl) ⟨Nat.le_of_ble_eq_true rfl, Nat.le_of_ble_eq_true rfl⟩ ⟨rfl, rfl⟩ ⟨Nat.zero_le _, Nat.zero_le _⟩ (fun r63 => ?_)
        refine r_iload_n (pc := 66) cx dX6_bring_66 rfl ?_
        refine r_i2l (pc := 67) cx dX6_bring_67 ?_
        refine r_ladd (pc := 68) cx dX6_bring_68 ?_
        refine r_ldc2 (pc := 69) (v := 1000000) cx dX6_bring_69 wq_X6_98 ?_
        refine r_lcmp (pc := 72) cx dX6_bring_72 ?_
        refine r_if_le (tgt := 80) cx dX6_bring_73 (by decide) ?_ ?_
        · refine r_iconst (pc := 80) cx dX6_bring_80 ?_
          exact qS.sub (qsub_cons rfl (qsub_cons rfl (qsub_cons rfl (qsub_cons rfl (qsub_nil _))))) (tX6_bring_c81 cx hM _ _ _ _ _)
        · exact qS.sub (qsub_cons rfl (qsub_cons rfl (qsub_cons rfl (qsub_cons rfl (qsub_nil _))))) (tX6_bring_c76 cx hM _ _ _ _)
    · refine r_iconst (pc := 48) cx dX6_bring_48 ?_
      refine r_goto (pc := 49) (tgt := 81) cx dX6_bring_49 (by decide) ?_
      exact qS.sub (qsub_cons rfl (qsub_cons rfl (qsub_cons rfl (qsub_cons rfl (qsub_nil _))))) (tX6_bring_c81 cx hM _ _ _ _ _)
  · refine r_iconst (pc := 39) cx dX6_bring_39 ?_
    refine r_goto (pc := 40) (tgt := 81) cx dX6_bring_40 (by decide) ?_
    exact qS.sub (qsub_cons rfl (qsub_cons rfl (qsub_cons rfl (qsub_cons rfl (qsub_nil _))))) (tX6_bring_c81 cx hM _ _ _ _ _)
def fX6_bring_c23 (x1 : Int) (x2 : Int) (x3 : Int) (σ : qSt) : Option (Int × qSt) :=
  (fX6_bring_c24 x1 x2 x3 0 σ)
set_option maxRecDepth 100000 in
set_option maxHeartbeats 4000000 in
theorem tX6_bring_c23 {p : Program} {l : Launch} {e : Env} {s : State} {m : MethodId} {args : Array Value} {below : List Frame} {meth : Method} {c : Code} {z0 : Nat} {g : qG} {w : qWd} {ad : Nat → Nat} (cx : qCx p s m meth c cX6_bring 6 RX6 (some .int) g z0) (hM : qBM g ad w) (x1 : Int) (x2 : Int) (x3 : Int) (σ : qSt) : qS p l e qrm2 s m args below meth c 6 g z0 w 0 0 (qQ below g z0 w qri args s 0 0) (fX6_bring_c23 x1 x2 x3 σ) σ 23 [(0, some (.ref (ad 47))), (1, some (.int (qI x1))), (2, some (.int (qI x2))), (3, some (.int (qI x3)))] [] := by
  unfold fX6_bring_c23
  refine r_iconst (pc := 23) cx dX6_bring_23 ?_
  exact qS.sub (qsub_cons rfl (qsub_cons rfl (qsub_cons rfl (qsub_cons rfl (qsub_nil _))))) (tX6_bring_c24 cx hM _ _ _ _ _)
def fX6_bring (p0 : Int) (p1 : Int) (p2 : Int) (σ : qSt) : Option (Int × qSt) :=
  ((fX6_within σ p1 0 3).bind fun (r3 : Int) => (if qI r3 = 0 then (fX6_bring_c23 p0 p1 p2 σ) else ((fX6_within σ p2 1 100000).bind fun (r13 : Int) => (if qI r13 = 0 then (fX6_bring_c23 p0 p1 p2 σ) else (fX6_bring_c24 p0 p1 p2 1 σ)))))
set_option maxRecDepth 100000 in
set_option maxHeartbeats 4000000 in
theorem tX6_bring {l : Launch} {z0 : Nat} {g : qG} {w : qWd} {ad : Nat → Nat} (hM : qBM g ad w) (p0 : Int) (p1 : Int) (p2 : Int) (σ : qSt) : qCT l yX6_bring cX6_bring 6 (some .int) qrm2 g z0 w [.ref (ad 47), .int (qI p0), .int (qI p1), .int (qI p2)] σ (fX6_bring p0 p1 p2 σ) qri := by
  refine qCT.of [(0, some (.ref (ad 47))), (1, some (.int (qI p0))), (2, some (.int (qI p1))), (3, some (.int (qI p2)))] (by decide +kernel) (Nat.le_of_ble_eq_true rfl) rfl ?_
  intro p e s m args below meth c cx
  unfold fX6_bring
  refine r_iload_n (pc := 0) cx dX6_bring_0 rfl ?_
  refine r_iconst (pc := 1) cx dX6_bring_1 ?_
  refine r_iconst (pc := 2) cx dX6_bring_2 ?_
  refine r_pSi (pc := 3) cx (tX6_within  p1 0 3 σ) qm_X6_within qs_X6_within wm_X6_62 dX6_bring_3 rfl rfl (Nat.le_of_ble_eq_true rfl) ⟨Nat.le_of_ble_eq_true rfl, Nat.le_of_ble_eq_true rfl⟩ ⟨rfl, rfl⟩ ⟨Nat.zero_le _, Nat.zero_le _⟩ (fun r3 => ?_)
  refine r_if_eq (tgt := 23) cx dX6_bring_6 (by decide) ?_ ?_
  · exact qS.sub (qsub_cons rfl (qsub_cons rfl (qsub_cons rfl (qsub_cons rfl (qsub_nil _))))) (tX6_bring_c23 cx hM _ _ _ _)
  · refine r_iload_n (pc := 9) cx dX6_bring_9 rfl ?_
    refine r_iconst (pc := 10) cx dX6_bring_10 ?_
    refine r_ldc (pc := 11) (v := 100000) cx dX6_bring_11 wk_X6_93 ?_
    refine r_pSi (pc := 13) cx (tX6_within  p2 1 100000 σ) qm_X6_within qs_X6_within wm_X6_62 dX6_bring_13 rfl rfl (Nat.le_of_ble_eq_true rfl) ⟨Nat.le_of_ble_eq_true rfl, Nat.le_of_ble_eq_true rfl⟩ ⟨rfl, rfl⟩ ⟨Nat.zero_le _, Nat.zero_le _⟩ (fun r13 => ?_)
    refine r_if_eq (tgt := 23) cx dX6_bring_16 (by decide) ?_ ?_
    · exact qS.sub (qsub_cons rfl (qsub_cons rfl (qsub_cons rfl (qsub_cons rfl (qsub_nil _))))) (tX6_bring_c23 cx hM _ _ _ _)
    · refine r_iconst (pc := 19) cx dX6_bring_19 ?_
      refine r_goto (pc := 20) (tgt := 24) cx dX6_bring_20 (by decide) ?_
      exact qS.sub (qsub_cons rfl (qsub_cons rfl (qsub_cons rfl (qsub_cons rfl (qsub_nil _))))) (tX6_bring_c24 cx hM _ _ _ _ _)
def fX6_turned (σ : qSt) (p0 : Int) : Option Int :=
  (some (qand 15 (qor (qshl p0 1) (qshr p0 3))))
set_option maxRecDepth 100000 in
set_option maxHeartbeats 4000000 in
theorem tX6_turned {l : Launch} {z0 : Nat} {g : qG} {w : qWd} (p0 : Int) (σ : qSt) : qCT l yX6_turned cX6_turned 1 (some .int) qrm0 g z0 w [.int (qI p0)] σ (qlift (fX6_turned σ p0) σ) qri := by
  refine qCTp.of [(0, some (.int (qI p0)))] (by decide +kernel) (Nat.le_of_ble_eq_true rfl) rfl ?_
  intro p e s m args below meth c cx
  unfold fX6_turned
  refine r_bipush (pc := 0) (v := 15) cx dX6_turned_0 (by decide +kernel) ?_
  refine r_iload_n (pc := 2) cx dX6_turned_2 rfl ?_
  refine r_iconst (pc := 3) cx dX6_turned_3 ?_
  refine r_ishl (pc := 4) cx dX6_turned_4 ?_
  refine r_iload_n (pc := 5) cx dX6_turned_5 rfl ?_
  refine r_iconst (pc := 6) cx dX6_turned_6 ?_
  refine r_ishr (pc := 7) cx dX6_turned_7 ?_
  refine r_ior (pc := 8) cx dX6_turned_8 ?_
  refine r_iand (pc := 9) cx dX6_turned_9 ?_
  exact r_ireturn (w0 := w) (fun _ _ h => h) (Nat.zero_le _) (Nat.zero_le _) cx dX6_turned_10 rfl
def fX6_meets (σ : qSt) (p0 : Int) : Option Int :=
  (if qI p0 = qI 5 then (some 1) else (if qI p0 = qI 10 then (some 1) else (some 0)))
set_option maxRecDepth 100000 in
set_option maxHeartbeats 4000000 in
theorem tX6_meets {l : Launch} {z0 : Nat} {g : qG} {w : qWd} (p0 : Int) (σ : qSt) : qCT l yX6_meets cX6_meets 1 (some .boolean) qrm0 g z0 w [.int (qI p0)] σ (qlift (fX6_meets σ p0) σ) qri := by
  refine qCTp.of [(0, some (.int (qI p0)))] (by decide +kernel) (Nat.le_of_ble_eq_true rfl) rfl ?_
  intro p e s m args below meth c cx
  unfold fX6_meets
  refine r_iload_n (pc := 0) cx dX6_meets_0 rfl ?_
  refine r_iconst (pc := 1) cx dX6_meets_1 ?_
  refine r_icmp_eq (tgt := 11) cx dX6_meets_2 (by decide) ?_ ?_
  · refine r_iconst (pc := 11) cx dX6_meets_11 ?_
    refine r_goto (pc := 12) (tgt := 16) cx dX6_meets_12 (by decide) ?_
    exact r_zreturn (w0 := w) (fun _ _ h => h) (Nat.zero_le _) (Nat.zero_le _) cx (by decide +kernel) dX6_meets_16 rfl
  · refine r_iload_n (pc := 5) cx dX6_meets_5 rfl ?_
    refine r_bipush (pc := 6) (v := 10) cx dX6_meets_6 (by decide +kernel) ?_
    refine r_icmp_ne (tgt := 15) cx dX6_meets_8 (by decide) ?_ ?_
    · refine r_iconst (pc := 15) cx dX6_meets_15 ?_
      exact r_zreturn (w0 := w) (fun _ _ h => h) (Nat.zero_le _) (Nat.zero_le _) cx (by decide +kernel) dX6_meets_16 rfl
    · refine r_iconst (pc := 11) cx dX6_meets_11 ?_
      refine r_goto (pc := 12) (tgt := 16) cx dX6_meets_12 (by decide) ?_
      exact r_zreturn (w0 := w) (fun _ _ h => h) (Nat.zero_le _) (Nat.zero_le _) cx (by decide +kernel) dX6_meets_16 rfl
def fX6_hit_c72 (x2 : Int) (x3 : Int) (s0 : Int) (s1 : Int) (s2 : Int) (σ : qSt) : Option (Int × qSt) :=
  (if 0 ≤ s2 ∧ s2 < 12 then (qb (qset σ 60 s2 (s1 + s0)) fun (σ3 : qSt) => (if 0 ≤ (x3 + 2) ∧ (x3 + 2) < 12 then (if qI x2 = qI 1 then (if 0 ≤ (x3 + 2) ∧ (x3 + 2) < 12 then (qb (qset σ3 60 (x3 + 2) ((σ3 60 (x3 + 2)) + 2)) fun (σ6 : qSt) => (some (0, σ6))) else none) else (if qI x2 = qI 3 then (if 0 ≤ (x3 + 2) ∧ (x3 + 2) < 12 then (qb (qset σ3 60 (x3 + 2) ((σ3 60 (x3 + 2)) + (-2))) fun (σ5 : qSt) => (some (0, σ5))) else none) else (if 0 ≤ (x3 + 2) ∧ (x3 + 2) < 12 then (qb (qset σ3 60 (x3 + 2) ((σ3 60 (x3 + 2)) + 0)) fun (σ4 : qSt) => (some (0, σ4))) else none))) else none)) else none)
set_option maxRecDepth 100000 in
set_option maxHeartbeats 4000000 in
theorem tX6_hit_c72 {p : Program} {l : Launch} {e : Env} {s : State} {m : MethodId} {args : Array Value} {below : List Frame} {meth : Method} {c : Code} {z0 : Nat} {g : qG} {w : qWd} {ad : Nat → Nat} (cx : qCx p s m meth c cX6_hit 4 RX6 none g z0) (hM : qBM g ad w) (x2 : Int) (x3 : Int) (s0 : Int) (s1 : Int) (s2 : Int) (σ : qSt) : qS p l e qrm0 s m args below meth c 4 g z0 w 0 0 (qQ below g z0 w qrv args s 0 0) (fX6_hit_c72 x2 x3 s0 s1 s2 σ) σ 72 [(0, some (.ref (ad 47))), (2, some (.int (qI x2))), (3, some (.int (qI x3)))] [.int (qI s0), .int (qI s1), .int (qI s2), .ref (ad 60)] := by
  unfold fX6_hit_c72
  refine r_iadd (pc := 72) cx dX6_hit_72 ?_
  refine r_iastore (pc := 73) cx (lw60 hM) rfl (by decide) dX6_hit_73 (fun σ3 => ?_)
  refine r_aload_n (pc := 74) cx dX6_hit_74 rfl ?_
  refine r_get (pc := 75) cx hcl_X6 qc_X6 (lw47 hM) (j := 13) (by decide) wf_X6_46 dX6_hit_75 (x := .ref (ad 60)) rfl ?_
  refine r_iload_n (pc := 78) cx dX6_hit_78 rfl ?_
  refine r_iconst (pc := 79) cx dX6_hit_79 ?_
  refine r_iadd (pc := 80) cx dX6_hit_80 ?_
  refine r_dup2 (pc := 81) cx dX6_hit_81 rfl rfl ?_
  refine r_iaload (pc := 82) cx (lw60 hM) rfl (by decide) dX6_hit_82 ?_
  refine r_iload_n (pc := 83) cx dX6_hit_83 rfl ?_
  refine r_iconst (pc := 84) cx dX6_hit_84 ?_
  refine r_icmp_ne (tgt := 92) cx dX6_hit_85 (by decide) ?_ ?_
  · refine r_iload_n (pc := 92) cx dX6_hit_92 rfl ?_
    refine r_iconst (pc := 93) cx dX6_hit_93 ?_
    refine r_icmp_ne (tgt := 102) cx dX6_hit_94 (by decide) ?_ ?_
    · refine r_iconst (pc := 102) cx dX6_hit_102 ?_
      refine r_iadd (pc := 103) cx dX6_hit_103 ?_
      refine r_iastore (pc := 104) cx (lw60 hM) rfl (by decide) dX6_hit_104 (fun σ4 => ?_)
      exact r_return (w0 := w) (fun _ _ h => h) (Nat.zero_le _) (Nat.zero_le _) cx dX6_hit_105 rfl
    · refine r_bipush (pc := 97) (v := (-2)) cx dX6_hit_97 (by decide +kernel) ?_
      refine r_goto (pc := 99) (tgt := 103) cx dX6_hit_99 (by decide) ?_
      refine r_iadd (pc := 103) cx dX6_hit_103 ?_
      refine r_iastore (pc := 104) cx (lw60 hM) rfl (by decide) dX6_hit_104 (fun σ5 => ?_)
      exact r_return (w0 := w) (fun _ _ h => h) (Nat.zero_le _) (Nat.zero_le _) cx dX6_hit_105 rfl
  · refine r_iconst (pc := 88) cx dX6_hit_88 ?_
    refine r_goto (pc := 89) (tgt := 103) cx dX6_hit_89 (by decide) ?_
    refine r_iadd (pc := 103) cx dX6_hit_103 ?_
    refine r_iastore (pc := 104) cx (lw60 hM) rfl (by decide) dX6_hit_104 (fun σ6 => ?_)
    exact r_return (w0 := w) (fun _ _ h => h) (Nat.zero_le _) (Nat.zero_le _) cx dX6_hit_105 rfl
def fX6_hit (p0 : Int) (p1 : Int) (σ : qSt) : Option (Int × qSt) :=
  (if qI p0 = qI (-1) then (some (0, σ)) else (if 0 ≤ p0 ∧ p0 < 96 then (if qI (σ 48 p0) = qI 1 then (if 0 ≤ p0 ∧ p0 < 96 then (if qI (σ 49 p0) = qI (-1) then (some (0, σ)) else (if 0 ≤ p0 ∧ p0 < 96 then (qb (3 * (σ 49 p0)) fun (y1 : Int) => (if 0 ≤ y1 ∧ y1 < 12 then (if 0 ≤ y1 ∧ y1 < 12 then (qb (qset σ 60 y1 ((σ 60 y1) + 1)) fun (σ2 : qSt) => (if 0 ≤ (y1 + 1) ∧ (y1 + 1) < 12 then (if qI p1 = 0 then (fX6_hit_c72 p1 y1 2 (σ2 60 (y1 + 1)) (y1 + 1) σ2) else (if qI p1 = qI 2 then (fX6_hit_c72 p1 y1 (-2) (σ2 60 (y1 + 1)) (y1 + 1) σ2) else (fX6_hit_c72 p1 y1 0 (σ2 60 (y1 + 1)) (y1 + 1) σ2))) else none)) else none) else none)) else none)) else none) else (some (0, σ))) else none))
set_option maxRecDepth 100000 in
set_option maxHeartbeats 4000000 in
theorem tX6_hit {l : Launch} {z0 : Nat} {g : qG} {w : qWd} {ad : Nat → Nat} (hM : qBM g ad w) (p0 : Int) (p1 : Int) (σ : qSt) : qCT l yX6_hit cX6_hit 4 none qrm0 g z0 w [.ref (ad 47), .int (qI p0), .int (qI p1)] σ (fX6_hit p0 p1 σ) qrv := by
  refine qCT.of [(0, some (.ref (ad 47))), (1, some (.int (qI p0))), (2, some (.int (qI p1)))] (by decide +kernel) (Nat.le_of_ble_eq_true rfl) rfl ?_
  intro p e s m args below meth c cx
  unfold fX6_hit
  refine r_iload_n (pc := 0) cx dX6_hit_0 rfl ?_
  refine r_iconst (pc := 1) cx dX6_hit_1 ?_
  refine r_icmp_eq (tgt := 105) cx dX6_hit_2 (by decide) ?_ ?_
  · exact r_return (w0 := w) (fun _ _ h => h) (Nat.zero_le _) (Nat.zero_le _) cx dX6_hit_105 rfl
  · refine r_aload_n (pc := 5) cx dX6_hit_5 rfl ?_
    refine r_get (pc := 6) cx hcl_X6 qc_X6 (lw47 hM) (j := 1) (by decide) wf_X6_7 dX6_hit_6 (x := .ref (ad 48)) rfl ?_
    refine r_iload_n (pc := 9) cx dX6_hit_9 rfl ?_
    refine r_iaload (pc := 10) cx (lw48 hM) rfl (by decide) dX6_hit_10 ?_
    refine r_iconst (pc := 11) cx dX6_hit_11 ?_
    refine r_icmp_ne (tgt := 105) cx dX6_hit_12 (by decide) ?_ ?_
    · exact r_return (w0 := w) (fun _ _ h => h) (Nat.zero_le _) (Nat.zero_le _) cx dX6_hit_105 rfl
    · refine r_aload_n (pc := 15) cx dX6_hit_15 rfl ?_
      refine r_get (pc := 16) cx hcl_X6 qc_X6 (lw47 hM) (j := 2) (by decide) wf_X6_13 dX6_hit_16 (x := .ref (ad 49)) rfl ?_
      refine r_iload_n (pc := 19) cx dX6_hit_19 rfl ?_
      refine r_iaload (pc := 20) cx (lw49 hM) rfl (by decide) dX6_hit_20 ?_
      refine r_iconst (pc := 21) cx dX6_hit_21 ?_
      refine r_icmp_eq (tgt := 105) cx dX6_hit_22 (by decide) ?_ ?_
      · exact r_return (w0 := w) (fun _ _ h => h) (Nat.zero_le _) (Nat.zero_le _) cx dX6_hit_105 rfl
      · refine r_iconst (pc := 25) cx dX6_hit_25 ?_
        refine r_aload_n (pc := 26) cx dX6_hit_26 rfl ?_
        refine r_get (pc := 27) cx hcl_X6 qc_X6 (lw47 hM) (j := 2) (by decide) wf_X6_13 dX6_hit_27 (x := .ref (ad 49)) rfl ?_
        refine r_iload_n (pc := 30) cx dX6_hit_30 rfl ?_
        refine r_iaload (pc := 31) cx (lw49 hM) rfl (by decide) dX6_hit_31 ?_
        refine r_imul (pc := 32) cx dX6_hit_32 ?_
        refine r_nmi (fun y1 => ?_)
        refine r_istore_n (pc := 33) cx dX6_hit_33 (by decide) rfl ?_
        refine r_aload_n (pc := 34) cx dX6_hit_34 rfl ?_
        refine r_get (pc := 35) cx hcl_X6 qc_X6 (lw47 hM) (j := 13) (by decide) wf_X6_46 dX6_hit_35 (x := .ref (ad 60)) rfl ?_
        refine r_iload_n (pc := 38) cx dX6_hit_38 rfl ?_
        refine r_dup2 (pc := 39) cx dX6_hit_39 rfl rfl ?_
        refine r_iaload (pc := 40) cx (lw60 hM) rfl (by decide) dX6_hit_40 ?_
        refine r_iconst (pc := 41) cx dX6_hit_41 ?_
        refine r_iadd (pc := 42) cx dX6_hit_42 ?_
        refine r_iastore (pc := 43) cx (lw60 hM) rfl (by decide) dX6_hit_43 (fun σ2 => ?_)
        refine r_aload_n (pc := 44) cx dX6_hit_44 rfl ?_
        refine r_get (pc := 45) cx hcl_X6 qc_X6 (lw47 hM) (j := 13) (by decide) wf_X6_46 dX6_hit_45 (x := .ref (ad 60)) rfl ?_
        refine r_iload_n (pc := 48) cx dX6_hit_48 rfl ?_
        refine r_iconst (pc := 49) cx dX6_hit_49 ?_
        refine r_iadd (pc := 50) cx dX6_hit_50 ?_
        refine r_dup2 (pc := 51) cx dX6_hit_51 rfl rfl ?_
        refine r_iaload (pc := 52) cx (lw60 hM) rfl (by decide) dX6_hit_52 ?_
        refine r_iload_n (pc := 53) cx dX6_hit_53 rfl ?_
        refine r_if_ne (tgt := 61) cx dX6_hit_54 (by decide) ?_ ?_
        · refine r_iload_n (pc := 61) cx dX6_hit_61 rfl ?_
          refine r_iconst (pc := 62) cx dX6_hit_62 ?_
          refine r_icmp_ne (tgt := 71) cx dX6_hit_63 (by decide) ?_ ?_
          · refine r_iconst (pc := 71) cx dX6_hit_71 ?_
            exact qS.sub (qsub_cons rfl (qsub_cons rfl (qsub_cons rfl (qsub_nil _)))) (tX6_hit_c72 cx hM _ _ _ _ _ _)
          · refine r_bipush (pc := 66) (v := (-2)) cx dX6_hit_66 (by decide +kernel) ?_
            refine r_goto (pc := 68) (tgt := 72) cx dX6_hit_68 (by decide) ?_
            exact qS.sub (qsub_cons rfl (qsub_cons rfl (qsub_cons rfl (qsub_nil _)))) (tX6_hit_c72 cx hM _ _ _ _ _ _)
        · refine r_iconst (pc := 57) cx dX6_hit_57 ?_
          refine r_goto (pc := 58) (tgt := 72) cx dX6_hit_58 (by decide) ?_
          exact qS.sub (qsub_cons rfl (qsub_cons rfl (qsub_cons rfl (qsub_nil _)))) (tX6_hit_c72 cx hM _ _ _ _ _ _)
def fX6_advance_c295 (p0 : Nat) (p1 : Nat) (k223 : Int → qSt → Option (Int × qSt)) (x3 : Int) (s0 : Int) (s1 : Int) (σ : qSt) : Option (Int × qSt) :=
  (if 0 ≤ s1 ∧ s1 < 96 then (qb (qset σ p1 s1 s0) fun (σ9 : qSt) => (k223 (x3 + 1) σ9)) else none)
set_option maxRecDepth 100000 in
set_option maxHeartbeats 4000000 in
theorem tX6_advance_c295 {p : Program} {l : Launch} {e : Env} {s : State} {m : MethodId} {args : Array Value} {below : List Frame} {meth : Method} {c : Code} {z0 : Nat} {g : qG} {w : qWd} {ad : Nat → Nat} {p0 ap0 : Nat} {p1 ap1 : Nat} (cx : qCx p s m meth c cX6_advance 8 RX6 none g z0) (hM : qBM g ad w) (hp0 : w p0 = some (ap0, qAI (g.2 0) 96)) (hp1 : w p1 = some (ap1, qAI (g.2 0) 96)) {k223 : Int → qSt → Option (Int × qSt)} (hk223 : ∀ (x3 : Int) (σ : qSt), qS p l e qrm1 s m args below meth c 8 g z0 w 0 0 (qQ below g z0 w qrv args s 0 0) (k223 x3 σ) σ 223 [(0, some (.ref (ad 47))), (1, some (.ref ap0)), (2, some (.ref ap1)), (3, some (.int (qI x3)))] []) (x3 : Int) (s0 : Int) (s1 : Int) (σ : qSt) : qS p l e qrm1 s m args below meth c 8 g z0 w 0 0 (qQ below g z0 w qrv args s 0 0) (fX6_advance_c295 p0 p1 k223 x3 s0 s1 σ) σ 295 [(0, some (.ref (ad 47))), (1, some (.ref ap0)), (2, some (.ref ap1)), (3, some (.int (qI x3)))] [.int (qI s0), .int (qI s1), .ref ap1] := by
  unfold fX6_advance_c295
  refine r_iastore (pc := 295) cx hp1 rfl (by decide) dX6_advance_295 (fun σ9 => ?_)
  refine r_iinc (pc := 296) cx dX6_advance_296 rfl (by decide) rfl ?_
  refine r_goto (pc := 299) (tgt := 223) cx dX6_advance_299 (by decide) ?_
  exact qS.sub (qsub_cons rfl (qsub_cons rfl (qsub_cons rfl (qsub_cons rfl (qsub_nil _))))) (hk223 _ _)
def fX6_advance_c272 (p0 : Nat) (p1 : Nat) (k223 : Int → qSt → Option (Int × qSt)) (x3 : Int) (s0 : Int) (s1 : Int) (σ : qSt) : Option (Int × qSt) :=
  (if 0 ≤ s1 ∧ s1 < 96 then (qb (qset σ p0 s1 s0) fun (σ8 : qSt) => (if 0 ≤ x3 ∧ x3 < 96 then (if qI (σ8 48 x3) = qI 3 then (fX6_advance_c295 p0 p1 k223 x3 0 x3 σ8) else (if 0 ≤ x3 ∧ x3 < 96 then (fX6_advance_c295 p0 p1 k223 x3 (σ8 53 x3) x3 σ8) else none)) else none)) else none)
set_option maxRecDepth 100000 in
set_option maxHeartbeats 4000000 in
theorem tX6_advance_c272 {p : Program} {l : Launch} {e : Env} {s : State} {m : MethodId} {args : Array Value} {below : List Frame} {meth : Method} {c : Code} {z0 : Nat} {g : qG} {w : qWd} {ad : Nat → Nat} {p0 ap0 : Nat} {p1 ap1 : Nat} (cx : qCx p s m meth c cX6_advance 8 RX6 none g z0) (hM : qBM g ad w) (hp0 : w p0 = some (ap0, qAI (g.2 0) 96)) (hp1 : w p1 = some (ap1, qAI (g.2 0) 96)) {k223 : Int → qSt → Option (Int × qSt)} (hk223 : ∀ (x3 : Int) (σ : qSt), qS p l e qrm1 s m args below meth c 8 g z0 w 0 0 (qQ below g z0 w qrv args s 0 0) (k223 x3 σ) σ 223 [(0, some (.ref (ad 47))), (1, some (.ref ap0)), (2, some (.ref ap1)), (3, some (.int (qI x3)))] []) (x3 : Int) (s0 : Int) (s1 : Int) (σ : qSt) : qS p l e qrm1 s m args below meth c 8 g z0 w 0 0 (qQ below g z0 w qrv args s 0 0) (fX6_advance_c272 p0 p1 k223 x3 s0 s1 σ) σ 272 [(0, some (.ref (ad 47))), (1, some (.ref ap0)), (2, some (.ref ap1)), (3, some (.int (qI x3)))] [.int (qI s0), .int (qI s1), .ref ap0] := by
  unfold fX6_advance_c272
  refine r_iastore (pc := 272) cx hp0 rfl (by decide) dX6_advance_272 (fun σ8 => ?_)
  refine r_aload_n (pc := 273) cx dX6_advance_273 rfl ?_
  refine r_iload_n (pc := 274) cx dX6_advance_274 rfl ?_
  refine r_aload_n (pc := 275) cx dX6_advance_275 rfl ?_
  refine r_get (pc := 276) cx hcl_X6 qc_X6 (lw47 hM) (j := 1) (by decide) wf_X6_7 dX6_advance_276 (x := .ref (ad 48)) rfl ?_
  refine r_iload_n (pc := 279) cx dX6_advance_279 rfl ?_
  refine r_iaload (pc := 280) cx (lw48 hM) rfl (by decide) dX6_advance_280 ?_
  refine r_iconst (pc := 281) cx dX6_advance_281 ?_
  refine r_icmp_ne (tgt := 289) cx dX6_advance_282 (by decide) ?_ ?_
  · refine r_aload_n (pc := 289) cx dX6_advance_289 rfl ?_
    refine r_get (pc := 290) cx hcl_X6 qc_X6 (lw47 hM) (j := 6) (by decide) wf_X6_25 dX6_advance_290 (x := .ref (ad 53)) rfl ?_
    refine r_iload_n (pc := 293) cx dX6_advance_293 rfl ?_
    refine r_iaload (pc := 294) cx (lw53 hM) rfl (by decide) dX6_advance_294 ?_
    exact qS.sub (qsub_cons rfl (qsub_cons rfl (qsub_cons rfl (qsub_cons rfl (qsub_nil _))))) (tX6_advance_c295 cx hM hp0 hp1 hk223 _ _ _ _)
  · refine r_iconst (pc := 285) cx dX6_advance_285 ?_
    refine r_goto (pc := 286) (tgt := 295) cx dX6_advance_286 (by decide) ?_
    exact qS.sub (qsub_cons rfl (qsub_cons rfl (qsub_cons rfl (qsub_cons rfl (qsub_nil _))))) (tX6_advance_c295 cx hM hp0 hp1 hk223 _ _ _ _)
def fX6_advance_c223 (p0 : Nat) (p1 : Nat) : Nat → Int → qSt → Option (Int × qSt)
  | 0, _, _ => none
  | f + 1, x3, σ => (if qI 96 ≤ qI x3 then (some (0, σ)) else (if 0 ≤ x3 ∧ x3 < 96 then (if qI (σ 48 x3) = qI 3 then (fX6_advance_c272 p0 p1 (fX6_advance_c223 p0 p1 f) x3 0 x3 σ) else (if 0 ≤ x3 ∧ x3 < 96 then (if qI (σ 48 x3) = qI 2 then (if 0 ≤ x3 ∧ x3 < 96 then (fX6_advance_c272 p0 p1 (fX6_advance_c223 p0 p1 f) x3 (qor (σ 52 x3) 1) x3 σ) else none) else (if 0 ≤ x3 ∧ x3 < 96 then (fX6_advance_c272 p0 p1 (fX6_advance_c223 p0 p1 f) x3 (σ 52 x3) x3 σ) else none)) else none)) else none))
set_option maxRecDepth 100000 in
set_option maxHeartbeats 4000000 in
theorem tX6_advance_c223 {p : Program} {l : Launch} {e : Env} {s : State} {m : MethodId} {args : Array Value} {below : List Frame} {meth : Method} {c : Code} {z0 : Nat} {g : qG} {w : qWd} {ad : Nat → Nat} {p0 ap0 : Nat} {p1 ap1 : Nat} (cx : qCx p s m meth c cX6_advance 8 RX6 none g z0) (hM : qBM g ad w) (hp0 : w p0 = some (ap0, qAI (g.2 0) 96)) (hp1 : w p1 = some (ap1, qAI (g.2 0) 96)) : ∀ (f : Nat) (x3 : Int) (σ : qSt), qS p l e qrm1 s m args below meth c 8 g z0 w 0 0 (qQ below g z0 w qrv args s 0 0) (fX6_advance_c223 p0 p1 f x3 σ) σ 223 [(0, some (.ref (ad 47))), (1, some (.ref ap0)), (2, some (.ref ap1)), (3, some (.int (qI x3)))] [] := by
  intro f
  induction f with
  | zero => exact fun _ _ => qS.fail
  | succ f ih =>
    intro x3 σ
    unfold fX6_advance_c223
    refine r_iload_n (pc := 223) cx dX6_advance_223 rfl ?_
    refine r_bipush (pc := 224) (v := 96) cx dX6_advance_224 (by decide +kernel) ?_
    refine r_icmp_ge (tgt := 302) cx dX6_advance_226 (by decide) ?_ ?_
    · exact r_return (w0 := w) (fun _ _ h => h) (Nat.zero_le _) (Nat.zero_le _) cx dX6_advance_302 rfl
    · refine r_aload_n (pc := 229) cx dX6_advance_229 rfl ?_
      refine r_iload_n (pc := 230) cx dX6_advance_230 rfl ?_
      refine r_aload_n (pc := 231) cx dX6_advance_231 rfl ?_
      refine r_get (pc := 232) cx hcl_X6 qc_X6 (lw47 hM) (j := 1) (by decide) wf_X6_7 dX6_advance_232 (x := .ref (ad 48)) rfl ?_
      refine r_iload_n (pc := 235) cx dX6_advance_235 rfl ?_
      refine r_iaload (pc := 236) cx (lw48 hM) rfl (by decide) dX6_advance_236 ?_
      refine r_iconst (pc := 237) cx dX6_advance_237 ?_
      refine r_icmp_ne (tgt := 245) cx dX6_advance_238 (by decide) ?_ ?_
      · refine r_aload_n (pc := 245) cx dX6_advance_245 rfl ?_
        refine r_get (pc := 246) cx hcl_X6 qc_X6 (lw47 hM) (j := 1) (by decide) wf_X6_7 dX6_advance_246 (x := .ref (ad 48)) rfl ?_
        refine r_iload_n (pc := 249) cx dX6_advance_249 rfl ?_
        refine r_iaload (pc := 250) cx (lw48 hM) rfl (by decide) dX6_advance_250 ?_
        refine r_iconst (pc := 251) cx dX6_advance_251 ?_
        refine r_icmp_ne (tgt := 266) cx dX6_advance_252 (by decide) ?_ ?_
        · refine r_aload_n (pc := 266) cx dX6_advance_266 rfl ?_
          refine r_get (pc := 267) cx hcl_X6 qc_X6 (lw47 hM) (j := 5) (by decide) wf_X6_22 dX6_advance_267 (x := .ref (ad 52)) rfl ?_
          refine r_iload_n (pc := 270) cx dX6_advance_270 rfl ?_
          refine r_iaload (pc := 271) cx (lw52 hM) rfl (by decide) dX6_advance_271 ?_
          exact qS.sub (qsub_cons rfl (qsub_cons rfl (qsub_cons rfl (qsub_cons rfl (qsub_nil _))))) (tX6_advance_c272 cx hM hp0 hp1 ih _ _ _ _)
        · refine r_aload_n (pc := 255) cx dX6_advance_255 rfl ?_
          refine r_get (pc := 256) cx hcl_X6 qc_X6 (lw47 hM) (j := 5) (by decide) wf_X6_22 dX6_advance_256 (x := .ref (ad 52)) rfl ?_
          refine r_iload_n (pc := 259) cx dX6_advance_259 rfl ?_
          refine r_iaload (pc := 260) cx (lw52 hM) rfl (by decide) dX6_advance_260 ?_
          refine r_iconst (pc := 261) cx dX6_advance_261 ?_
          refine r_ior (pc := 262) cx dX6_advance_262 ?_
          refine r_goto (pc := 263) (tgt := 272) cx dX6_advance_263 (by decide) ?_
          exact qS.sub (qsub_cons rfl (qsub_cons rfl (qsub_cons rfl (qsub_cons rfl (qsub_nil _))))) (tX6_advance_c272 cx hM hp0 hp1 ih _ _ _ _)
      · refine r_iconst (pc := 241) cx dX6_advance_241 ?_
        refine r_goto (pc := 242) (tgt := 272) cx dX6_advance_242 (by decide) ?_
        exact qS.sub (qsub_cons rfl (qsub_cons rfl (qsub_cons rfl (qsub_cons rfl (qsub_nil _))))) (tX6_advance_c272 cx hM hp0 hp1 ih _ _ _ _)
def fX6_advance_c209 (p0 : Nat) (p1 : Nat) (k93 : Int → qSt → Option (Int × qSt)) (k102 : Int → Int → qSt → Option (Int × qSt)) (x3 : Int) (x4 : Int) (σ : qSt) : Option (Int × qSt) :=
  (k102 x3 (x4 + 1) σ)
set_option maxRecDepth 100000 in
set_option maxHeartbeats 4000000 in
theorem tX6_advance_c209 {p : Program} {l : Launch} {e : Env} {s : State} {m : MethodId} {args : Array Value} {below : List Frame} {meth : Method} {c : Code} {z0 : Nat} {g : qG} {w : qWd} {ad : Nat → Nat} {p0 ap0 : Nat} {p1 ap1 : Nat} (cx : qCx p s m meth c cX6_advance 8 RX6 none g z0) (hM : qBM g ad w) (hp0 : w p0 = some (ap0, qAI (g.2 0) 96)) (hp1 : w p1 = some (ap1, qAI (g.2 0) 96)) {k93 : Int → qSt → Option (Int × qSt)} (hk93 : ∀ (x3 : Int) (σ : qSt), qS p l e qrm1 s m args below meth c 8 g z0 w 0 0 (qQ below g z0 w qrv args s 0 0) (k93 x3 σ) σ 93 [(0, some (.ref (ad 47))), (1, some (.ref ap0)), (2, some (.ref ap1)), (3, some (.int (qI x3)))] []) {k102 : Int → Int → qSt → Option (Int × qSt)} (hk102 : ∀ (x3 : Int) (x4 : Int) (σ : qSt), qS p l e qrm1 s m args below meth c 8 g z0 w 0 0 (qQ below g z0 w qrv args s 0 0) (k102 x3 x4 σ) σ 102 [(0, some (.ref (ad 47))), (1, some (.ref ap0)), (2, some (.ref ap1)), (3, some (.int (qI x3))), (4, some (.int (qI x4)))] []) (x3 : Int) (x4 : Int) (σ : qSt) : qS p l e qrm1 s m args below meth c 8 g z0 w 0 0 (qQ below g z0 w qrv args s 0 0) (fX6_advance_c209 p0 p1 k93 k102 x3 x4 σ) σ 209 [(0, some (.ref (ad 47))), (1, some (.ref ap0)), (2, some (.ref ap1)), (3, some (.int (qI x3))), (4, some (.int (qI x4)))] [] := by
  unfold fX6_advance_c209
  refine r_iinc (pc := 209) cx dX6_advance_209 rfl (by decide) rfl ?_
  refine r_goto (pc := 212) (tgt := 102) cx dX6_advance_212 (by decide) ?_
  exact qS.sub (qsub_cons rfl (qsub_cons rfl (qsub_cons rfl (qsub_cons rfl (qsub_cons rfl (qsub_nil _)))))) (hk102 _ _ _)
def fX6_advance_c164 (p0 : Nat) (p1 : Nat) (k93 : Int → qSt → Option (Int × qSt)) (k102 : Int → Int → qSt → Option (Int × qSt)) (x3 : Int) (x4 : Int) (x5 : Int) (x6 : Int) (s0 : Int) (σ : qSt) : Option (Int × qSt) :=
  (if 0 ≤ x6 ∧ x6 < 96 then (if 0 ≤ x6 ∧ x6 < 96 then (qb (qset σ 52 x6 (qor (σ 52 x6) (qshl 1 s0))) fun (σ10 : qSt) => (if 0 ≤ x6 ∧ x6 < 96 then (if 0 ≤ x3 ∧ x3 < 96 then (if 0 ≤ x6 ∧ x6 < 96 then (qb (qset σ10 53 x6 (qor (σ10 53 x6) (qshl (qand (qshr (σ10 p1 x3) x4) 1) s0))) fun (σ11 : qSt) => (qbd (fX6_hit x5 x4 σ11) fun (r206 : Int) (σ12 : qSt) => (fX6_advance_c209 p0 p1 k93 k102 x3 x4 σ12))) else none) else none) else none)) else none) else none)
set_option maxRecDepth 100000 in
set_option maxHeartbeats 4000000 in
theorem tX6_advance_c164 {p : Program} {l : Launch} {e : Env} {s : State} {m : MethodId} {args : Array Value} {below : List Frame} {meth : Method} {c : Code} {z0 : Nat} {g : qG} {w : qWd} {ad : Nat → Nat} {p0 ap0 : Nat} {p1 ap1 : Nat} (cx : qCx p s m meth c cX6_advance 8 RX6 none g z0) (hM : qBM g ad w) (hp0 : w p0 = some (ap0, qAI (g.2 0) 96)) (hp1 : w p1 = some (ap1, qAI (g.2 0) 96)) {k93 : Int → qSt → Option (Int × qSt)} (hk93 : ∀ (x3 : Int) (σ : qSt), qS p l e qrm1 s m args below meth c 8 g z0 w 0 0 (qQ below g z0 w qrv args s 0 0) (k93 x3 σ) σ 93 [(0, some (.ref (ad 47))), (1, some (.ref ap0)), (2, some (.ref ap1)), (3, some (.int (qI x3)))] []) {k102 : Int → Int → qSt → Option (Int × qSt)} (hk102 : ∀ (x3 : Int) (x4 : Int) (σ : qSt), qS p l e qrm1 s m args below meth c 8 g z0 w 0 0 (qQ below g z0 w qrv args s 0 0) (k102 x3 x4 σ) σ 102 [(0, some (.ref (ad 47))), (1, some (.ref ap0)), (2, some (.ref ap1)), (3, some (.int (qI x3))), (4, some (.int (qI x4)))] []) (x3 : Int) (x4 : Int) (x5 : Int) (x6 : Int) (s0 : Int) (σ : qSt) : qS p l e qrm1 s m args below meth c 8 g z0 w 0 0 (qQ below g z0 w qrv args s 0 0) (fX6_advance_c164 p0 p1 k93 k102 x3 x4 x5 x6 s0 σ) σ 164 [(0, some (.ref (ad 47))), (1, some (.ref ap0)), (2, some (.ref ap1)), (3, some (.int (qI x3))), (4, some (.int (qI x4))), (5, some (.int (qI x5))), (6, some (.int (qI x6)))] [.int (qI s0)] := by
  unfold fX6_advance_c164
  refine r_istore (pc := 164) cx dX6_advance_164 (by decide) rfl ?_
  refine r_aload_n (pc := 166) cx dX6_advance_166 rfl ?_
  refine r_get (pc := 167) cx hcl_X6 qc_X6 (lw47 hM) (j := 5) (by decide) wf_X6_22 dX6_advance_167 (x := .ref (ad 52)) rfl ?_
  refine r_iload (pc := 170) cx dX6_advance_170 rfl ?_
  refine r_dup2 (pc := 172) cx dX6_advance_172 rfl rfl ?_
  refine r_iaload (pc := 173) cx (lw52 hM) rfl (by decide) dX6_advance_173 ?_
  refine r_iconst (pc := 174) cx dX6_advance_174 ?_
  refine r_iload (pc := 175) cx dX6_advance_175 rfl ?_
  refine r_ishl (pc := 177) cx dX6_advance_177 ?_
  refine r_ior (pc := 178) cx dX6_advance_178 ?_
  refine r_iastore (pc := 179) cx (lw52 hM) rfl (by decide) dX6_advance_179 (fun σ10 => ?_)
  refine r_aload_n (pc := 180) cx dX6_advance_180 rfl ?_
  refine r_get (pc := 181) cx hcl_X6 qc_X6 (lw47 hM) (j := 6) (by decide) wf_X6_25 dX6_advance_181 (x := .ref (ad 53)) rfl ?_
  refine r_iload (pc := 184) cx dX6_advance_184 rfl ?_
  refine r_dup2 (pc := 186) cx dX6_advance_186 rfl rfl ?_
  refine r_iaload (pc := 187) cx (lw53 hM) rfl (by decide) dX6_advance_187 ?_
  refine r_aload_n (pc := 188) cx dX6_advance_188 rfl ?_
  refine r_iload_n (pc := 189) cx dX6_advance_189 rfl ?_
  refine r_iaload (pc := 190) cx hp1 rfl (by decide) dX6_advance_190 ?_
  refine r_iload (pc := 191) cx dX6_advance_191 rfl ?_
  refine r_ishr (pc := 193) cx dX6_advance_193 ?_
  refine r_iconst (pc := 194) cx dX6_advance_194 ?_
  refine r_iand (pc := 195) cx dX6_advance_195 ?_
  refine r_iload (pc := 196) cx dX6_advance_196 rfl ?_
  refine r_ishl (pc := 198) cx dX6_advance_198 ?_
  refine r_ior (pc := 199) cx dX6_advance_199 ?_
  refine r_iastore (pc := 200) cx (lw53 hM) rfl (by decide) dX6_advance_200 (fun σ11 => ?_)
  refine r_aload_n (pc := 201) cx dX6_advance_201 rfl ?_
  refine r_iload (pc := 202) cx dX6_advance_202 rfl ?_
  refine r_iload (pc := 204) cx dX6_advance_204 rfl ?_
  refine r_dVv (pc := 206) cx (tX6_hit hM x5 x4 σ11) qm_X6_hit qv_X6_hit hcl_X6 (lw47 hM) wm_X6_119 dX6_advance_206 rfl rfl (Nat.le_of_ble_eq_true rfl) ⟨Nat.le_of_ble_eq_true rfl, Nat.le_of_ble_eq_true rfl⟩ ⟨rfl, rfl⟩ ⟨Nat.zero_le _, Nat.zero_le _⟩ (fun r206 σ12 => ?_)
  exact qS.sub (qsub_cons rfl (qsub_cons rfl (qsub_cons rfl (qsub_cons rfl (qsub_cons rfl (qsub_nil _)))))) (tX6_advance_c209 cx hM hp0 hp1 hk93 hk102 _ _ _)
def fX6_advance_c143 (p0 : Nat) (p1 : Nat) (k93 : Int → qSt → Option (Int × qSt)) (k102 : Int → Int → qSt → Option (Int × qSt)) (x3 : Int) (x4 : Int) (x5 : Int) (s0 : Int) (σ : qSt) : Option (Int × qSt) :=
  ((fX6_blocks σ x5).bind fun (r148 : Int) => (if qI r148 = 0 then (fX6_advance_c164 p0 p1 k93 k102 x3 x4 x5 s0 x4 σ) else ((fX6_opposite σ x4).bind fun (r156 : Int) => (fX6_advance_c164 p0 p1 k93 k102 x3 x4 x5 s0 r156 σ))))
set_option maxRecDepth 100000 in
set_option maxHeartbeats 4000000 in
theorem tX6_advance_c143 {p : Program} {l : Launch} {e : Env} {s : State} {m : MethodId} {args : Array Value} {below : List Frame} {meth : Method} {c : Code} {z0 : Nat} {g : qG} {w : qWd} {ad : Nat → Nat} {p0 ap0 : Nat} {p1 ap1 : Nat} (cx : qCx p s m meth c cX6_advance 8 RX6 none g z0) (hM : qBM g ad w) (hp0 : w p0 = some (ap0, qAI (g.2 0) 96)) (hp1 : w p1 = some (ap1, qAI (g.2 0) 96)) {k93 : Int → qSt → Option (Int × qSt)} (hk93 : ∀ (x3 : Int) (σ : qSt), qS p l e qrm1 s m args below meth c 8 g z0 w 0 0 (qQ below g z0 w qrv args s 0 0) (k93 x3 σ) σ 93 [(0, some (.ref (ad 47))), (1, some (.ref ap0)), (2, some (.ref ap1)), (3, some (.int (qI x3)))] []) {k102 : Int → Int → qSt → Option (Int × qSt)} (hk102 : ∀ (x3 : Int) (x4 : Int) (σ : qSt), qS p l e qrm1 s m args below meth c 8 g z0 w 0 0 (qQ below g z0 w qrv args s 0 0) (k102 x3 x4 σ) σ 102 [(0, some (.ref (ad 47))), (1, some (.ref ap0)), (2, some (.ref ap1)), (3, some (.int (qI x3))), (4, some (.int (qI x4)))] []) (x3 : Int) (x4 : Int) (x5 : Int) (s0 : Int) (σ : qSt) : qS p l e qrm1 s m args below meth c 8 g z0 w 0 0 (qQ below g z0 w qrv args s 0 0) (fX6_advance_c143 p0 p1 k93 k102 x3 x4 x5 s0 σ) σ 143 [(0, some (.ref (ad 47))), (1, some (.ref ap0)), (2, some (.ref ap1)), (3, some (.int (qI x3))), (4, some (.int (qI x4))), (5, some (.int (qI x5)))] [.int (qI s0)] := by
  unfold fX6_advance_c143
  refine r_istore (pc := 143) cx dX6_advance_143 (by decide) rfl ?_
  refine r_aload_n (pc := 145) cx dX6_advance_145 rfl ?_
  refine r_iload (pc := 146) cx dX6_advance_146 rfl ?_
  refine r_pVi (pc := 148) cx (tX6_blocks hM x5 σ) qm_X6_blocks qv_X6_blocks hcl_X6 (lw47 hM) wm_X6_113 dX6_advance_148 rfl rfl (Nat.le_of_ble_eq_true rfl) ⟨Nat.le_of_ble_eq_true rfl, Nat.le_of_ble_eq_true rfl⟩ ⟨rfl, rfl⟩ ⟨Nat.zero_le _, Nat.zero_le _⟩ (fun r148 => ?_)
  refine r_if_eq (tgt := 162) cx dX6_advance_151 (by decide) ?_ ?_
  · refine r_iload (pc := 162) cx dX6_advance_162 rfl ?_
    exact qS.sub (qsub_cons rfl (qsub_cons rfl (qsub_cons rfl (qsub_cons rfl (qsub_cons rfl (qsub_cons rfl (qsub_cons rfl (qsub_nil _)))))))) (tX6_advance_c164 cx hM hp0 hp1 hk93 hk102 _ _ _ _ _ _)
  · refine r_iload (pc := 154) cx dX6_advance_154 rfl ?_
    refine r_pSi (pc := 156) cx (tX6_opposite  x4 σ) qm_X6_opposite qs_X6_opposite wm_X6_116 dX6_advance_156 rfl rfl (Nat.le_of_ble_eq_true rfl) ⟨Nat.le_of_ble_eq_true rfl, Nat.le_of_ble_eq_true rfl⟩ ⟨rfl, rfl⟩ ⟨Nat.zero_le _, Nat.zero_le _⟩ (fun r156 => ?_)
    refine r_goto (pc := 159) (tgt := 164) cx dX6_advance_159 (by decide) ?_
    exact qS.sub (qsub_cons rfl (qsub_cons rfl (qsub_cons rfl (qsub_cons rfl (qsub_cons rfl (qsub_cons rfl (qsub_cons rfl (qsub_nil _)))))))) (tX6_advance_c164 cx hM hp0 hp1 hk93 hk102 _ _ _ _ _ _)
def fX6_advance_c102 (p0 : Nat) (p1 : Nat) (k93 : Int → qSt → Option (Int × qSt)) : Nat → Int → Int → qSt → Option (Int × qSt)
  | 0, _, _, _ => none
  | f + 1, x3, x4, σ => (if qI 4 ≤ qI x4 then (k93 (x3 + 1) σ) else (if 0 ≤ x3 ∧ x3 < 96 then (if qI (qand (qshr (σ p0 x3) x4) 1) = qI 1 then ((fX6_beside σ x3 x4).bind fun (r123 : Int) => ((fX6_blocks σ r123).bind fun (r131 : Int) => (if qI r131 = 0 then (fX6_advance_c143 p0 p1 k93 (fX6_advance_c102 p0 p1 k93 f) x3 x4 r123 r123 σ) else (fX6_advance_c143 p0 p1 k93 (fX6_advance_c102 p0 p1 k93 f) x3 x4 r123 x3 σ)))) else (fX6_advance_c209 p0 p1 k93 (fX6_advance_c102 p0 p1 k93 f) x3 x4 σ)) else none))
set_option maxRecDepth 100000 in
set_option maxHeartbeats 4000000 in
theorem tX6_advance_c102 {p : Program} {l : Launch} {e : Env} {s : State} {m : MethodId} {args : Array Value} {below : List Frame} {meth : Method} {c : Code} {z0 : Nat} {g : qG} {w : qWd} {ad : Nat → Nat} {p0 ap0 : Nat} {p1 ap1 : Nat} (cx : qCx p s m meth c cX6_advance 8 RX6 none g z0) (hM : qBM g ad w) (hp0 : w p0 = some (ap0, qAI (g.2 0) 96)) (hp1 : w p1 = some (ap1, qAI (g.2 0) 96)) {k93 : Int → qSt → Option (Int × qSt)} (hk93 : ∀ (x3 : Int) (σ : qSt), qS p l e qrm1 s m args below meth c 8 g z0 w 0 0 (qQ below g z0 w qrv args s 0 0) (k93 x3 σ) σ 93 [(0, some (.ref (ad 47))), (1, some (.ref ap0)), (2, some (.ref ap1)), (3, some (.int (qI x3)))] []) : ∀ (f : Nat) (x3 : Int) (x4 : Int) (σ : qSt), qS p l e qrm1 s m args below meth c 8 g z0 w 0 0 (qQ below g z0 w qrv args s 0 0) (fX6_advance_c102 p0 p1 k93 f x3 x4 σ) σ 102 [(0, some (.ref (ad 47))), (1, some (.ref ap0)), (2, some (.ref ap1)), (3, some (.int (qI x3))), (4, some (.int (qI x4)))] [] := by
  intro f
  induction f with
  | zero => exact fun _ _ _ => qS.fail
  | succ f ih =>
    intro x3 x4 σ
    unfold fX6_advance_c102
    refine r_iload (pc := 102) cx dX6_advance_102 rfl ?_
    refine r_iconst (pc := 104) cx dX6_advance_104 ?_
    refine r_icmp_ge (tgt := 215) cx dX6_advance_105 (by decide) ?_ ?_
    · refine r_iinc (pc := 215) cx dX6_advance_215 rfl (by decide) rfl ?_
      refine r_goto (pc := 218) (tgt := 93) cx dX6_advance_218 (by decide) ?_
      exact qS.sub (qsub_cons rfl (qsub_cons rfl (qsub_cons rfl (qsub_cons rfl (qsub_nil _))))) (hk93 _ _)
    · refine r_aload_n (pc := 108) cx dX6_advance_108 rfl ?_
      refine r_iload_n (pc := 109) cx dX6_advance_109 rfl ?_
      refine r_iaload (pc := 110) cx hp0 rfl (by decide) dX6_advance_110 ?_
      refine r_iload (pc := 111) cx dX6_advance_111 rfl ?_
      refine r_ishr (pc := 113) cx dX6_advance_113 ?_
      refine r_iconst (pc := 114) cx dX6_advance_114 ?_
      refine r_iand (pc := 115) cx dX6_advance_115 ?_
      refine r_iconst (pc := 116) cx dX6_advance_116 ?_
      refine r_icmp_ne (tgt := 209) cx dX6_advance_117 (by decide) ?_ ?_
      · exact qS.sub (qsub_cons rfl (qsub_cons rfl (qsub_cons rfl (qsub_cons rfl (qsub_cons rfl (qsub_nil _)))))) (tX6_advance_c209 cx hM hp0 hp1 hk93 ih _ _ _)
      · refine r_iload_n (pc := 120) cx dX6_advance_120 rfl ?_
        refine r_iload (pc := 121) cx dX6_advance_121 rfl ?_
        refine r_pSi (pc := 123) cx (tX6_beside  x3 x4 σ) qm_X6_beside qs_X6_beside wm_X6_109 dX6_advance_123 rfl rfl (Nat.le_of_ble_eq_true rfl) ⟨Nat.le_of_ble_eq_true rfl, Nat.le_of_ble_eq_true rfl⟩ ⟨rfl, rfl⟩ ⟨Nat.zero_le _, Nat.zero_le _⟩ (fun r123 => ?_)
        refine r_istore (pc := 126) cx dX6_advance_126 (by decide) rfl ?_
        refine r_aload_n (pc := 128) cx dX6_advance_128 rfl ?_
        refine r_iload (pc := 129) cx dX6_advance_129 rfl ?_
        refine r_pVi (pc := 131) cx (tX6_blocks hM r123 σ) qm_X6_blocks qv_X6_blocks hcl_X6 (lw47 hM) wm_X6_113 dX6_advance_131 rfl rfl (Nat.le_of_ble_eq_true rfl) ⟨Nat.le_of_ble_eq_true rfl, Nat.le_of_ble_eq_true rfl⟩ ⟨rfl, rfl⟩ ⟨Nat.zero_le _, Nat.zero_le _⟩ (fun r131 => ?_)
        refine r_if_eq (tgt := 141) cx dX6_advance_134 (by decide) ?_ ?_
        · refine r_iload (pc := 141) cx dX6_advance_141 rfl ?_
          exact qS.sub (qsub_cons rfl (qsub_cons rfl (qsub_cons rfl (qsub_cons rfl (qsub_cons rfl (qsub_cons rfl (qsub_nil _))))))) (tX6_advance_c143 cx hM hp0 hp1 hk93 ih _ _ _ _ _)
        · refine r_iload_n (pc := 137) cx dX6_advance_137 rfl ?_
          refine r_goto (pc := 138) (tgt := 143) cx dX6_advance_138 (by decide) ?_
          exact qS.sub (qsub_cons rfl (qsub_cons rfl (qsub_cons rfl (qsub_cons rfl (qsub_cons rfl (qsub_cons rfl (qsub_nil _))))))) (tX6_advance_c143 cx hM hp0 hp1 hk93 ih _ _ _ _ _)
def fX6_advance_c93 (p0 : Nat) (p1 : Nat) : Nat → Int → qSt → Option (Int × qSt)
  | 0, _, _ => none
  | f + 1, x3, σ => (if qI 96 ≤ qI x3 then (fX6_advance_c223 p0 p1 qFU 0 σ) else (fX6_advance_c102 p0 p1 (fX6_advance_c93 p0 p1 f) qFU x3 0 σ))
set_option maxRecDepth 100000 in
set_option maxHeartbeats 4000000 in
theorem tX6_advance_c93 {p : Program} {l : Launch} {e : Env} {s : State} {m : MethodId} {args : Array Value} {below : List Frame} {meth : Method} {c : Code} {z0 : Nat} {g : qG} {w : qWd} {ad : Nat → Nat} {p0 ap0 : Nat} {p1 ap1 : Nat} (cx : qCx p s m meth c cX6_advance 8 RX6 none g z0) (hM : qBM g ad w) (hp0 : w p0 = some (ap0, qAI (g.2 0) 96)) (hp1 : w p1 = some (ap1, qAI (g.2 0) 96)) : ∀ (f : Nat) (x3 : Int) (σ : qSt), qS p l e qrm1 s m args below meth c 8 g z0 w 0 0 (qQ below g z0 w qrv args s 0 0) (fX6_advance_c93 p0 p1 f x3 σ) σ 93 [(0, some (.ref (ad 47))), (1, some (.ref ap0)), (2, some (.ref ap1)), (3, some (.int (qI x3)))] [] := by
  intro f
  induction f with
  | zero => exact fun _ _ => qS.fail
  | succ f ih =>
    intro x3 σ
    unfold fX6_advance_c93
    refine r_iload_n (pc := 93) cx dX6_advance_93 rfl ?_
    refine r_bipush (pc := 94) (v := 96) cx dX6_advance_94 (by decide +kernel) ?_
    refine r_icmp_ge (tgt := 221) cx dX6_advance_96 (by decide) ?_ ?_
    · refine r_iconst (pc := 221) cx dX6_advance_221 ?_
      refine r_istore_n (pc := 222) cx dX6_advance_222 (by decide) rfl ?_
      exact qS.sub (qsub_cons rfl (qsub_cons rfl (qsub_cons rfl (qsub_cons rfl (qsub_nil _))))) (tX6_advance_c223 cx hM hp0 hp1 _ _ _)
    · refine r_iconst (pc := 99) cx dX6_advance_99 ?_
      refine r_istore (pc := 100) cx dX6_advance_100 (by decide) rfl ?_
      exact qS.sub (qsub_cons rfl (qsub_cons rfl (qsub_cons rfl (qsub_cons rfl (qsub_cons rfl (qsub_nil _)))))) (tX6_advance_c102 cx hM hp0 hp1 ih _ _ _ _)
def fX6_advance_c71 (p0 : Nat) (p1 : Nat) (k28 : Int → qSt → Option (Int × qSt)) (x3 : Int) (σ : qSt) : Option (Int × qSt) :=
  (if 0 ≤ x3 ∧ x3 < 96 then (qb (qset σ 52 x3 0) fun (σ6 : qSt) => (if 0 ≤ x3 ∧ x3 < 96 then (qb (qset σ6 53 x3 0) fun (σ7 : qSt) => (k28 (x3 + 1) σ7)) else none)) else none)
set_option maxRecDepth 100000 in
set_option maxHeartbeats 4000000 in
theorem tX6_advance_c71 {p : Program} {l : Launch} {e : Env} {s : State} {m : MethodId} {args : Array Value} {below : List Frame} {meth : Method} {c : Code} {z0 : Nat} {g : qG} {w : qWd} {ad : Nat → Nat} {p0 ap0 : Nat} {p1 ap1 : Nat} (cx : qCx p s m meth c cX6_advance 8 RX6 none g z0) (hM : qBM g ad w) (hp0 : w p0 = some (ap0, qAI (g.2 0) 96)) (hp1 : w p1 = some (ap1, qAI (g.2 0) 96)) {k28 : Int → qSt → Option (Int × qSt)} (hk28 : ∀ (x3 : Int) (σ : qSt), qS p l e qrm1 s m args below meth c 8 g z0 w 0 0 (qQ below g z0 w qrv args s 0 0) (k28 x3 σ) σ 28 [(0, some (.ref (ad 47))), (1, some (.ref ap0)), (2, some (.ref ap1)), (3, some (.int (qI x3)))] []) (x3 : Int) (σ : qSt) : qS p l e qrm1 s m args below meth c 8 g z0 w 0 0 (qQ below g z0 w qrv args s 0 0) (fX6_advance_c71 p0 p1 k28 x3 σ) σ 71 [(0, some (.ref (ad 47))), (1, some (.ref ap0)), (2, some (.ref ap1)), (3, some (.int (qI x3)))] [] := by
  unfold fX6_advance_c71
  refine r_aload_n (pc := 71) cx dX6_advance_71 rfl ?_
  refine r_get (pc := 72) cx hcl_X6 qc_X6 (lw47 hM) (j := 5) (by decide) wf_X6_22 dX6_advance_72 (x := .ref (ad 52)) rfl ?_
  refine r_iload_n (pc := 75) cx dX6_advance_75 rfl ?_
  refine r_iconst (pc := 76) cx dX6_advance_76 ?_
  refine r_iastore (pc := 77) cx (lw52 hM) rfl (by decide) dX6_advance_77 (fun σ6 => ?_)
  refine r_aload_n (pc := 78) cx dX6_advance_78 rfl ?_
  refine r_get (pc := 79) cx hcl_X6 qc_X6 (lw47 hM) (j := 6) (by decide) wf_X6_25 dX6_advance_79 (x := .ref (ad 53)) rfl ?_
  refine r_iload_n (pc := 82) cx dX6_advance_82 rfl ?_
  refine r_iconst (pc := 83) cx dX6_advance_83 ?_
  refine r_iastore (pc := 84) cx (lw53 hM) rfl (by decide) dX6_advance_84 (fun σ7 => ?_)
  refine r_iinc (pc := 85) cx dX6_advance_85 rfl (by decide) rfl ?_
  refine r_goto (pc := 88) (tgt := 28) cx dX6_advance_88 (by decide) ?_
  exact qS.sub (qsub_cons rfl (qsub_cons rfl (qsub_cons rfl (qsub_cons rfl (qsub_nil _))))) (hk28 _ _)
def fX6_advance_c28 (p0 : Nat) (p1 : Nat) : Nat → Int → qSt → Option (Int × qSt)
  | 0, _, _ => none
  | f + 1, x3, σ => (if qI 96 ≤ qI x3 then (fX6_advance_c93 p0 p1 qFU 0 σ) else (if 0 ≤ x3 ∧ x3 < 96 then ((fX6_meets σ (σ p0 x3)).bind fun (r37 : Int) => (if qI r37 = 0 then (fX6_advance_c71 p0 p1 (fX6_advance_c28 p0 p1 f) x3 σ) else (if 0 ≤ x3 ∧ x3 < 96 then ((fX6_turned σ (σ p0 x3)).bind fun (r48 : Int) => (if 0 ≤ x3 ∧ x3 < 96 then (qb (qset σ p0 x3 r48) fun (σ3 : qSt) => (if 0 ≤ x3 ∧ x3 < 96 then ((fX6_turned σ3 (σ3 p1 x3)).bind fun (r57 : Int) => (if 0 ≤ x3 ∧ x3 < 96 then (qb (qset σ3 p1 x3 r57) fun (σ4 : qSt) => (qb (qset σ4 47 14 ((σ4 47 14) + 1)) fun (σ5 : qSt) => (fX6_advance_c71 p0 p1 (fX6_advance_c28 p0 p1 f) x3 σ5))) else none)) else none)) else none)) else none))) else none))
set_option maxRecDepth 100000 in
set_option maxHeartbeats 4000000 in
theorem tX6_advance_c28 {p : Program} {l : Launch} {e : Env} {s : State} {m : MethodId} {args : Array Value} {below : List Frame} {meth : Method} {c : Code} {z0 : Nat} {g : qG} {w : qWd} {ad : Nat → Nat} {p0 ap0 : Nat} {p1 ap1 : Nat} (cx : qCx p s m meth c cX6_advance 8 RX6 none g z0) (hM : qBM g ad w) (hp0 : w p0 = some (ap0, qAI (g.2 0) 96)) (hp1 : w p1 = some (ap1, qAI (g.2 0) 96)) : ∀ (f : Nat) (x3 : Int) (σ : qSt), qS p l e qrm1 s m args below meth c 8 g z0 w 0 0 (qQ below g z0 w qrv args s 0 0) (fX6_advance_c28 p0 p1 f x3 σ) σ 28 [(0, some (.ref (ad 47))), (1, some (.ref ap0)), (2, some (.ref ap1)), (3, some (.int (qI x3)))] [] := by
  intro f
  induction f with
  | zero => exact fun _ _ => qS.fail
  | succ f ih =>
    intro x3 σ
    unfold fX6_advance_c28
    refine r_iload_n (pc := 28) cx dX6_advance_28 rfl ?_
    refine r_bipush (pc := 29) (v := 96) cx dX6_advance_29 (by decide +kernel) ?_
    refine r_icmp_ge (tgt := 91) cx dX6_advance_31 (by decide) ?_ ?_
    · refine r_iconst (pc := 91) cx dX6_advance_91 ?_
      refine r_istore_n (pc := 92) cx dX6_advance_92 (by decide) rfl ?_
      exact qS.sub (qsub_cons rfl (qsub_cons rfl (qsub_cons rfl (qsub_cons rfl (qsub_nil _))))) (tX6_advance_c93 cx hM hp0 hp1 _ _ _)
    · refine r_aload_n (pc := 34) cx dX6_advance_34 rfl ?_
      refine r_iload_n (pc := 35) cx dX6_advance_35 rfl ?_
      refine r_iaload (pc := 36) cx hp0 rfl (by decide) dX6_advance_36 ?_
      refine r_pSi (pc := 37) cx (tX6_meets  (σ p0 x3) σ) qm_X6_meets qs_X6_meets wm_X6_103 dX6_advance_37 rfl rfl (Nat.le_of_ble_eq_true rfl) ⟨Nat.le_of_ble_eq_true rfl, Nat.le_of_ble_eq_true rfl⟩ ⟨rfl, rfl⟩ ⟨Nat.zero_le _, Nat.zero_le _⟩ (fun r37 => ?_)
      refine r_if_eq (tgt := 71) cx dX6_advance_40 (by decide) ?_ ?_
      · exact qS.sub (qsub_cons rfl (qsub_cons rfl (qsub_cons rfl (qsub_cons rfl (qsub_nil _))))) (tX6_advance_c71 cx hM hp0 hp1 ih _ _)
      · refine r_aload_n (pc := 43) cx dX6_advance_43 rfl ?_
        refine r_iload_n (pc := 44) cx dX6_advance_44 rfl ?_
        refine r_aload_n (pc := 45) cx dX6_advance_45 rfl ?_
        refine r_iload_n (pc := 46) cx dX6_advance_46 rfl ?_
        refine r_iaload (pc := 47) cx hp0 rfl (by decide) dX6_advance_47 ?_
        refine r_pSi (pc := 48) cx (tX6_turned  (σ p0 x3) σ) qm_X6_turned qs_X6_turned wm_X6_106 dX6_advance_48 rfl rfl (Nat.le_of_ble_eq_true rfl) ⟨Nat.le_of_ble_eq_true rfl, Nat.le_of_ble_eq_true rfl⟩ ⟨rfl, rfl⟩ ⟨Nat.zero_le _, Nat.zero_le _⟩ (fun r48 => ?_)
        refine r_iastore (pc := 51) cx hp0 rfl (by decide) dX6_advance_51 (fun σ3 => ?_)
        refine r_aload_n (pc := 52) cx dX6_advance_52 rfl ?_
        refine r_iload_n (pc := 53) cx dX6_advance_53 rfl ?_
        refine r_aload_n (pc := 54) cx dX6_advance_54 rfl ?_
        refine r_iload_n (pc := 55) cx dX6_advance_55 rfl ?_
        refine r_iaload (pc := 56) cx hp1 rfl (by decide) dX6_advance_56 ?_
        refine r_pSi (pc := 57) cx (tX6_turned  (σ3 p1 x3) σ3) qm_X6_turned qs_X6_turned wm_X6_106 dX6_advance_57 rfl rfl (Nat.le_of_ble_eq_true rfl) ⟨Nat.le_of_ble_eq_true rfl, Nat.le_of_ble_eq_true rfl⟩ ⟨rfl, rfl⟩ ⟨Nat.zero_le _, Nat.zero_le _⟩ (fun r57 => ?_)
        refine r_iastore (pc := 60) cx hp1 rfl (by decide) dX6_advance_60 (fun σ4 => ?_)
        refine r_aload_n (pc := 61) cx dX6_advance_61 rfl ?_
        refine r_dup (pc := 62) cx dX6_advance_62 rfl ?_
        refine r_get (pc := 63) cx hcl_X6 qc_X6 (lw47 hM) (j := 14) (by decide) wf_X6_100 dX6_advance_63 (x := .int (qI (σ4 47 14))) rfl ?_
        refine r_iconst (pc := 66) cx dX6_advance_66 ?_
        refine r_iadd (pc := 67) cx dX6_advance_67 ?_
        refine r_puti (pc := 68) (J := 14) cx hcl_X6 qc_X6 (lw47 hM) (j := 14) (by decide) tyX6_ok nmX6 wf_X6_100 rfl (by decide +kernel) rfl (Nat.le_of_ble_eq_true rfl) (fun r => rfl) dX6_advance_68 (fun σ5 => ?_)
        exact qS.sub (qsub_cons rfl (qsub_cons rfl (qsub_cons rfl (qsub_cons rfl (qsub_nil _))))) (tX6_advance_c71 cx hM hp0 hp1 ih _ _)
def fX6_advance_c7 (p0 : Nat) (p1 : Nat) : Nat → Int → qSt → Option (Int × qSt)
  | 0, _, _ => none
  | f + 1, x3, σ => (if qI 12 ≤ qI x3 then (fX6_advance_c28 p0 p1 qFU 0 σ) else (if 0 ≤ x3 ∧ x3 < 12 then (qb (qset σ 60 x3 0) fun (σ2 : qSt) => (fX6_advance_c7 p0 p1 f (x3 + 1) σ2)) else none))
set_option maxRecDepth 100000 in
set_option maxHeartbeats 4000000 in
theorem tX6_advance_c7 {p : Program} {l : Launch} {e : Env} {s : State} {m : MethodId} {args : Array Value} {below : List Frame} {meth : Method} {c : Code} {z0 : Nat} {g : qG} {w : qWd} {ad : Nat → Nat} {p0 ap0 : Nat} {p1 ap1 : Nat} (cx : qCx p s m meth c cX6_advance 8 RX6 none g z0) (hM : qBM g ad w) (hp0 : w p0 = some (ap0, qAI (g.2 0) 96)) (hp1 : w p1 = some (ap1, qAI (g.2 0) 96)) : ∀ (f : Nat) (x3 : Int) (σ : qSt), qS p l e qrm1 s m args below meth c 8 g z0 w 0 0 (qQ below g z0 w qrv args s 0 0) (fX6_advance_c7 p0 p1 f x3 σ) σ 7 [(0, some (.ref (ad 47))), (1, some (.ref ap0)), (2, some (.ref ap1)), (3, some (.int (qI x3)))] [] := by
  intro f
  induction f with
  | zero => exact fun _ _ => qS.fail
  | succ f ih =>
    intro x3 σ
    unfold fX6_advance_c7
    refine r_iload_n (pc := 7) cx dX6_advance_7 rfl ?_
    refine r_bipush (pc := 8) (v := 12) cx dX6_advance_8 (by decide +kernel) ?_
    refine r_icmp_ge (tgt := 26) cx dX6_advance_10 (by decide) ?_ ?_
    · refine r_iconst (pc := 26) cx dX6_advance_26 ?_
      refine r_istore_n (pc := 27) cx dX6_advance_27 (by decide) rfl ?_
      exact qS.sub (qsub_cons rfl (qsub_cons rfl (qsub_cons rfl (qsub_cons rfl (qsub_nil _))))) (tX6_advance_c28 cx hM hp0 hp1 _ _ _)
    · refine r_aload_n (pc := 13) cx dX6_advance_13 rfl ?_
      refine r_get (pc := 14) cx hcl_X6 qc_X6 (lw47 hM) (j := 13) (by decide) wf_X6_46 dX6_advance_14 (x := .ref (ad 60)) rfl ?_
      refine r_iload_n (pc := 17) cx dX6_advance_17 rfl ?_
      refine r_iconst (pc := 18) cx dX6_advance_18 ?_
      refine r_iastore (pc := 19) cx (lw60 hM) rfl (by decide) dX6_advance_19 (fun σ2 => ?_)
      refine r_iinc (pc := 20) cx dX6_advance_20 rfl (by decide) rfl ?_
      refine r_goto (pc := 23) (tgt := 7) cx dX6_advance_23 (by decide) ?_
      exact qS.sub (qsub_cons rfl (qsub_cons rfl (qsub_cons rfl (qsub_cons rfl (qsub_nil _))))) (ih _ _)
def fX6_advance (p0 : Nat) (p1 : Nat) (σ : qSt) : Option (Int × qSt) :=
  (qb (qset σ 47 14 0) fun (σ1 : qSt) => (fX6_advance_c7 p0 p1 qFU 0 σ1))
set_option maxRecDepth 100000 in
set_option maxHeartbeats 4000000 in
theorem tX6_advance {l : Launch} {z0 : Nat} {g : qG} {w : qWd} {ad : Nat → Nat} {p0 ap0 : Nat} {p1 ap1 : Nat} (hM : qBM g ad w) (hp0 : w p0 = some (ap0, qAI (g.2 0) 96)) (hp1 : w p1 = some (ap1, qAI (g.2 0) 96)) (σ : qSt) : qCT l yX6_advance cX6_advance 8 none qrm1 g z0 w [.ref (ad 47), .ref ap0, .ref ap1] σ (fX6_advance p0 p1 σ) qrv := by
  refine qCT.of [(0, some (.ref (ad 47))), (1, some (.ref ap0)), (2, some (.ref ap1))] (by decide +kernel) (Nat.le_of_ble_eq_true rfl) rfl ?_
  intro p e s m args below meth c cx
  unfold fX6_advance
  refine r_aload_n (pc := 0) cx dX6_advance_0 rfl ?_
  refine r_iconst (pc := 1) cx dX6_advance_1 ?_
  refine r_puti (pc := 2) (J := 14) cx hcl_X6 qc_X6 (lw47 hM) (j := 14) (by decide) tyX6_ok nmX6 wf_X6_100 rfl (by decide +kernel) rfl (Nat.le_of_ble_eq_true rfl) (fun r => rfl) dX6_advance_2 (fun σ1 => ?_)
  refine r_iconst (pc := 5) cx dX6_advance_5 ?_
  refine r_istore_n (pc := 6) cx dX6_advance_6 (by decide) rfl ?_
  exact qS.sub (qsub_cons rfl (qsub_cons rfl (qsub_cons rfl (qsub_cons rfl (qsub_nil _))))) (tX6_advance_c7 cx hM hp0 hp1 _ _ _)
def fX6_hasOpen_c39 (σ : qSt) (k4 : Int → Int → Option Int) (x2 : Int) (s0 : Int) : Option Int :=
  (k4 s0 (x2 + 1))
set_option maxRecDepth 100000 in
set_option maxHeartbeats 4000000 in
theorem tX6_hasOpen_c39 {p : Program} {l : Launch} {e : Env} {s : State} {m : MethodId} {args : Array Value} {below : List Frame} {meth : Method} {c : Code} {z0 : Nat} {g : qG} {w : qWd} {ad : Nat → Nat} {σ : qSt} (cx : qCx p s m meth c cX6_hasOpen 3 RX6 (some .boolean) g z0) (hM : qBM g ad w) {k4 : Int → Int → Option Int} (hk4 : ∀ (x1 : Int) (x2 : Int), qS p l e qrm0 s m args below meth c 3 g z0 w 0 0 (fun r => qQ below g z0 w qri args s 0 0 (r, σ)) (k4 x1 x2) σ 4 [(0, some (.ref (ad 47))), (1, some (.int (qI x1))), (2, some (.int (qI x2)))] []) (x2 : Int) (s0 : Int) : qS p l e qrm0 s m args below meth c 3 g z0 w 0 0 (fun r => qQ below g z0 w qri args s 0 0 (r, σ)) (fX6_hasOpen_c39 σ k4 x2 s0) σ 39 [(0, some (.ref (ad 47))), (2, some (.int (qI x2)))] [.int (qI s0)] := by
  unfold fX6_hasOpen_c39
  refine r_istore_n (pc := 39) cx dX6_hasOpen_39 (by decide) rfl ?_
  refine r_iinc (pc := 40) cx dX6_hasOpen_40 rfl (by decide) rfl ?_
  refine r_goto (pc := 43) (tgt := 4) cx dX6_hasOpen_43 (by decide) ?_
  exact qS.sub (qsub_cons rfl (qsub_cons rfl (qsub_cons rfl (qsub_nil _)))) (hk4 _ _)
def fX6_hasOpen_c34 (σ : qSt) (k4 : Int → Int → Option Int) (x2 : Int) : Option Int :=
  (fX6_hasOpen_c39 σ k4 x2 1)
set_option maxRecDepth 100000 in
set_option maxHeartbeats 4000000 in
theorem tX6_hasOpen_c34 {p : Program} {l : Launch} {e : Env} {s : State} {m : MethodId} {args : Array Value} {below : List Frame} {meth : Method} {c : Code} {z0 : Nat} {g : qG} {w : qWd} {ad : Nat → Nat} {σ : qSt} (cx : qCx p s m meth c cX6_hasOpen 3 RX6 (some .boolean) g z0) (hM : qBM g ad w) {k4 : Int → Int → Option Int} (hk4 : ∀ (x1 : Int) (x2 : Int), qS p l e qrm0 s m args below meth c 3 g z0 w 0 0 (fun r => qQ below g z0 w qri args s 0 0 (r, σ)) (k4 x1 x2) σ 4 [(0, some (.ref (ad 47))), (1, some (.int (qI x1))), (2, some (.int (qI x2)))] []) (x2 : Int) : qS p l e qrm0 s m args below meth c 3 g z0 w 0 0 (fun r => qQ below g z0 w qri args s 0 0 (r, σ)) (fX6_hasOpen_c34 σ k4 x2) σ 34 [(0, some (.ref (ad 47))), (2, some (.int (qI x2)))] [] := by
  unfold fX6_hasOpen_c34
  refine r_iconst (pc := 34) cx dX6_hasOpen_34 ?_
  refine r_goto (pc := 35) (tgt := 39) cx dX6_hasOpen_35 (by decide) ?_
  exact qS.sub (qsub_cons rfl (qsub_cons rfl (qsub_nil _))) (tX6_hasOpen_c39 cx hM hk4 _ _)
def fX6_hasOpen_c4 (σ : qSt) : Nat → Int → Int → Option Int
  | 0, _, _ => none
  | f + 1, x1, x2 => (if qI 96 ≤ qI x2 then (if x1 = 0 ∨ x1 = 1 then (some x1) else none) else (if qI x1 = 0 then (if 0 ≤ x2 ∧ x2 < 96 then (if qI (σ 48 x2) = qI 2 then (fX6_hasOpen_c34 σ (fX6_hasOpen_c4 σ f) x2) else (if 0 ≤ x2 ∧ x2 < 96 then (if qI (σ 48 x2) = qI 3 then (fX6_hasOpen_c34 σ (fX6_hasOpen_c4 σ f) x2) else (fX6_hasOpen_c39 σ (fX6_hasOpen_c4 σ f) x2 0)) else none)) else none) else (fX6_hasOpen_c34 σ (fX6_hasOpen_c4 σ f) x2)))
set_option maxRecDepth 100000 in
set_option maxHeartbeats 4000000 in
theorem tX6_hasOpen_c4 {p : Program} {l : Launch} {e : Env} {s : State} {m : MethodId} {args : Array Value} {below : List Frame} {meth : Method} {c : Code} {z0 : Nat} {g : qG} {w : qWd} {ad : Nat → Nat} {σ : qSt} (cx : qCx p s m meth c cX6_hasOpen 3 RX6 (some .boolean) g z0) (hM : qBM g ad w) : ∀ (f : Nat) (x1 : Int) (x2 : Int), qS p l e qrm0 s m args below meth c 3 g z0 w 0 0 (fun r => qQ below g z0 w qri args s 0 0 (r, σ)) (fX6_hasOpen_c4 σ f x1 x2) σ 4 [(0, some (.ref (ad 47))), (1, some (.int (qI x1))), (2, some (.int (qI x2)))] [] := by
  intro f
  induction f with
  | zero => exact fun _ _ => qS.fail
  | succ f ih =>
    intro x1 x2
    unfold fX6_hasOpen_c4
    refine r_iload_n (pc := 4) cx dX6_hasOpen_4 rfl ?_
    refine r_bipush (pc := 5) (v := 96) cx dX6_hasOpen_5 (by decide +kernel) ?_
    refine r_icmp_ge (tgt := 46) cx dX6_hasOpen_7 (by decide) ?_ ?_
    · refine r_iload_n (pc := 46) cx dX6_hasOpen_46 rfl ?_
      refine qS.ite (fun hz => ?_) (fun _ => qS.fail)
      exact r_zreturn (w0 := w) (fun _ _ h => h) (Nat.zero_le _) (Nat.zero_le _) cx (by rcases hz with hz | hz <;> rw [hz] <;> rfl) dX6_hasOpen_47 rfl
    · refine r_iload_n (pc := 10) cx dX6_hasOpen_10 rfl ?_
      refine r_if_ne (tgt := 34) cx dX6_hasOpen_11 (by decide) ?_ ?_
      · exact qS.sub (qsub_cons rfl (qsub_cons rfl (qsub_nil _))) (tX6_hasOpen_c34 cx hM ih _)
      · refine r_aload_n (pc := 14) cx dX6_hasOpen_14 rfl ?_
        refine r_get (pc := 15) cx hcl_X6 qc_X6 (lw47 hM) (j := 1) (by decide) wf_X6_7 dX6_hasOpen_15 (x := .ref (ad 48)) rfl ?_
        refine r_iload_n (pc := 18) cx dX6_hasOpen_18 rfl ?_
        refine r_iaload (pc := 19) cx (lw48 hM) rfl (by decide) dX6_hasOpen_19 ?_
        refine r_iconst (pc := 20) cx dX6_hasOpen_20 ?_
        refine r_icmp_eq (tgt := 34) cx dX6_hasOpen_21 (by decide) ?_ ?_
        · exact qS.sub (qsub_cons rfl (qsub_cons rfl (qsub_nil _))) (tX6_hasOpen_c34 cx hM ih _)
        · refine r_aload_n (pc := 24) cx dX6_hasOpen_24 rfl ?_
          refine r_get (pc := 25) cx hcl_X6 qc_X6 (lw47 hM) (j := 1) (by decide) wf_X6_7 dX6_hasOpen_25 (x := .ref (ad 48)) rfl ?_
          refine r_iload_n (pc := 28) cx dX6_hasOpen_28 rfl ?_
          refine r_iaload (pc := 29) cx (lw48 hM) rfl (by decide) dX6_hasOpen_29 ?_
          refine r_iconst (pc := 30) cx dX6_hasOpen_30 ?_
          refine r_icmp_ne (tgt := 38) cx dX6_hasOpen_31 (by decide) ?_ ?_
          · refine r_iconst (pc := 38) cx dX6_hasOpen_38 ?_
            exact qS.sub (qsub_cons rfl (qsub_cons rfl (qsub_nil _))) (tX6_hasOpen_c39 cx hM ih _ _)
          · exact qS.sub (qsub_cons rfl (qsub_cons rfl (qsub_nil _))) (tX6_hasOpen_c34 cx hM ih _)
def fX6_hasOpen (σ : qSt) : Option Int :=
  (fX6_hasOpen_c4 σ qFU 0 0)
set_option maxRecDepth 100000 in
set_option maxHeartbeats 4000000 in
theorem tX6_hasOpen {l : Launch} {z0 : Nat} {g : qG} {w : qWd} {ad : Nat → Nat} (hM : qBM g ad w) (σ : qSt) : qCT l yX6_hasOpen cX6_hasOpen 3 (some .boolean) qrm0 g z0 w [.ref (ad 47)] σ (qlift (fX6_hasOpen σ) σ) qri := by
  refine qCTp.of [(0, some (.ref (ad 47)))] (by decide +kernel) (Nat.le_of_ble_eq_true rfl) rfl ?_
  intro p e s m args below meth c cx
  unfold fX6_hasOpen
  refine r_iconst (pc := 0) cx dX6_hasOpen_0 ?_
  refine r_istore_n (pc := 1) cx dX6_hasOpen_1 (by decide) rfl ?_
  refine r_iconst (pc := 2) cx dX6_hasOpen_2 ?_
  refine r_istore_n (pc := 3) cx dX6_hasOpen_3 (by decide) rfl ?_
  exact qS.sub (qsub_cons rfl (qsub_cons rfl (qsub_cons rfl (qsub_nil _)))) (tX6_hasOpen_c4 cx hM _ _ _)
def fX6_step_c143 (k48 : Int → Int → Int → qSt → Option (Int × qSt)) : Nat → Int → Int → Int → Int → qSt → Option (Int × qSt)
  | 0, _, _, _, _, _ => none
  | f + 1, x1, x2, x3, x4, σ => (if qI (σ 47 19) ≤ qI x4 then (k48 x1 x2 (x3 + 1) σ) else (if 0 ≤ x4 ∧ x4 < 4 then (if 0 ≤ (σ 61 x4) ∧ (σ 61 x4) < 96 then (qb (σ 50 (σ 61 x4)) fun (y7 : Int) => (if 0 ≤ x4 ∧ x4 < 4 then (if 0 ≤ ((5000 * x4) + (σ 62 x4)) ∧ ((5000 * x4) + (σ 62 x4)) < 20000 then (qb (qset σ 63 ((5000 * x4) + (σ 62 x4)) ((qand (qshr y7 1) 1) - (qand (qshr y7 3) 1))) fun (σ8 : qSt) => (if 0 ≤ x4 ∧ x4 < 4 then (if 0 ≤ x4 ∧ x4 < 4 then (qb (qset σ8 62 x4 ((σ8 62 x4) + 1)) fun (σ9 : qSt) => (fX6_step_c143 k48 f x1 x2 x3 (x4 + 1) σ9)) else none) else none)) else none) else none)) else none) else none))
set_option maxRecDepth 100000 in
set_option maxHeartbeats 4000000 in
theorem tX6_step_c143 {p : Program} {l : Launch} {e : Env} {s : State} {m : MethodId} {args : Array Value} {below : List Frame} {meth : Method} {c : Code} {z0 : Nat} {g : qG} {w : qWd} {ad : Nat → Nat} (cx : qCx p s m meth c cX6_step 6 RX6 (some .int) g z0) (hM : qBM g ad w) {k48 : Int → Int → Int → qSt → Option (Int × qSt)} (hk48 : ∀ (x1 : Int) (x2 : Int) (x3 : Int) (σ : qSt), qS p l e qrm2 s m args below meth c 6 g z0 w 0 0 (qQ below g z0 w qri args s 0 0) (k48 x1 x2 x3 σ) σ 48 [(0, some (.ref (ad 47))), (1, some (.int (qI x1))), (2, some (.int (qI x2))), (3, some (.int (qI x3)))] []) : ∀ (f : Nat) (x1 : Int) (x2 : Int) (x3 : Int) (x4 : Int) (σ : qSt), qS p l e qrm2 s m args below meth c 6 g z0 w 0 0 (qQ below g z0 w qri args s 0 0) (fX6_step_c143 k48 f x1 x2 x3 x4 σ) σ 143 [(0, some (.ref (ad 47))), (1, some (.int (qI x1))), (2, some (.int (qI x2))), (3, some (.int (qI x3))), (4, some (.int (qI x4)))] [] := by
  intro f
  induction f with
  | zero => exact fun _ _ _ _ _ => qS.fail
  | succ f ih =>
    intro x1 x2 x3 x4 σ
    unfold fX6_step_c143
    refine r_iload (pc := 143) cx dX6_step_143 rfl ?_
    refine r_aload_n (pc := 145) cx dX6_step_145 rfl ?_
    refine r_get (pc := 146) cx hcl_X6 qc_X6 (lw47 hM) (j := 19) (by decide) wf_X6_66 dX6_step_146 (x := .int (qI (σ 47 19))) rfl ?_
    refine r_icmp_ge (tgt := 215) cx dX6_step_149 (by decide) ?_ ?_
    · refine r_iinc (pc := 215) cx dX6_step_215 rfl (by decide) rfl ?_
      refine r_goto (pc := 218) (tgt := 48) cx dX6_step_218 (by decide) ?_
      exact qS.sub (qsub_cons rfl (qsub_cons rfl (qsub_cons rfl (qsub_cons rfl (qsub_nil _))))) (hk48 _ _ _ _)
    · refine r_aload_n (pc := 152) cx dX6_step_152 rfl ?_
      refine r_get (pc := 153) cx hcl_X6 qc_X6 (lw47 hM) (j := 3) (by decide) wf_X6_16 dX6_step_153 (x := .ref (ad 50)) rfl ?_
      refine r_aload_n (pc := 156) cx dX6_step_156 rfl ?_
      refine r_get (pc := 157) cx hcl_X6 qc_X6 (lw47 hM) (j := 20) (by decide) wf_X6_49 dX6_step_157 (x := .ref (ad 61)) rfl ?_
      refine r_iload (pc := 160) cx dX6_step_160 rfl ?_
      refine r_iaload (pc := 162) cx (lw61 hM) rfl (by decide) dX6_step_162 ?_
      refine r_iaload (pc := 163) cx (lw50 hM) rfl (by decide) dX6_step_163 ?_
      refine r_nmi (fun y7 => ?_)
      refine r_istore (pc := 164) cx dX6_step_164 (by decide) rfl ?_
      refine r_aload_n (pc := 166) cx dX6_step_166 rfl ?_
      refine r_get (pc := 167) cx hcl_X6 qc_X6 (lw47 hM) (j := 22) (by decide) wf_X6_55 dX6_step_167 (x := .ref (ad 63)) rfl ?_
      refine r_sipush (pc := 170) (v := 5000) cx dX6_step_170 (by decide +kernel) ?_
      refine r_iload (pc := 173) cx dX6_step_173 rfl ?_
      refine r_imul (pc := 175) cx dX6_step_175 ?_
      refine r_aload_n (pc := 176) cx dX6_step_176 rfl ?_
      refine r_get (pc := 177) cx hcl_X6 qc_X6 (lw47 hM) (j := 21) (by decide) wf_X6_52 dX6_step_177 (x := .ref (ad 62)) rfl ?_
      refine r_iload (pc := 180) cx dX6_step_180 rfl ?_
      refine r_iaload (pc := 182) cx (lw62 hM) rfl (by decide) dX6_step_182 ?_
      refine r_iadd (pc := 183) cx dX6_step_183 ?_
      refine r_iload (pc := 184) cx dX6_step_184 rfl ?_
      refine r_iconst (pc := 186) cx dX6_step_186 ?_
      refine r_ishr (pc := 187) cx dX6_step_187 ?_
      refine r_iconst (pc := 188) cx dX6_step_188 ?_
      refine r_iand (pc := 189) cx dX6_step_189 ?_
      refine r_iload (pc := 190) cx dX6_step_190 rfl ?_
      refine r_iconst (pc := 192) cx dX6_step_192 ?_
      refine r_ishr (pc := 193) cx dX6_step_193 ?_
      refine r_iconst (pc := 194) cx dX6_step_194 ?_
      refine r_iand (pc := 195) cx dX6_step_195 ?_
      refine r_isub (pc := 196) cx dX6_step_196 ?_
      refine r_iastore (pc := 197) cx (lw63 hM) rfl (by decide) dX6_step_197 (fun σ8 => ?_)
      refine r_aload_n (pc := 198) cx dX6_step_198 rfl ?_
      refine r_get (pc := 199) cx hcl_X6 qc_X6 (lw47 hM) (j := 21) (by decide) wf_X6_52 dX6_step_199 (x := .ref (ad 62)) rfl ?_
      refine r_iload (pc := 202) cx dX6_step_202 rfl ?_
      refine r_dup2 (pc := 204) cx dX6_step_204 rfl rfl ?_
      refine r_iaload (pc := 205) cx (lw62 hM) rfl (by decide) dX6_step_205 ?_
      refine r_iconst (pc := 206) cx dX6_step_206 ?_
      refine r_iadd (pc := 207) cx dX6_step_207 ?_
      refine r_iastore (pc := 208) cx (lw62 hM) rfl (by decide) dX6_step_208 (fun σ9 => ?_)
      refine r_iinc (pc := 209) cx dX6_step_209 rfl (by decide) rfl ?_
      refine r_goto (pc := 212) (tgt := 143) cx dX6_step_212 (by decide) ?_
      exact qS.sub (qsub_cons rfl (qsub_cons rfl (qsub_cons rfl (qsub_cons rfl (qsub_cons rfl (qsub_nil _)))))) (ih _ _ _ _ _)
def fX6_step_c137 (k48 : Int → Int → Int → qSt → Option (Int × qSt)) (x1 : Int) (x2 : Int) (x3 : Int) (s0 : Int) (σ : qSt) : Option (Int × qSt) :=
  (qb (qset σ 47 16 s0) fun (σ6 : qSt) => (fX6_step_c143 k48 qFU x1 x2 x3 0 σ6))
set_option maxRecDepth 100000 in
set_option maxHeartbeats 4000000 in
theorem tX6_step_c137 {p : Program} {l : Launch} {e : Env} {s : State} {m : MethodId} {args : Array Value} {below : List Frame} {meth : Method} {c : Code} {z0 : Nat} {g : qG} {w : qWd} {ad : Nat → Nat} (cx : qCx p s m meth c cX6_step 6 RX6 (some .int) g z0) (hM : qBM g ad w) {k48 : Int → Int → Int → qSt → Option (Int × qSt)} (hk48 : ∀ (x1 : Int) (x2 : Int) (x3 : Int) (σ : qSt), qS p l e qrm2 s m args below meth c 6 g z0 w 0 0 (qQ below g z0 w qri args s 0 0) (k48 x1 x2 x3 σ) σ 48 [(0, some (.ref (ad 47))), (1, some (.int (qI x1))), (2, some (.int (qI x2))), (3, some (.int (qI x3)))] []) (x1 : Int) (x2 : Int) (x3 : Int) (s0 : Int) (σ : qSt) : qS p l e qrm2 s m args below meth c 6 g z0 w 0 0 (qQ below g z0 w qri args s 0 0) (fX6_step_c137 k48 x1 x2 x3 s0 σ) σ 137 [(0, some (.ref (ad 47))), (1, some (.int (qI x1))), (2, some (.int (qI x2))), (3, some (.int (qI x3)))] [.int (qI s0), .ref (ad 47)] := by
  unfold fX6_step_c137
  refine r_puti (pc := 137) (J := 16) cx hcl_X6 qc_X6 (lw47 hM) (j := 16) (by decide) tyX6_ok nmX6 wf_X6_87 rfl (by decide +kernel) rfl (Nat.le_of_ble_eq_true rfl) (fun r => rfl) dX6_step_137 (fun σ6 => ?_)
  refine r_iconst (pc := 140) cx dX6_step_140 ?_
  refine r_istore (pc := 141) cx dX6_step_141 (by decide) rfl ?_
  exact qS.sub (qsub_cons rfl (qsub_cons rfl (qsub_cons rfl (qsub_cons rfl (qsub_cons rfl (qsub_nil _)))))) (tX6_step_c143 cx hM hk48 _ _ _ _ _ _)
def fX6_step_c68 (k48 : Int → Int → Int → qSt → Option (Int × qSt)) : Nat → Int → Int → Int → Int → qSt → Option (Int × qSt)
  | 0, _, _, _, _, _ => none
  | f + 1, x1, x2, x3, x4, σ => (if qI 12 ≤ qI x4 then (qb (qset σ 47 17 ((σ 47 17) + (qi2l (σ 47 14)))) fun (σ3 : qSt) => (qb (qset σ3 47 15 ((σ3 47 15) + 1)) fun (σ4 : qSt) => (if qI x2 = 0 then (fX6_step_c137 k48 x1 x2 x3 ((σ4 47 16) + 1) σ4) else (fX6_step_c137 k48 x1 x2 x3 0 σ4)))) else (if 0 ≤ x4 ∧ x4 < 12 then (if 0 ≤ x4 ∧ x4 < 12 then (if 0 ≤ x4 ∧ x4 < 12 then (qb (qset σ 58 x4 ((σ 58 x4) + (σ 60 x4))) fun (σ5 : qSt) => (fX6_step_c68 k48 f x1 x2 x3 (x4 + 1) σ5)) else none) else none) else none))
set_option maxRecDepth 100000 in
set_option maxHeartbeats 4000000 in
theorem tX6_step_c68 {p : Program} {l : Launch} {e : Env} {s : State} {m : MethodId} {args : Array Value} {below : List Frame} {meth : Method} {c : Code} {z0 : Nat} {g : qG} {w : qWd} {ad : Nat → Nat} (cx : qCx p s m meth c cX6_step 6 RX6 (some .int) g z0) (hM : qBM g ad w) {k48 : Int → Int → Int → qSt → Option (Int × qSt)} (hk48 : ∀ (x1 : Int) (x2 : Int) (x3 : Int) (σ : qSt), qS p l e qrm2 s m args below meth c 6 g z0 w 0 0 (qQ below g z0 w qri args s 0 0) (k48 x1 x2 x3 σ) σ 48 [(0, some (.ref (ad 47))), (1, some (.int (qI x1))), (2, some (.int (qI x2))), (3, some (.int (qI x3)))] []) : ∀ (f : Nat) (x1 : Int) (x2 : Int) (x3 : Int) (x4 : Int) (σ : qSt), qS p l e qrm2 s m args below meth c 6 g z0 w 0 0 (qQ below g z0 w qri args s 0 0) (fX6_step_c68 k48 f x1 x2 x3 x4 σ) σ 68 [(0, some (.ref (ad 47))), (1, some (.int (qI x1))), (2, some (.int (qI x2))), (3, some (.int (qI x3))), (4, some (.int (qI x4)))] [] := by
  intro f
  induction f with
  | zero => exact fun _ _ _ _ _ => qS.fail
  | succ f ih =>
    intro x1 x2 x3 x4 σ
    unfold fX6_step_c68
    refine r_iload (pc := 68) cx dX6_step_68 rfl ?_
    refine r_bipush (pc := 70) (v := 12) cx dX6_step_70 (by decide +kernel) ?_
    refine r_icmp_ge (tgt := 98) cx dX6_step_72 (by decide) ?_ ?_
    · refine r_aload_n (pc := 98) cx dX6_step_98 rfl ?_
      refine r_dup (pc := 99) cx dX6_step_99 rfl ?_
      refine r_get (pc := 100) cx hcl_X6 qc_X6 (lw47 hM) (j := 17) (by decide) wf_X6_134 dX6_step_100 (x := .long (qJ (σ 47 17))) rfl ?_
      refine r_aload_n (pc := 103) cx dX6_step_103 rfl ?_
      refine r_get (pc := 104) cx hcl_X6 qc_X6 (lw47 hM) (j := 14) (by decide) wf_X6_100 dX6_step_104 (x := .int (qI (σ 47 14))) rfl ?_
      refine r_i2l (pc := 107) cx dX6_step_107 ?_
      refine r_ladd (pc := 108) cx dX6_step_108 ?_
      refine r_putl (pc := 109) (J := 17) cx hcl_X6 qc_X6 (lw47 hM) (j := 17) (by decide) tyX6_ok nmX6 wf_X6_134 rfl (by decide +kernel) rfl (Nat.le_of_ble_eq_true rfl) (fun r => rfl) dX6_step_109 (fun σ3 => ?_)
      refine r_aload_n (pc := 112) cx dX6_step_112 rfl ?_
      refine r_dup (pc := 113) cx dX6_step_113 rfl ?_
      refine r_get (pc := 114) cx hcl_X6 qc_X6 (lw47 hM) (j := 15) (by decide) wf_X6_123 dX6_step_114 (x := .int (qI (σ3 47 15))) rfl ?_
      refine r_iconst (pc := 117) cx dX6_step_117 ?_
      refine r_iadd (pc := 118) cx dX6_step_118 ?_
      refine r_puti (pc := 119) (J := 15) cx hcl_X6 qc_X6 (lw47 hM) (j := 15) (by decide) tyX6_ok nmX6 wf_X6_123 rfl (by decide +kernel) rfl (Nat.le_of_ble_eq_true rfl) (fun r => rfl) dX6_step_119 (fun σ4 => ?_)
      refine r_aload_n (pc := 122) cx dX6_step_122 rfl ?_
      refine r_iload_n (pc := 123) cx dX6_step_123 rfl ?_
      refine r_if_eq (tgt := 131) cx dX6_step_124 (by decide) ?_ ?_
      · refine r_aload_n (pc := 131) cx dX6_step_131 rfl ?_
        refine r_get (pc := 132) cx hcl_X6 qc_X6 (lw47 hM) (j := 16) (by decide) wf_X6_87 dX6_step_132 (x := .int (qI (σ4 47 16))) rfl ?_
        refine r_iconst (pc := 135) cx dX6_step_135 ?_
        refine r_iadd (pc := 136) cx dX6_step_136 ?_
        exact qS.sub (qsub_cons rfl (qsub_cons rfl (qsub_cons rfl (qsub_cons rfl (qsub_nil _))))) (tX6_step_c137 cx hM hk48 _ _ _ _ _)
      · refine r_iconst (pc := 127) cx dX6_step_127 ?_
        refine r_goto (pc := 128) (tgt := 137) cx dX6_step_128 (by decide) ?_
        exact qS.sub (qsub_cons rfl (qsub_cons rfl (qsub_cons rfl (qsub_cons rfl (qsub_nil _))))) (tX6_step_c137 cx hM hk48 _ _ _ _ _)
    · refine r_aload_n (pc := 75) cx dX6_step_75 rfl ?_
      refine r_get (pc := 76) cx hcl_X6 qc_X6 (lw47 hM) (j := 11) (by decide) wf_X6_40 dX6_step_76 (x := .ref (ad 58)) rfl ?_
      refine r_iload (pc := 79) cx dX6_step_79 rfl ?_
      refine r_dup2 (pc := 81) cx dX6_step_81 rfl rfl ?_
      refine r_iaload (pc := 82) cx (lw58 hM) rfl (by decide) dX6_step_82 ?_
      refine r_aload_n (pc := 83) cx dX6_step_83 rfl ?_
      refine r_get (pc := 84) cx hcl_X6 qc_X6 (lw47 hM) (j := 13) (by decide) wf_X6_46 dX6_step_84 (x := .ref (ad 60)) rfl ?_
      refine r_iload (pc := 87) cx dX6_step_87 rfl ?_
      refine r_iaload (pc := 89) cx (lw60 hM) rfl (by decide) dX6_step_89 ?_
      refine r_iadd (pc := 90) cx dX6_step_90 ?_
      refine r_iastore (pc := 91) cx (lw58 hM) rfl (by decide) dX6_step_91 (fun σ5 => ?_)
      refine r_iinc (pc := 92) cx dX6_step_92 rfl (by decide) rfl ?_
      refine r_goto (pc := 95) (tgt := 68) cx dX6_step_95 (by decide) ?_
      exact qS.sub (qsub_cons rfl (qsub_cons rfl (qsub_cons rfl (qsub_cons rfl (qsub_cons rfl (qsub_nil _)))))) (ih _ _ _ _ _)
def fX6_step_c48 : Nat → Int → Int → Int → qSt → Option (Int × qSt)
  | 0, _, _, _, _ => none
  | f + 1, x1, x2, x3, σ => (if qI x1 ≤ qI x3 then (some ((σ 47 15), σ)) else (qbd (fX6_advance 50 51 σ) fun (r62 : Int) (σ2 : qSt) => (fX6_step_c68 (fX6_step_c48 f) qFU x1 x2 x3 0 σ2)))
set_option maxRecDepth 100000 in
set_option maxHeartbeats 4000000 in
theorem tX6_step_c48 {p : Program} {l : Launch} {e : Env} {s : State} {m : MethodId} {args : Array Value} {below : List Frame} {meth : Method} {c : Code} {z0 : Nat} {g : qG} {w : qWd} {ad : Nat → Nat} (cx : qCx p s m meth c cX6_step 6 RX6 (some .int) g z0) (hM : qBM g ad w) : ∀ (f : Nat) (x1 : Int) (x2 : Int) (x3 : Int) (σ : qSt), qS p l e qrm2 s m args below meth c 6 g z0 w 0 0 (qQ below g z0 w qri args s 0 0) (fX6_step_c48 f x1 x2 x3 σ) σ 48 [(0, some (.ref (ad 47))), (1, some (.int (qI x1))), (2, some (.int (qI x2))), (3, some (.int (qI x3)))] [] := by
  intro f
  induction f with
  | zero => exact fun _ _ _ _ => qS.fail
  | succ f ih =>
    intro x1 x2 x3 σ
    unfold fX6_step_c48
    refine r_iload_n (pc := 48) cx dX6_step_48 rfl ?_
    refine r_iload_n (pc := 49) cx dX6_step_49 rfl ?_
    refine r_icmp_ge (tgt := 221) cx dX6_step_50 (by decide) ?_ ?_
    · refine r_aload_n (pc := 221) cx dX6_step_221 rfl ?_
      refine r_get (pc := 222) cx hcl_X6 qc_X6 (lw47 hM) (j := 15) (by decide) wf_X6_123 dX6_step_222 (x := .int (qI (σ 47 15))) rfl ?_
      exact r_ireturn (w0 := w) (fun _ _ h => h) (Nat.zero_le _) (Nat.zero_le _) cx dX6_step_225 rfl
    · refine r_aload_n (pc := 53) cx dX6_step_53 rfl ?_
      refine r_aload_n (pc := 54) cx dX6_step_54 rfl ?_
      refine r_get (pc := 55) cx hcl_X6 qc_X6 (lw47 hM) (j := 3) (by decide) wf_X6_16 dX6_step_55 (x := .ref (ad 50)) rfl ?_
      refine r_aload_n (pc := 58) cx dX6_step_58 rfl ?_
      refine r_get (pc := 59) cx hcl_X6 qc_X6 (lw47 hM) (j := 4) (by decide) wf_X6_19 dX6_step_59 (x := .ref (ad 51)) rfl ?_
      refine r_dVv (pc := 62) cx (tX6_advance hM (lw50 hM) (lw51 hM)  σ) qm_X6_advance qv_X6_advance hcl_X6 (lw47 hM) wm_X6_130 dX6_step_62 rfl rfl (Nat.le_of_ble_eq_true rfl) ⟨Nat.le_of_ble_eq_true rfl, Nat.le_of_ble_eq_true rfl⟩ ⟨rfl, rfl⟩ ⟨Nat.zero_le _, Nat.zero_le _⟩ (fun r62 σ2 => ?_)
      refine r_iconst (pc := 65) cx dX6_step_65 ?_
      refine r_istore (pc := 66) cx dX6_step_66 (by decide) rfl ?_
      exact qS.sub (qsub_cons rfl (qsub_cons rfl (qsub_cons rfl (qsub_cons rfl (qsub_cons rfl (qsub_nil _)))))) (tX6_step_c68 cx hM ih _ _ _ _ _ _)
def fX6_step_c33 (x1 : Int) (s0 : Int) (σ : qSt) : Option (Int × qSt) :=
  (qbd (fX6_refused s0 σ) fun (r33 : Int) (σ1 : qSt) => (if qI r33 = 0 then ((fX6_hasOpen σ1).bind fun (r42 : Int) => (fX6_step_c48 qFU x1 r42 0 σ1)) else (some (0, σ1))))
set_option maxRecDepth 100000 in
set_option maxHeartbeats 4000000 in
theorem tX6_step_c33 {p : Program} {l : Launch} {e : Env} {s : State} {m : MethodId} {args : Array Value} {below : List Frame} {meth : Method} {c : Code} {z0 : Nat} {g : qG} {w : qWd} {ad : Nat → Nat} (cx : qCx p s m meth c cX6_step 6 RX6 (some .int) g z0) (hM : qBM g ad w) (x1 : Int) (s0 : Int) (σ : qSt) : qS p l e qrm2 s m args below meth c 6 g z0 w 0 0 (qQ below g z0 w qri args s 0 0) (fX6_step_c33 x1 s0 σ) σ 33 [(0, some (.ref (ad 47))), (1, some (.int (qI x1)))] [.int (qI s0), .ref (ad 47)] := by
  unfold fX6_step_c33
  refine r_dVi (pc := 33) cx (tX6_refused hM s0 σ) qm_X6_refused qv_X6_refused hcl_X6 (lw47 hM) wm_X6_84 dX6_step_33 rfl rfl (Nat.le_of_ble_eq_true rfl) ⟨Nat.le_of_ble_eq_true rfl, Nat.le_of_ble_eq_true rfl⟩ ⟨rfl, rfl⟩ ⟨Nat.zero_le _, Nat.zero_le _⟩ (fun r33 σ1 => ?_)
  refine r_if_eq (tgt := 41) cx dX6_step_36 (by decide) ?_ ?_
  · refine r_aload_n (pc := 41) cx dX6_step_41 rfl ?_
    refine r_pVi (pc := 42) cx (tX6_hasOpen hM  σ1) qm_X6_hasOpen qv_X6_hasOpen hcl_X6 (lw47 hM) wm_X6_126 dX6_step_42 rfl rfl (Nat.le_of_ble_eq_true rfl) ⟨Nat.le_of_ble_eq_true rfl, Nat.le_of_ble_eq_true rfl⟩ ⟨rfl, rfl⟩ ⟨Nat.zero_le _, Nat.zero_le _⟩ (fun r42 => ?_)
    refine r_istore_n (pc := 45) cx dX6_step_45 (by decide) rfl ?_
    refine r_iconst (pc := 46) cx dX6_step_46 ?_
    refine r_istore_n (pc := 47) cx dX6_step_47 (by decide) rfl ?_
    exact qS.sub (qsub_cons rfl (qsub_cons rfl (qsub_cons rfl (qsub_cons rfl (qsub_nil _))))) (tX6_step_c48 cx hM _ _ _ _ _)
  · refine r_iconst (pc := 39) cx dX6_step_39 ?_
    exact r_ireturn (w0 := w) (fun _ _ h => h) (Nat.zero_le _) (Nat.zero_le _) cx dX6_step_40 rfl
def fX6_step (p0 : Int) (σ : qSt) : Option (Int × qSt) :=
  ((fX6_within σ p0 1 200).bind fun (r6 : Int) => (if qI r6 = 0 then (fX6_step_c33 p0 1 σ) else (if qI ((σ 47 15) + p0) ≤ qI 5000 then (fX6_step_c33 p0 0 σ) else (fX6_step_c33 p0 2 σ))))
set_option maxRecDepth 100000 in
set_option maxHeartbeats 4000000 in
theorem tX6_step {l : Launch} {z0 : Nat} {g : qG} {w : qWd} {ad : Nat → Nat} (hM : qBM g ad w) (p0 : Int) (σ : qSt) : qCT l yX6_step cX6_step 6 (some .int) qrm2 g z0 w [.ref (ad 47), .int (qI p0)] σ (fX6_step p0 σ) qri := by
  refine qCT.of [(0, some (.ref (ad 47))), (1, some (.int (qI p0)))] (by decide +kernel) (Nat.le_of_ble_eq_true rfl) rfl ?_
  intro p e s m args below meth c cx
  unfold fX6_step
  refine r_aload_n (pc := 0) cx dX6_step_0 rfl ?_
  refine r_iload_n (pc := 1) cx dX6_step_1 rfl ?_
  refine r_iconst (pc := 2) cx dX6_step_2 ?_
  refine r_sipush (pc := 3) (v := 200) cx dX6_step_3 (by decide +kernel) ?_
  refine r_pSi (pc := 6) cx (tX6_within  p0 1 200 σ) qm_X6_within qs_X6_within wm_X6_62 dX6_step_6 rfl rfl (Nat.le_of_ble_eq_true rfl) ⟨Nat.le_of_ble_eq_true rfl, Nat.le_of_ble_eq_true rfl⟩ ⟨rfl, rfl⟩ ⟨Nat.zero_le _, Nat.zero_le _⟩ (fun r6 => ?_)
  refine r_if_ne (tgt := 16) cx dX6_step_9 (by decide) ?_ ?_
  · refine r_aload_n (pc := 16) cx dX6_step_16 rfl ?_
    refine r_get (pc := 17) cx hcl_X6 qc_X6 (lw47 hM) (j := 15) (by decide) wf_X6_123 dX6_step_17 (x := .int (qI (σ 47 15))) rfl ?_
    refine r_iload_n (pc := 20) cx dX6_step_20 rfl ?_
    refine r_iadd (pc := 21) cx dX6_step_21 ?_
    refine r_sipush (pc := 22) (v := 5000) cx dX6_step_22 (by decide +kernel) ?_
    refine r_icmp_le (tgt := 32) cx dX6_step_25 (by decide) ?_ ?_
    · refine r_iconst (pc := 32) cx dX6_step_32 ?_
      exact qS.sub (qsub_cons rfl (qsub_cons rfl (qsub_nil _))) (tX6_step_c33 cx hM _ _ _)
    · refine r_iconst (pc := 28) cx dX6_step_28 ?_
      refine r_goto (pc := 29) (tgt := 33) cx dX6_step_29 (by decide) ?_
      exact qS.sub (qsub_cons rfl (qsub_cons rfl (qsub_nil _))) (tX6_step_c33 cx hM _ _ _)
  · refine r_iconst (pc := 12) cx dX6_step_12 ?_
    refine r_goto (pc := 13) (tgt := 33) cx dX6_step_13 (by decide) ?_
    exact qS.sub (qsub_cons rfl (qsub_cons rfl (qsub_nil _))) (tX6_step_c33 cx hM _ _ _)
def fX6_unhop_c40 (x1 : Int) (x2 : Int) (x3 : Int) (x4 : Int) (s0 : Int) (σ : qSt) : Option (Int × qSt) :=
  (if 0 ≤ x4 ∧ x4 < 96 then (if 0 ≤ x4 ∧ x4 < 96 then (qb (qset σ 52 x4 (qor (σ 52 x4) (qshl 1 s0))) fun (σ1 : qSt) => (if 0 ≤ x4 ∧ x4 < 96 then (if 0 ≤ x1 ∧ x1 < 96 then (if 0 ≤ x4 ∧ x4 < 96 then (qb (qset σ1 53 x4 (qor (σ1 53 x4) (qshl (qand (qshr (σ1 51 x1) x2) 1) s0))) fun (σ2 : qSt) => ((fX6_opposite σ2 x2).bind fun (r82 : Int) => (qbd (fX6_hit x3 r82 σ2) fun (r85 : Int) (σ3 : qSt) => (some (0, σ3))))) else none) else none) else none)) else none) else none)
set_option maxRecDepth 100000 in
set_option maxHeartbeats 4000000 in
theorem tX6_unhop_c40 {p : Program} {l : Launch} {e : Env} {s : State} {m : MethodId} {args : Array Value} {below : List Frame} {meth : Method} {c : Code} {z0 : Nat} {g : qG} {w : qWd} {ad : Nat → Nat} (cx : qCx p s m meth c cX6_unhop 6 RX6 none g z0) (hM : qBM g ad w) (x1 : Int) (x2 : Int) (x3 : Int) (x4 : Int) (s0 : Int) (σ : qSt) : qS p l e qrm1 s m args below meth c 6 g z0 w 0 0 (qQ below g z0 w qrv args s 0 0) (fX6_unhop_c40 x1 x2 x3 x4 s0 σ) σ 40 [(0, some (.ref (ad 47))), (1, some (.int (qI x1))), (2, some (.int (qI x2))), (3, some (.int (qI x3))), (4, some (.int (qI x4)))] [.int (qI s0)] := by
  unfold fX6_unhop_c40
  refine r_istore (pc := 40) cx dX6_unhop_40 (by decide) rfl ?_
  refine r_aload_n (pc := 42) cx dX6_unhop_42 rfl ?_
  refine r_get (pc := 43) cx hcl_X6 qc_X6 (lw47 hM) (j := 5) (by decide) wf_X6_22 dX6_unhop_43 (x := .ref (ad 52)) rfl ?_
  refine r_iload (pc := 46) cx dX6_unhop_46 rfl ?_
  refine r_dup2 (pc := 48) cx dX6_unhop_48 rfl rfl ?_
  refine r_iaload (pc := 49) cx (lw52 hM) rfl (by decide) dX6_unhop_49 ?_
  refine r_iconst (pc := 50) cx dX6_unhop_50 ?_
  refine r_iload (pc := 51) cx dX6_unhop_51 rfl ?_
  refine r_ishl (pc := 53) cx dX6_unhop_53 ?_
  refine r_ior (pc := 54) cx dX6_unhop_54 ?_
  refine r_iastore (pc := 55) cx (lw52 hM) rfl (by decide) dX6_unhop_55 (fun σ1 => ?_)
  refine r_aload_n (pc := 56) cx dX6_unhop_56 rfl ?_
  refine r_get (pc := 57) cx hcl_X6 qc_X6 (lw47 hM) (j := 6) (by decide) wf_X6_25 dX6_unhop_57 (x := .ref (ad 53)) rfl ?_
  refine r_iload (pc := 60) cx dX6_unhop_60 rfl ?_
  refine r_dup2 (pc := 62) cx dX6_unhop_62 rfl rfl ?_
  refine r_iaload (pc := 63) cx (lw53 hM) rfl (by decide) dX6_unhop_63 ?_
  refine r_aload_n (pc := 64) cx dX6_unhop_64 rfl ?_
  refine r_get (pc := 65) cx hcl_X6 qc_X6 (lw47 hM) (j := 4) (by decide) wf_X6_19 dX6_unhop_65 (x := .ref (ad 51)) rfl ?_
  refine r_iload_n (pc := 68) cx dX6_unhop_68 rfl ?_
  refine r_iaload (pc := 69) cx (lw51 hM) rfl (by decide) dX6_unhop_69 ?_
  refine r_iload_n (pc := 70) cx dX6_unhop_70 rfl ?_
  refine r_ishr (pc := 71) cx dX6_unhop_71 ?_
  refine r_iconst (pc := 72) cx dX6_unhop_72 ?_
  refine r_iand (pc := 73) cx dX6_unhop_73 ?_
  refine r_iload (pc := 74) cx dX6_unhop_74 rfl ?_
  refine r_ishl (pc := 76) cx dX6_unhop_76 ?_
  refine r_ior (pc := 77) cx dX6_unhop_77 ?_
  refine r_iastore (pc := 78) cx (lw53 hM) rfl (by decide) dX6_unhop_78 (fun σ2 => ?_)
  refine r_aload_n (pc := 79) cx dX6_unhop_79 rfl ?_
  refine r_iload_n (pc := 80) cx dX6_unhop_80 rfl ?_
  refine r_iload_n (pc := 81) cx dX6_unhop_81 rfl ?_
  refine r_pSi (pc := 82) cx (tX6_opposite  x2 σ2) qm_X6_opposite qs_X6_opposite wm_X6_116 dX6_unhop_82 rfl rfl (Nat.le_of_ble_eq_true rfl) ⟨Nat.le_of_ble_eq_true rfl, Nat.le_of_ble_eq_true rfl⟩ ⟨rfl, rfl⟩ ⟨Nat.zero_le _, Nat.zero_le _⟩ (fun r82 => ?_)
  refine r_dVv (pc := 85) cx (tX6_hit hM x3 r82 σ2) qm_X6_hit qv_X6_hit hcl_X6 (lw47 hM) wm_X6_119 dX6_unhop_85 rfl rfl (Nat.le_of_ble_eq_true rfl) ⟨Nat.le_of_ble_eq_true rfl, Nat.le_of_ble_eq_true rfl⟩ ⟨rfl, rfl⟩ ⟨Nat.zero_le _, Nat.zero_le _⟩ (fun r85 σ3 => ?_)
  exact r_return (w0 := w) (fun _ _ h => h) (Nat.zero_le _) (Nat.zero_le _) cx dX6_unhop_88 rfl
def fX6_unhop_c22 (x1 : Int) (x2 : Int) (x3 : Int) (s0 : Int) (σ : qSt) : Option (Int × qSt) :=
  ((fX6_blocks σ x3).bind fun (r26 : Int) => (if qI r26 = 0 then (fX6_unhop_c40 x1 x2 x3 s0 x2 σ) else ((fX6_opposite σ x2).bind fun (r33 : Int) => (fX6_unhop_c40 x1 x2 x3 s0 r33 σ))))
set_option maxRecDepth 100000 in
set_option maxHeartbeats 4000000 in
theorem tX6_unhop_c22 {p : Program} {l : Launch} {e : Env} {s : State} {m : MethodId} {args : Array Value} {below : List Frame} {meth : Method} {c : Code} {z0 : Nat} {g : qG} {w : qWd} {ad : Nat → Nat} (cx : qCx p s m meth c cX6_unhop 6 RX6 none g z0) (hM : qBM g ad w) (x1 : Int) (x2 : Int) (x3 : Int) (s0 : Int) (σ : qSt) : qS p l e qrm1 s m args below meth c 6 g z0 w 0 0 (qQ below g z0 w qrv args s 0 0) (fX6_unhop_c22 x1 x2 x3 s0 σ) σ 22 [(0, some (.ref (ad 47))), (1, some (.int (qI x1))), (2, some (.int (qI x2))), (3, some (.int (qI x3)))] [.int (qI s0)] := by
  unfold fX6_unhop_c22
  refine r_istore (pc := 22) cx dX6_unhop_22 (by decide) rfl ?_
  refine r_aload_n (pc := 24) cx dX6_unhop_24 rfl ?_
  refine r_iload_n (pc := 25) cx dX6_unhop_25 rfl ?_
  refine r_pVi (pc := 26) cx (tX6_blocks hM x3 σ) qm_X6_blocks qv_X6_blocks hcl_X6 (lw47 hM) wm_X6_113 dX6_unhop_26 rfl rfl (Nat.le_of_ble_eq_true rfl) ⟨Nat.le_of_ble_eq_true rfl, Nat.le_of_ble_eq_true rfl⟩ ⟨rfl, rfl⟩ ⟨Nat.zero_le _, Nat.zero_le _⟩ (fun r26 => ?_)
  refine r_if_eq (tgt := 39) cx dX6_unhop_29 (by decide) ?_ ?_
  · refine r_iload_n (pc := 39) cx dX6_unhop_39 rfl ?_
    exact qS.sub (qsub_cons rfl (qsub_cons rfl (qsub_cons rfl (qsub_cons rfl (qsub_cons rfl (qsub_nil _)))))) (tX6_unhop_c40 cx hM _ _ _ _ _ _)
  · refine r_iload_n (pc := 32) cx dX6_unhop_32 rfl ?_
    refine r_pSi (pc := 33) cx (tX6_opposite  x2 σ) qm_X6_opposite qs_X6_opposite wm_X6_116 dX6_unhop_33 rfl rfl (Nat.le_of_ble_eq_true rfl) ⟨Nat.le_of_ble_eq_true rfl, Nat.le_of_ble_eq_true rfl⟩ ⟨rfl, rfl⟩ ⟨Nat.zero_le _, Nat.zero_le _⟩ (fun r33 => ?_)
    refine r_goto (pc := 36) (tgt := 40) cx dX6_unhop_36 (by decide) ?_
    exact qS.sub (qsub_cons rfl (qsub_cons rfl (qsub_cons rfl (qsub_cons rfl (qsub_cons rfl (qsub_nil _)))))) (tX6_unhop_c40 cx hM _ _ _ _ _ _)
def fX6_unhop (p0 : Int) (p1 : Int) (σ : qSt) : Option (Int × qSt) :=
  ((fX6_opposite σ p1).bind fun (r2 : Int) => ((fX6_beside σ p0 r2).bind fun (r5 : Int) => ((fX6_blocks σ r5).bind fun (r11 : Int) => (if qI r11 = 0 then (fX6_unhop_c22 p0 p1 r5 r5 σ) else (fX6_unhop_c22 p0 p1 r5 p0 σ)))))
set_option maxRecDepth 100000 in
set_option maxHeartbeats 4000000 in
theorem tX6_unhop {l : Launch} {z0 : Nat} {g : qG} {w : qWd} {ad : Nat → Nat} (hM : qBM g ad w) (p0 : Int) (p1 : Int) (σ : qSt) : qCT l yX6_unhop cX6_unhop 6 none qrm1 g z0 w [.ref (ad 47), .int (qI p0), .int (qI p1)] σ (fX6_unhop p0 p1 σ) qrv := by
  refine qCT.of [(0, some (.ref (ad 47))), (1, some (.int (qI p0))), (2, some (.int (qI p1)))] (by decide +kernel) (Nat.le_of_ble_eq_true rfl) rfl ?_
  intro p e s m args below meth c cx
  unfold fX6_unhop
  refine r_iload_n (pc := 0) cx dX6_unhop_0 rfl ?_
  refine r_iload_n (pc := 1) cx dX6_unhop_1 rfl ?_
  refine r_pSi (pc := 2) cx (tX6_opposite  p1 σ) qm_X6_opposite qs_X6_opposite wm_X6_116 dX6_unhop_2 rfl rfl (Nat.le_of_ble_eq_true rfl) ⟨Nat.le_of_ble_eq_true rfl, Nat.le_of_ble_eq_true rfl⟩ ⟨rfl, rfl⟩ ⟨Nat.zero_le _, Nat.zero_le _⟩ (fun r2 => ?_)
  refine r_pSi (pc := 5) cx (tX6_beside  p0 r2 σ) qm_X6_beside qs_X6_beside wm_X6_109 dX6_unhop_5 rfl rfl (Nat.le_of_ble_eq_true rfl) ⟨Nat.le_of_ble_eq_true rfl, Nat.le_of_ble_eq_true rfl⟩ ⟨rfl, rfl⟩ ⟨Nat.zero_le _, Nat.zero_le _⟩ (fun r5 => ?_)
  refine r_istore_n (pc := 8) cx dX6_unhop_8 (by decide) rfl ?_
  refine r_aload_n (pc := 9) cx dX6_unhop_9 rfl ?_
  refine r_iload_n (pc := 10) cx dX6_unhop_10 rfl ?_
  refine r_pVi (pc := 11) cx (tX6_blocks hM r5 σ) qm_X6_blocks qv_X6_blocks hcl_X6 (lw47 hM) wm_X6_113 dX6_unhop_11 rfl rfl (Nat.le_of_ble_eq_true rfl) ⟨Nat.le_of_ble_eq_true rfl, Nat.le_of_ble_eq_true rfl⟩ ⟨rfl, rfl⟩ ⟨Nat.zero_le _, Nat.zero_le _⟩ (fun r11 => ?_)
  refine r_if_eq (tgt := 21) cx dX6_unhop_14 (by decide) ?_ ?_
  · refine r_iload_n (pc := 21) cx dX6_unhop_21 rfl ?_
    exact qS.sub (qsub_cons rfl (qsub_cons rfl (qsub_cons rfl (qsub_cons rfl (qsub_nil _))))) (tX6_unhop_c22 cx hM _ _ _ _ _)
  · refine r_iload_n (pc := 17) cx dX6_unhop_17 rfl ?_
    refine r_goto (pc := 18) (tgt := 22) cx dX6_unhop_18 (by decide) ?_
    exact qS.sub (qsub_cons rfl (qsub_cons rfl (qsub_cons rfl (qsub_cons rfl (qsub_nil _))))) (tX6_unhop_c22 cx hM _ _ _ _ _)
def fX6_retreat_c195 (k103 : Int → qSt → Option (Int × qSt)) (x1 : Int) (s0 : Int) (s1 : Int) (σ : qSt) : Option (Int × qSt) :=
  (qb (qset σ 47 14 (s1 + s0)) fun (σ8 : qSt) => (k103 (x1 + 1) σ8))
set_option maxRecDepth 100000 in
set_option maxHeartbeats 4000000 in
theorem tX6_retreat_c195 {p : Program} {l : Launch} {e : Env} {s : State} {m : MethodId} {args : Array Value} {below : List Frame} {meth : Method} {c : Code} {z0 : Nat} {g : qG} {w : qWd} {ad : Nat → Nat} (cx : qCx p s m meth c cX6_retreat 3 RX6 none g z0) (hM : qBM g ad w) {k103 : Int → qSt → Option (Int × qSt)} (hk103 : ∀ (x1 : Int) (σ : qSt), qS p l e qrm2 s m args below meth c 3 g z0 w 0 0 (qQ below g z0 w qrv args s 0 0) (k103 x1 σ) σ 103 [(0, some (.ref (ad 47))), (1, some (.int (qI x1)))] []) (x1 : Int) (s0 : Int) (s1 : Int) (σ : qSt) : qS p l e qrm2 s m args below meth c 3 g z0 w 0 0 (qQ below g z0 w qrv args s 0 0) (fX6_retreat_c195 k103 x1 s0 s1 σ) σ 195 [(0, some (.ref (ad 47))), (1, some (.int (qI x1)))] [.int (qI s0), .int (qI s1), .ref (ad 47)] := by
  unfold fX6_retreat_c195
  refine r_iadd (pc := 195) cx dX6_retreat_195 ?_
  refine r_puti (pc := 196) (J := 14) cx hcl_X6 qc_X6 (lw47 hM) (j := 14) (by decide) tyX6_ok nmX6 wf_X6_100 rfl (by decide +kernel) rfl (Nat.le_of_ble_eq_true rfl) (fun r => rfl) dX6_retreat_196 (fun σ8 => ?_)
  refine r_iinc (pc := 199) cx dX6_retreat_199 rfl (by decide) rfl ?_
  refine r_goto (pc := 202) (tgt := 103) cx dX6_retreat_202 (by decide) ?_
  exact qS.sub (qsub_cons rfl (qsub_cons rfl (qsub_nil _))) (hk103 _ _)
def fX6_retreat_c180 (k103 : Int → qSt → Option (Int × qSt)) (x1 : Int) (x2 : Int) (s0 : Int) (s1 : Int) (σ : qSt) : Option (Int × qSt) :=
  (if 0 ≤ s1 ∧ s1 < 96 then (qb (qset σ 51 s1 s0) fun (σ7 : qSt) => (if qI x2 = 0 then (fX6_retreat_c195 k103 x1 0 (σ7 47 14) σ7) else (fX6_retreat_c195 k103 x1 1 (σ7 47 14) σ7))) else none)
set_option maxRecDepth 100000 in
set_option maxHeartbeats 4000000 in
theorem tX6_retreat_c180 {p : Program} {l : Launch} {e : Env} {s : State} {m : MethodId} {args : Array Value} {below : List Frame} {meth : Method} {c : Code} {z0 : Nat} {g : qG} {w : qWd} {ad : Nat → Nat} (cx : qCx p s m meth c cX6_retreat 3 RX6 none g z0) (hM : qBM g ad w) {k103 : Int → qSt → Option (Int × qSt)} (hk103 : ∀ (x1 : Int) (σ : qSt), qS p l e qrm2 s m args below meth c 3 g z0 w 0 0 (qQ below g z0 w qrv args s 0 0) (k103 x1 σ) σ 103 [(0, some (.ref (ad 47))), (1, some (.int (qI x1)))] []) (x1 : Int) (x2 : Int) (s0 : Int) (s1 : Int) (σ : qSt) : qS p l e qrm2 s m args below meth c 3 g z0 w 0 0 (qQ below g z0 w qrv args s 0 0) (fX6_retreat_c180 k103 x1 x2 s0 s1 σ) σ 180 [(0, some (.ref (ad 47))), (1, some (.int (qI x1))), (2, some (.int (qI x2)))] [.int (qI s0), .int (qI s1), .ref (ad 51)] := by
  unfold fX6_retreat_c180
  refine r_iastore (pc := 180) cx (lw51 hM) rfl (by decide) dX6_retreat_180 (fun σ7 => ?_)
  refine r_aload_n (pc := 181) cx dX6_retreat_181 rfl ?_
  refine r_dup (pc := 182) cx dX6_retreat_182 rfl ?_
  refine r_get (pc := 183) cx hcl_X6 qc_X6 (lw47 hM) (j := 14) (by decide) wf_X6_100 dX6_retreat_183 (x := .int (qI (σ7 47 14))) rfl ?_
  refine r_iload_n (pc := 186) cx dX6_retreat_186 rfl ?_
  refine r_if_eq (tgt := 194) cx dX6_retreat_187 (by decide) ?_ ?_
  · refine r_iconst (pc := 194) cx dX6_retreat_194 ?_
    exact qS.sub (qsub_cons rfl (qsub_cons rfl (qsub_nil _))) (tX6_retreat_c195 cx hM hk103 _ _ _ _)
  · refine r_iconst (pc := 190) cx dX6_retreat_190 ?_
    refine r_goto (pc := 191) (tgt := 195) cx dX6_retreat_191 (by decide) ?_
    exact qS.sub (qsub_cons rfl (qsub_cons rfl (qsub_nil _))) (tX6_retreat_c195 cx hM hk103 _ _ _ _)
def fX6_retreat_c146 (k103 : Int → qSt → Option (Int × qSt)) (x1 : Int) (x2 : Int) (s0 : Int) (s1 : Int) (σ : qSt) : Option (Int × qSt) :=
  (if 0 ≤ s1 ∧ s1 < 96 then (qb (qset σ 50 s1 s0) fun (σ6 : qSt) => (if qI x2 = 0 then (if 0 ≤ x1 ∧ x1 < 96 then (fX6_retreat_c180 k103 x1 x2 (σ6 53 x1) x1 σ6) else none) else (if 0 ≤ x1 ∧ x1 < 96 then ((fX6_turned σ6 (σ6 53 x1)).bind fun (r162 : Int) => ((fX6_turned σ6 r162).bind fun (r165 : Int) => ((fX6_turned σ6 r165).bind fun (r168 : Int) => (fX6_retreat_c180 k103 x1 x2 r168 x1 σ6)))) else none))) else none)
set_option maxRecDepth 100000 in
set_option maxHeartbeats 4000000 in
theorem tX6_retreat_c146 {p : Program} {l : Launch} {e : Env} {s : State} {m : MethodId} {args : Array Value} {below : List Frame} {meth : Method} {c : Code} {z0 : Nat} {g : qG} {w : qWd} {ad : Nat → Nat} (cx : qCx p s m meth c cX6_retreat 3 RX6 none g z0) (hM : qBM g ad w) {k103 : Int → qSt → Option (Int × qSt)} (hk103 : ∀ (x1 : Int) (σ : qSt), qS p l e qrm2 s m args below meth c 3 g z0 w 0 0 (qQ below g z0 w qrv args s 0 0) (k103 x1 σ) σ 103 [(0, some (.ref (ad 47))), (1, some (.int (qI x1)))] []) (x1 : Int) (x2 : Int) (s0 : Int) (s1 : Int) (σ : qSt) : qS p l e qrm2 s m args below meth c 3 g z0 w 0 0 (qQ below g z0 w qrv args s 0 0) (fX6_retreat_c146 k103 x1 x2 s0 s1 σ) σ 146 [(0, some (.ref (ad 47))), (1, some (.int (qI x1))), (2, some (.int (qI x2)))] [.int (qI s0), .int (qI s1), .ref (ad 50)] := by
  unfold fX6_retreat_c146
  refine r_iastore (pc := 146) cx (lw50 hM) rfl (by decide) dX6_retreat_146 (fun σ6 => ?_)
  refine r_aload_n (pc := 147) cx dX6_retreat_147 rfl ?_
  refine r_get (pc := 148) cx hcl_X6 qc_X6 (lw47 hM) (j := 4) (by decide) wf_X6_19 dX6_retreat_148 (x := .ref (ad 51)) rfl ?_
  refine r_iload_n (pc := 151) cx dX6_retreat_151 rfl ?_
  refine r_iload_n (pc := 152) cx dX6_retreat_152 rfl ?_
  refine r_if_eq (tgt := 174) cx dX6_retreat_153 (by decide) ?_ ?_
  · refine r_aload_n (pc := 174) cx dX6_retreat_174 rfl ?_
    refine r_get (pc := 175) cx hcl_X6 qc_X6 (lw47 hM) (j := 6) (by decide) wf_X6_25 dX6_retreat_175 (x := .ref (ad 53)) rfl ?_
    refine r_iload_n (pc := 178) cx dX6_retreat_178 rfl ?_
    refine r_iaload (pc := 179) cx (lw53 hM) rfl (by decide) dX6_retreat_179 ?_
    exact qS.sub (qsub_cons rfl (qsub_cons rfl (qsub_cons rfl (qsub_nil _)))) (tX6_retreat_c180 cx hM hk103 _ _ _ _ _)
  · refine r_aload_n (pc := 156) cx dX6_retreat_156 rfl ?_
    refine r_get (pc := 157) cx hcl_X6 qc_X6 (lw47 hM) (j := 6) (by decide) wf_X6_25 dX6_retreat_157 (x := .ref (ad 53)) rfl ?_
    refine r_iload_n (pc := 160) cx dX6_retreat_160 rfl ?_
    refine r_iaload (pc := 161) cx (lw53 hM) rfl (by decide) dX6_retreat_161 ?_
    refine r_pSi (pc := 162) cx (tX6_turned  (σ6 53 x1) σ6) qm_X6_turned qs_X6_turned wm_X6_106 dX6_retreat_162 rfl rfl (Nat.le_of_ble_eq_true rfl) ⟨Nat.le_of_ble_eq_true rfl, Nat.le_of_ble_eq_true rfl⟩ ⟨rfl, rfl⟩ ⟨Nat.zero_le _, Nat.zero_le _⟩ (fun r162 => ?_)
    refine r_pSi (pc := 165) cx (tX6_turned  r162 σ6) qm_X6_turned qs_X6_turned wm_X6_106 dX6_retreat_165 rfl rfl (Nat.le_of_ble_eq_true rfl) ⟨Nat.le_of_ble_eq_true rfl, Nat.le_of_ble_eq_true rfl⟩ ⟨rfl, rfl⟩ ⟨Nat.zero_le _, Nat.zero_le _⟩ (fun r165 => ?_)
    refine r_pSi (pc := 168) cx (tX6_turned  r165 σ6) qm_X6_turned qs_X6_turned wm_X6_106 dX6_retreat_168 rfl rfl (Nat.le_of_ble_eq_true rfl) ⟨Nat.le_of_ble_eq_true rfl, Nat.le_of_ble_eq_true rfl⟩ ⟨rfl, rfl⟩ ⟨Nat.zero_le _, Nat.zero_le _⟩ (fun r168 => ?_)
    refine r_goto (pc := 171) (tgt := 180) cx dX6_retreat_171 (by decide) ?_
    exact qS.sub (qsub_cons rfl (qsub_cons rfl (qsub_cons rfl (qsub_nil _)))) (tX6_retreat_c180 cx hM hk103 _ _ _ _ _)
def fX6_retreat_c103 : Nat → Int → qSt → Option (Int × qSt)
  | 0, _, _ => none
  | f + 1, x1, σ => (if qI 96 ≤ qI x1 then (some (0, σ)) else (if 0 ≤ x1 ∧ x1 < 96 then ((fX6_meets σ (σ 52 x1)).bind fun (r115 : Int) => (if qI r115 = 0 then (if 0 ≤ x1 ∧ x1 < 96 then (fX6_retreat_c146 (fX6_retreat_c103 f) x1 r115 (σ 52 x1) x1 σ) else none) else (if 0 ≤ x1 ∧ x1 < 96 then ((fX6_turned σ (σ 52 x1)).bind fun (r134 : Int) => (fX6_retreat_c146 (fX6_retreat_c103 f) x1 r115 r134 x1 σ)) else none))) else none))
set_option maxRecDepth 100000 in
set_option maxHeartbeats 4000000 in
theorem tX6_retreat_c103 {p : Program} {l : Launch} {e : Env} {s : State} {m : MethodId} {args : Array Value} {below : List Frame} {meth : Method} {c : Code} {z0 : Nat} {g : qG} {w : qWd} {ad : Nat → Nat} (cx : qCx p s m meth c cX6_retreat 3 RX6 none g z0) (hM : qBM g ad w) : ∀ (f : Nat) (x1 : Int) (σ : qSt), qS p l e qrm2 s m args below meth c 3 g z0 w 0 0 (qQ below g z0 w qrv args s 0 0) (fX6_retreat_c103 f x1 σ) σ 103 [(0, some (.ref (ad 47))), (1, some (.int (qI x1)))] [] := by
  intro f
  induction f with
  | zero => exact fun _ _ => qS.fail
  | succ f ih =>
    intro x1 σ
    unfold fX6_retreat_c103
    refine r_iload_n (pc := 103) cx dX6_retreat_103 rfl ?_
    refine r_bipush (pc := 104) (v := 96) cx dX6_retreat_104 (by decide +kernel) ?_
    refine r_icmp_ge (tgt := 205) cx dX6_retreat_106 (by decide) ?_ ?_
    · exact r_return (w0 := w) (fun _ _ h => h) (Nat.zero_le _) (Nat.zero_le _) cx dX6_retreat_205 rfl
    · refine r_aload_n (pc := 109) cx dX6_retreat_109 rfl ?_
      refine r_get (pc := 110) cx hcl_X6 qc_X6 (lw47 hM) (j := 5) (by decide) wf_X6_22 dX6_retreat_110 (x := .ref (ad 52)) rfl ?_
      refine r_iload_n (pc := 113) cx dX6_retreat_113 rfl ?_
      refine r_iaload (pc := 114) cx (lw52 hM) rfl (by decide) dX6_retreat_114 ?_
      refine r_pSi (pc := 115) cx (tX6_meets  (σ 52 x1) σ) qm_X6_meets qs_X6_meets wm_X6_103 dX6_retreat_115 rfl rfl (Nat.le_of_ble_eq_true rfl) ⟨Nat.le_of_ble_eq_true rfl, Nat.le_of_ble_eq_true rfl⟩ ⟨rfl, rfl⟩ ⟨Nat.zero_le _, Nat.zero_le _⟩ (fun r115 => ?_)
      refine r_istore_n (pc := 118) cx dX6_retreat_118 (by decide) rfl ?_
      refine r_aload_n (pc := 119) cx dX6_retreat_119 rfl ?_
      refine r_get (pc := 120) cx hcl_X6 qc_X6 (lw47 hM) (j := 3) (by decide) wf_X6_16 dX6_retreat_120 (x := .ref (ad 50)) rfl ?_
      refine r_iload_n (pc := 123) cx dX6_retreat_123 rfl ?_
      refine r_iload_n (pc := 124) cx dX6_retreat_124 rfl ?_
      refine r_if_eq (tgt := 140) cx dX6_retreat_125 (by decide) ?_ ?_
      · refine r_aload_n (pc := 140) cx dX6_retreat_140 rfl ?_
        refine r_get (pc := 141) cx hcl_X6 qc_X6 (lw47 hM) (j := 5) (by decide) wf_X6_22 dX6_retreat_141 (x := .ref (ad 52)) rfl ?_
        refine r_iload_n (pc := 144) cx dX6_retreat_144 rfl ?_
        refine r_iaload (pc := 145) cx (lw52 hM) rfl (by decide) dX6_retreat_145 ?_
        exact qS.sub (qsub_cons rfl (qsub_cons rfl (qsub_cons rfl (qsub_nil _)))) (tX6_retreat_c146 cx hM ih _ _ _ _ _)
      · refine r_aload_n (pc := 128) cx dX6_retreat_128 rfl ?_
        refine r_get (pc := 129) cx hcl_X6 qc_X6 (lw47 hM) (j := 5) (by decide) wf_X6_22 dX6_retreat_129 (x := .ref (ad 52)) rfl ?_
        refine r_iload_n (pc := 132) cx dX6_retreat_132 rfl ?_
        refine r_iaload (pc := 133) cx (lw52 hM) rfl (by decide) dX6_retreat_133 ?_
        refine r_pSi (pc := 134) cx (tX6_turned  (σ 52 x1) σ) qm_X6_turned qs_X6_turned wm_X6_106 dX6_retreat_134 rfl rfl (Nat.le_of_ble_eq_true rfl) ⟨Nat.le_of_ble_eq_true rfl, Nat.le_of_ble_eq_true rfl⟩ ⟨rfl, rfl⟩ ⟨Nat.zero_le _, Nat.zero_le _⟩ (fun r134 => ?_)
        refine r_goto (pc := 137) (tgt := 146) cx dX6_retreat_137 (by decide) ?_
        exact qS.sub (qsub_cons rfl (qsub_cons rfl (qsub_cons rfl (qsub_nil _)))) (tX6_retreat_c146 cx hM ih _ _ _ _ _)
def fX6_retreat_c84 (k51 : Int → qSt → Option (Int × qSt)) (k59 : Int → Int → qSt → Option (Int × qSt)) (x1 : Int) (x2 : Int) (σ : qSt) : Option (Int × qSt) :=
  (k59 x1 (x2 + 1) σ)
set_option maxRecDepth 100000 in
set_option maxHeartbeats 4000000 in
theorem tX6_retreat_c84 {p : Program} {l : Launch} {e : Env} {s : State} {m : MethodId} {args : Array Value} {below : List Frame} {meth : Method} {c : Code} {z0 : Nat} {g : qG} {w : qWd} {ad : Nat → Nat} (cx : qCx p s m meth c cX6_retreat 3 RX6 none g z0) (hM : qBM g ad w) {k51 : Int → qSt → Option (Int × qSt)} (hk51 : ∀ (x1 : Int) (σ : qSt), qS p l e qrm2 s m args below meth c 3 g z0 w 0 0 (qQ below g z0 w qrv args s 0 0) (k51 x1 σ) σ 51 [(0, some (.ref (ad 47))), (1, some (.int (qI x1)))] []) {k59 : Int → Int → qSt → Option (Int × qSt)} (hk59 : ∀ (x1 : Int) (x2 : Int) (σ : qSt), qS p l e qrm2 s m args below meth c 3 g z0 w 0 0 (qQ below g z0 w qrv args s 0 0) (k59 x1 x2 σ) σ 59 [(0, some (.ref (ad 47))), (1, some (.int (qI x1))), (2, some (.int (qI x2)))] []) (x1 : Int) (x2 : Int) (σ : qSt) : qS p l e qrm2 s m args below meth c 3 g z0 w 0 0 (qQ below g z0 w qrv args s 0 0) (fX6_retreat_c84 k51 k59 x1 x2 σ) σ 84 [(0, some (.ref (ad 47))), (1, some (.int (qI x1))), (2, some (.int (qI x2)))] [] := by
  unfold fX6_retreat_c84
  refine r_iinc (pc := 84) cx dX6_retreat_84 rfl (by decide) rfl ?_
  refine r_goto (pc := 87) (tgt := 59) cx dX6_retreat_87 (by decide) ?_
  exact qS.sub (qsub_cons rfl (qsub_cons rfl (qsub_cons rfl (qsub_nil _)))) (hk59 _ _ _)
def fX6_retreat_c59 (k51 : Int → qSt → Option (Int × qSt)) : Nat → Int → Int → qSt → Option (Int × qSt)
  | 0, _, _, _ => none
  | f + 1, x1, x2, σ => (if qI 4 ≤ qI x2 then (k51 (x1 + 1) σ) else (if 0 ≤ x1 ∧ x1 < 96 then (if qI (qand (qshr (σ 50 x1) x2) 1) = qI 1 then (qbd (fX6_unhop x1 x2 σ) fun (r81 : Int) (σ5 : qSt) => (fX6_retreat_c84 k51 (fX6_retreat_c59 k51 f) x1 x2 σ5)) else (fX6_retreat_c84 k51 (fX6_retreat_c59 k51 f) x1 x2 σ)) else none))
set_option maxRecDepth 100000 in
set_option maxHeartbeats 4000000 in
theorem tX6_retreat_c59 {p : Program} {l : Launch} {e : Env} {s : State} {m : MethodId} {args : Array Value} {below : List Frame} {meth : Method} {c : Code} {z0 : Nat} {g : qG} {w : qWd} {ad : Nat → Nat} (cx : qCx p s m meth c cX6_retreat 3 RX6 none g z0) (hM : qBM g ad w) {k51 : Int → qSt → Option (Int × qSt)} (hk51 : ∀ (x1 : Int) (σ : qSt), qS p l e qrm2 s m args below meth c 3 g z0 w 0 0 (qQ below g z0 w qrv args s 0 0) (k51 x1 σ) σ 51 [(0, some (.ref (ad 47))), (1, some (.int (qI x1)))] []) : ∀ (f : Nat) (x1 : Int) (x2 : Int) (σ : qSt), qS p l e qrm2 s m args below meth c 3 g z0 w 0 0 (qQ below g z0 w qrv args s 0 0) (fX6_retreat_c59 k51 f x1 x2 σ) σ 59 [(0, some (.ref (ad 47))), (1, some (.int (qI x1))), (2, some (.int (qI x2)))] [] := by
  intro f
  induction f with
  | zero => exact fun _ _ _ => qS.fail
  | succ f ih =>
    intro x1 x2 σ
    unfold fX6_retreat_c59
    refine r_iload_n (pc := 59) cx dX6_retreat_59 rfl ?_
    refine r_iconst (pc := 60) cx dX6_retreat_60 ?_
    refine r_icmp_ge (tgt := 90) cx dX6_retreat_61 (by decide) ?_ ?_
    · refine r_iinc (pc := 90) cx dX6_retreat_90 rfl (by decide) rfl ?_
      refine r_goto (pc := 93) (tgt := 51) cx dX6_retreat_93 (by decide) ?_
      exact qS.sub (qsub_cons rfl (qsub_cons rfl (qsub_nil _))) (hk51 _ _)
    · refine r_aload_n (pc := 64) cx dX6_retreat_64 rfl ?_
      refine r_get (pc := 65) cx hcl_X6 qc_X6 (lw47 hM) (j := 3) (by decide) wf_X6_16 dX6_retreat_65 (x := .ref (ad 50)) rfl ?_
      refine r_iload_n (pc := 68) cx dX6_retreat_68 rfl ?_
      refine r_iaload (pc := 69) cx (lw50 hM) rfl (by decide) dX6_retreat_69 ?_
      refine r_iload_n (pc := 70) cx dX6_retreat_70 rfl ?_
      refine r_ishr (pc := 71) cx dX6_retreat_71 ?_
      refine r_iconst (pc := 72) cx dX6_retreat_72 ?_
      refine r_iand (pc := 73) cx dX6_retreat_73 ?_
      refine r_iconst (pc := 74) cx dX6_retreat_74 ?_
      refine r_icmp_ne (tgt := 84) cx dX6_retreat_75 (by decide) ?_ ?_
      · exact qS.sub (qsub_cons rfl (qsub_cons rfl (qsub_cons rfl (qsub_nil _)))) (tX6_retreat_c84 cx hM hk51 ih _ _ _)
      · refine r_aload_n (pc := 78) cx dX6_retreat_78 rfl ?_
        refine r_iload_n (pc := 79) cx dX6_retreat_79 rfl ?_
        refine r_iload_n (pc := 80) cx dX6_retreat_80 rfl ?_
        refine r_dVv (pc := 81) cx (tX6_unhop hM x1 x2 σ) qm_X6_unhop qv_X6_unhop hcl_X6 (lw47 hM) wm_X6_138 dX6_retreat_81 rfl rfl (Nat.le_of_ble_eq_true rfl) ⟨Nat.le_of_ble_eq_true rfl, Nat.le_of_ble_eq_true rfl⟩ ⟨rfl, rfl⟩ ⟨Nat.zero_le _, Nat.zero_le _⟩ (fun r81 σ5 => ?_)
        exact qS.sub (qsub_cons rfl (qsub_cons rfl (qsub_cons rfl (qsub_nil _)))) (tX6_retreat_c84 cx hM hk51 ih _ _ _)
def fX6_retreat_c51 : Nat → Int → qSt → Option (Int × qSt)
  | 0, _, _ => none
  | f + 1, x1, σ => (if qI 96 ≤ qI x1 then (qb (qset σ 47 14 0) fun (σ4 : qSt) => (fX6_retreat_c103 qFU 0 σ4)) else (fX6_retreat_c59 (fX6_retreat_c51 f) qFU x1 0 σ))
set_option maxRecDepth 100000 in
set_option maxHeartbeats 4000000 in
theorem tX6_retreat_c51 {p : Program} {l : Launch} {e : Env} {s : State} {m : MethodId} {args : Array Value} {below : List Frame} {meth : Method} {c : Code} {z0 : Nat} {g : qG} {w : qWd} {ad : Nat → Nat} (cx : qCx p s m meth c cX6_retreat 3 RX6 none g z0) (hM : qBM g ad w) : ∀ (f : Nat) (x1 : Int) (σ : qSt), qS p l e qrm2 s m args below meth c 3 g z0 w 0 0 (qQ below g z0 w qrv args s 0 0) (fX6_retreat_c51 f x1 σ) σ 51 [(0, some (.ref (ad 47))), (1, some (.int (qI x1)))] [] := by
  intro f
  induction f with
  | zero => exact fun _ _ => qS.fail
  | succ f ih =>
    intro x1 σ
    unfold fX6_retreat_c51
    refine r_iload_n (pc := 51) cx dX6_retreat_51 rfl ?_
    refine r_bipush (pc := 52) (v := 96) cx dX6_retreat_52 (by decide +kernel) ?_
    refine r_icmp_ge (tgt := 96) cx dX6_retreat_54 (by decide) ?_ ?_
    · refine r_aload_n (pc := 96) cx dX6_retreat_96 rfl ?_
      refine r_iconst (pc := 97) cx dX6_retreat_97 ?_
      refine r_puti (pc := 98) (J := 14) cx hcl_X6 qc_X6 (lw47 hM) (j := 14) (by decide) tyX6_ok nmX6 wf_X6_100 rfl (by decide +kernel) rfl (Nat.le_of_ble_eq_true rfl) (fun r => rfl) dX6_retreat_98 (fun σ4 => ?_)
      refine r_iconst (pc := 101) cx dX6_retreat_101 ?_
      refine r_istore_n (pc := 102) cx dX6_retreat_102 (by decide) rfl ?_
      exact qS.sub (qsub_cons rfl (qsub_cons rfl (qsub_nil _))) (tX6_retreat_c103 cx hM _ _ _)
    · refine r_iconst (pc := 57) cx dX6_retreat_57 ?_
      refine r_istore_n (pc := 58) cx dX6_retreat_58 (by decide) rfl ?_
      exact qS.sub (qsub_cons rfl (qsub_cons rfl (qsub_cons rfl (qsub_nil _)))) (tX6_retreat_c59 cx hM ih _ _ _ _)
def fX6_retreat_c23 : Nat → Int → qSt → Option (Int × qSt)
  | 0, _, _ => none
  | f + 1, x1, σ => (if qI 96 ≤ qI x1 then (fX6_retreat_c51 qFU 0 σ) else (if 0 ≤ x1 ∧ x1 < 96 then (qb (qset σ 52 x1 0) fun (σ2 : qSt) => (if 0 ≤ x1 ∧ x1 < 96 then (qb (qset σ2 53 x1 0) fun (σ3 : qSt) => (fX6_retreat_c23 f (x1 + 1) σ3)) else none)) else none))
set_option maxRecDepth 100000 in
set_option maxHeartbeats 4000000 in
theorem tX6_retreat_c23 {p : Program} {l : Launch} {e : Env} {s : State} {m : MethodId} {args : Array Value} {below : List Frame} {meth : Method} {c : Code} {z0 : Nat} {g : qG} {w : qWd} {ad : Nat → Nat} (cx : qCx p s m meth c cX6_retreat 3 RX6 none g z0) (hM : qBM g ad w) : ∀ (f : Nat) (x1 : Int) (σ : qSt), qS p l e qrm2 s m args below meth c 3 g z0 w 0 0 (qQ below g z0 w qrv args s 0 0) (fX6_retreat_c23 f x1 σ) σ 23 [(0, some (.ref (ad 47))), (1, some (.int (qI x1)))] [] := by
  intro f
  induction f with
  | zero => exact fun _ _ => qS.fail
  | succ f ih =>
    intro x1 σ
    unfold fX6_retreat_c23
    refine r_iload_n (pc := 23) cx dX6_retreat_23 rfl ?_
    refine r_bipush (pc := 24) (v := 96) cx dX6_retreat_24 (by decide +kernel) ?_
    refine r_icmp_ge (tgt := 49) cx dX6_retreat_26 (by decide) ?_ ?_
    · refine r_iconst (pc := 49) cx dX6_retreat_49 ?_
      refine r_istore_n (pc := 50) cx dX6_retreat_50 (by decide) rfl ?_
      exact qS.sub (qsub_cons rfl (qsub_cons rfl (qsub_nil _))) (tX6_retreat_c51 cx hM _ _ _)
    · refine r_aload_n (pc := 29) cx dX6_retreat_29 rfl ?_
      refine r_get (pc := 30) cx hcl_X6 qc_X6 (lw47 hM) (j := 5) (by decide) wf_X6_22 dX6_retreat_30 (x := .ref (ad 52)) rfl ?_
      refine r_iload_n (pc := 33) cx dX6_retreat_33 rfl ?_
      refine r_iconst (pc := 34) cx dX6_retreat_34 ?_
      refine r_iastore (pc := 35) cx (lw52 hM) rfl (by decide) dX6_retreat_35 (fun σ2 => ?_)
      refine r_aload_n (pc := 36) cx dX6_retreat_36 rfl ?_
      refine r_get (pc := 37) cx hcl_X6 qc_X6 (lw47 hM) (j := 6) (by decide) wf_X6_25 dX6_retreat_37 (x := .ref (ad 53)) rfl ?_
      refine r_iload_n (pc := 40) cx dX6_retreat_40 rfl ?_
      refine r_iconst (pc := 41) cx dX6_retreat_41 ?_
      refine r_iastore (pc := 42) cx (lw53 hM) rfl (by decide) dX6_retreat_42 (fun σ3 => ?_)
      refine r_iinc (pc := 43) cx dX6_retreat_43 rfl (by decide) rfl ?_
      refine r_goto (pc := 46) (tgt := 23) cx dX6_retreat_46 (by decide) ?_
      exact qS.sub (qsub_cons rfl (qsub_cons rfl (qsub_nil _))) (ih _ _)
def fX6_retreat_c2 : Nat → Int → qSt → Option (Int × qSt)
  | 0, _, _ => none
  | f + 1, x1, σ => (if qI 12 ≤ qI x1 then (fX6_retreat_c23 qFU 0 σ) else (if 0 ≤ x1 ∧ x1 < 12 then (qb (qset σ 60 x1 0) fun (σ1 : qSt) => (fX6_retreat_c2 f (x1 + 1) σ1)) else none))
set_option maxRecDepth 100000 in
set_option maxHeartbeats 4000000 in
theorem tX6_retreat_c2 {p : Program} {l : Launch} {e : Env} {s : State} {m : MethodId} {args : Array Value} {below : List Frame} {meth : Method} {c : Code} {z0 : Nat} {g : qG} {w : qWd} {ad : Nat → Nat} (cx : qCx p s m meth c cX6_retreat 3 RX6 none g z0) (hM : qBM g ad w) : ∀ (f : Nat) (x1 : Int) (σ : qSt), qS p l e qrm2 s m args below meth c 3 g z0 w 0 0 (qQ below g z0 w qrv args s 0 0) (fX6_retreat_c2 f x1 σ) σ 2 [(0, some (.ref (ad 47))), (1, some (.int (qI x1)))] [] := by
  intro f
  induction f with
  | zero => exact fun _ _ => qS.fail
  | succ f ih =>
    intro x1 σ
    unfold fX6_retreat_c2
    refine r_iload_n (pc := 2) cx dX6_retreat_2 rfl ?_
    refine r_bipush (pc := 3) (v := 12) cx dX6_retreat_3 (by decide +kernel) ?_
    refine r_icmp_ge (tgt := 21) cx dX6_retreat_5 (by decide) ?_ ?_
    · refine r_iconst (pc := 21) cx dX6_retreat_21 ?_
      refine r_istore_n (pc := 22) cx dX6_retreat_22 (by decide) rfl ?_
      exact qS.sub (qsub_cons rfl (qsub_cons rfl (qsub_nil _))) (tX6_retreat_c23 cx hM _ _ _)
    · refine r_aload_n (pc := 8) cx dX6_retreat_8 rfl ?_
      refine r_get (pc := 9) cx hcl_X6 qc_X6 (lw47 hM) (j := 13) (by decide) wf_X6_46 dX6_retreat_9 (x := .ref (ad 60)) rfl ?_
      refine r_iload_n (pc := 12) cx dX6_retreat_12 rfl ?_
      refine r_iconst (pc := 13) cx dX6_retreat_13 ?_
      refine r_iastore (pc := 14) cx (lw60 hM) rfl (by decide) dX6_retreat_14 (fun σ1 => ?_)
      refine r_iinc (pc := 15) cx dX6_retreat_15 rfl (by decide) rfl ?_
      refine r_goto (pc := 18) (tgt := 2) cx dX6_retreat_18 (by decide) ?_
      exact qS.sub (qsub_cons rfl (qsub_cons rfl (qsub_nil _))) (ih _ _)
def fX6_retreat (σ : qSt) : Option (Int × qSt) :=
  (fX6_retreat_c2 qFU 0 σ)
set_option maxRecDepth 100000 in
set_option maxHeartbeats 4000000 in
theorem tX6_retreat {l : Launch} {z0 : Nat} {g : qG} {w : qWd} {ad : Nat → Nat} (hM : qBM g ad w) (σ : qSt) : qCT l yX6_retreat cX6_retreat 3 none qrm2 g z0 w [.ref (ad 47)] σ (fX6_retreat σ) qrv := by
  refine qCT.of [(0, some (.ref (ad 47)))] (by decide +kernel) (Nat.le_of_ble_eq_true rfl) rfl ?_
  intro p e s m args below meth c cx
  unfold fX6_retreat
  refine r_iconst (pc := 0) cx dX6_retreat_0 ?_
  refine r_istore_n (pc := 1) cx dX6_retreat_1 (by decide) rfl ?_
  exact qS.sub (qsub_cons rfl (qsub_cons rfl (qsub_nil _))) (tX6_retreat_c2 cx hM _ _ _)
def fX6_back_c113 (k39 : Int → Int → qSt → Option (Int × qSt)) : Nat → Int → Int → Int → qSt → Option (Int × qSt)
  | 0, _, _, _, _ => none
  | f + 1, x1, x2, x3, σ => (if qI (σ 47 19) ≤ qI x3 then (k39 x1 (x2 + 1) σ) else (if 0 ≤ x3 ∧ x3 < 4 then (if 0 ≤ x3 ∧ x3 < 4 then (qb (qset σ 62 x3 ((σ 62 x3) - 1)) fun (σ7 : qSt) => (fX6_back_c113 k39 f x1 x2 (x3 + 1) σ7)) else none) else none))
set_option maxRecDepth 100000 in
set_option maxHeartbeats 4000000 in
theorem tX6_back_c113 {p : Program} {l : Launch} {e : Env} {s : State} {m : MethodId} {args : Array Value} {below : List Frame} {meth : Method} {c : Code} {z0 : Nat} {g : qG} {w : qWd} {ad : Nat → Nat} (cx : qCx p s m meth c cX6_back 4 RX6 (some .int) g z0) (hM : qBM g ad w) {k39 : Int → Int → qSt → Option (Int × qSt)} (hk39 : ∀ (x1 : Int) (x2 : Int) (σ : qSt), qS p l e qrm3 s m args below meth c 4 g z0 w 0 0 (qQ below g z0 w qri args s 0 0) (k39 x1 x2 σ) σ 39 [(0, some (.ref (ad 47))), (1, some (.int (qI x1))), (2, some (.int (qI x2)))] []) : ∀ (f : Nat) (x1 : Int) (x2 : Int) (x3 : Int) (σ : qSt), qS p l e qrm3 s m args below meth c 4 g z0 w 0 0 (qQ below g z0 w qri args s 0 0) (fX6_back_c113 k39 f x1 x2 x3 σ) σ 113 [(0, some (.ref (ad 47))), (1, some (.int (qI x1))), (2, some (.int (qI x2))), (3, some (.int (qI x3)))] [] := by
  intro f
  induction f with
  | zero => exact fun _ _ _ _ => qS.fail
  | succ f ih =>
    intro x1 x2 x3 σ
    unfold fX6_back_c113
    refine r_iload_n (pc := 113) cx dX6_back_113 rfl ?_
    refine r_aload_n (pc := 114) cx dX6_back_114 rfl ?_
    refine r_get (pc := 115) cx hcl_X6 qc_X6 (lw47 hM) (j := 19) (by decide) wf_X6_66 dX6_back_115 (x := .int (qI (σ 47 19))) rfl ?_
    refine r_icmp_ge (tgt := 137) cx dX6_back_118 (by decide) ?_ ?_
    · refine r_iinc (pc := 137) cx dX6_back_137 rfl (by decide) rfl ?_
      refine r_goto (pc := 140) (tgt := 39) cx dX6_back_140 (by decide) ?_
      exact qS.sub (qsub_cons rfl (qsub_cons rfl (qsub_cons rfl (qsub_nil _)))) (hk39 _ _ _)
    · refine r_aload_n (pc := 121) cx dX6_back_121 rfl ?_
      refine r_get (pc := 122) cx hcl_X6 qc_X6 (lw47 hM) (j := 21) (by decide) wf_X6_52 dX6_back_122 (x := .ref (ad 62)) rfl ?_
      refine r_iload_n (pc := 125) cx dX6_back_125 rfl ?_
      refine r_dup2 (pc := 126) cx dX6_back_126 rfl rfl ?_
      refine r_iaload (pc := 127) cx (lw62 hM) rfl (by decide) dX6_back_127 ?_
      refine r_iconst (pc := 128) cx dX6_back_128 ?_
      refine r_isub (pc := 129) cx dX6_back_129 ?_
      refine r_iastore (pc := 130) cx (lw62 hM) rfl (by decide) dX6_back_130 (fun σ7 => ?_)
      refine r_iinc (pc := 131) cx dX6_back_131 rfl (by decide) rfl ?_
      refine r_goto (pc := 134) (tgt := 113) cx dX6_back_134 (by decide) ?_
      exact qS.sub (qsub_cons rfl (qsub_cons rfl (qsub_cons rfl (qsub_cons rfl (qsub_nil _))))) (ih _ _ _ _)
def fX6_back_c50 (k39 : Int → Int → qSt → Option (Int × qSt)) : Nat → Int → Int → Int → qSt → Option (Int × qSt)
  | 0, _, _, _, _ => none
  | f + 1, x1, x2, x3, σ => (if qI 12 ≤ qI x3 then (qb (qset σ 47 17 ((σ 47 17) - (qi2l (σ 47 14)))) fun (σ3 : qSt) => (qb (qset σ3 47 15 ((σ3 47 15) - 1)) fun (σ4 : qSt) => (qb (qset σ4 47 16 ((σ4 47 16) - 1)) fun (σ5 : qSt) => (fX6_back_c113 k39 qFU x1 x2 0 σ5)))) else (if 0 ≤ x3 ∧ x3 < 12 then (if 0 ≤ x3 ∧ x3 < 12 then (if 0 ≤ x3 ∧ x3 < 12 then (qb (qset σ 58 x3 ((σ 58 x3) - (σ 60 x3))) fun (σ6 : qSt) => (fX6_back_c50 k39 f x1 x2 (x3 + 1) σ6)) else none) else none) else none))
set_option maxRecDepth 100000 in
set_option maxHeartbeats 4000000 in
theorem tX6_back_c50 {p : Program} {l : Launch} {e : Env} {s : State} {m : MethodId} {args : Array Value} {below : List Frame} {meth : Method} {c : Code} {z0 : Nat} {g : qG} {w : qWd} {ad : Nat → Nat} (cx : qCx p s m meth c cX6_back 4 RX6 (some .int) g z0) (hM : qBM g ad w) {k39 : Int → Int → qSt → Option (Int × qSt)} (hk39 : ∀ (x1 : Int) (x2 : Int) (σ : qSt), qS p l e qrm3 s m args below meth c 4 g z0 w 0 0 (qQ below g z0 w qri args s 0 0) (k39 x1 x2 σ) σ 39 [(0, some (.ref (ad 47))), (1, some (.int (qI x1))), (2, some (.int (qI x2)))] []) : ∀ (f : Nat) (x1 : Int) (x2 : Int) (x3 : Int) (σ : qSt), qS p l e qrm3 s m args below meth c 4 g z0 w 0 0 (qQ below g z0 w qri args s 0 0) (fX6_back_c50 k39 f x1 x2 x3 σ) σ 50 [(0, some (.ref (ad 47))), (1, some (.int (qI x1))), (2, some (.int (qI x2))), (3, some (.int (qI x3)))] [] := by
  intro f
  induction f with
  | zero => exact fun _ _ _ _ => qS.fail
  | succ f ih =>
    intro x1 x2 x3 σ
    unfold fX6_back_c50
    refine r_iload_n (pc := 50) cx dX6_back_50 rfl ?_
    refine r_bipush (pc := 51) (v := 12) cx dX6_back_51 (by decide +kernel) ?_
    refine r_icmp_ge (tgt := 77) cx dX6_back_53 (by decide) ?_ ?_
    · refine r_aload_n (pc := 77) cx dX6_back_77 rfl ?_
      refine r_dup (pc := 78) cx dX6_back_78 rfl ?_
      refine r_get (pc := 79) cx hcl_X6 qc_X6 (lw47 hM) (j := 17) (by decide) wf_X6_134 dX6_back_79 (x := .long (qJ (σ 47 17))) rfl ?_
      refine r_aload_n (pc := 82) cx dX6_back_82 rfl ?_
      refine r_get (pc := 83) cx hcl_X6 qc_X6 (lw47 hM) (j := 14) (by decide) wf_X6_100 dX6_back_83 (x := .int (qI (σ 47 14))) rfl ?_
      refine r_i2l (pc := 86) cx dX6_back_86 ?_
      refine r_lsub (pc := 87) cx dX6_back_87 ?_
      refine r_putl (pc := 88) (J := 17) cx hcl_X6 qc_X6 (lw47 hM) (j := 17) (by decide) tyX6_ok nmX6 wf_X6_134 rfl (by decide +kernel) rfl (Nat.le_of_ble_eq_true rfl) (fun r => rfl) dX6_back_88 (fun σ3 => ?_)
      refine r_aload_n (pc := 91) cx dX6_back_91 rfl ?_
      refine r_dup (pc := 92) cx dX6_back_92 rfl ?_
      refine r_get (pc := 93) cx hcl_X6 qc_X6 (lw47 hM) (j := 15) (by decide) wf_X6_123 dX6_back_93 (x := .int (qI (σ3 47 15))) rfl ?_
      refine r_iconst (pc := 96) cx dX6_back_96 ?_
      refine r_isub (pc := 97) cx dX6_back_97 ?_
      refine r_puti (pc := 98) (J := 15) cx hcl_X6 qc_X6 (lw47 hM) (j := 15) (by decide) tyX6_ok nmX6 wf_X6_123 rfl (by decide +kernel) rfl (Nat.le_of_ble_eq_true rfl) (fun r => rfl) dX6_back_98 (fun σ4 => ?_)
      refine r_aload_n (pc := 101) cx dX6_back_101 rfl ?_
      refine r_dup (pc := 102) cx dX6_back_102 rfl ?_
      refine r_get (pc := 103) cx hcl_X6 qc_X6 (lw47 hM) (j := 16) (by decide) wf_X6_87 dX6_back_103 (x := .int (qI (σ4 47 16))) rfl ?_
      refine r_iconst (pc := 106) cx dX6_back_106 ?_
      refine r_isub (pc := 107) cx dX6_back_107 ?_
      refine r_puti (pc := 108) (J := 16) cx hcl_X6 qc_X6 (lw47 hM) (j := 16) (by decide) tyX6_ok nmX6 wf_X6_87 rfl (by decide +kernel) rfl (Nat.le_of_ble_eq_true rfl) (fun r => rfl) dX6_back_108 (fun σ5 => ?_)
      refine r_iconst (pc := 111) cx dX6_back_111 ?_
      refine r_istore_n (pc := 112) cx dX6_back_112 (by decide) rfl ?_
      exact qS.sub (qsub_cons rfl (qsub_cons rfl (qsub_cons rfl (qsub_cons rfl (qsub_nil _))))) (tX6_back_c113 cx hM hk39 _ _ _ _ _)
    · refine r_aload_n (pc := 56) cx dX6_back_56 rfl ?_
      refine r_get (pc := 57) cx hcl_X6 qc_X6 (lw47 hM) (j := 11) (by decide) wf_X6_40 dX6_back_57 (x := .ref (ad 58)) rfl ?_
      refine r_iload_n (pc := 60) cx dX6_back_60 rfl ?_
      refine r_dup2 (pc := 61) cx dX6_back_61 rfl rfl ?_
      refine r_iaload (pc := 62) cx (lw58 hM) rfl (by decide) dX6_back_62 ?_
      refine r_aload_n (pc := 63) cx dX6_back_63 rfl ?_
      refine r_get (pc := 64) cx hcl_X6 qc_X6 (lw47 hM) (j := 13) (by decide) wf_X6_46 dX6_back_64 (x := .ref (ad 60)) rfl ?_
      refine r_iload_n (pc := 67) cx dX6_back_67 rfl ?_
      refine r_iaload (pc := 68) cx (lw60 hM) rfl (by decide) dX6_back_68 ?_
      refine r_isub (pc := 69) cx dX6_back_69 ?_
      refine r_iastore (pc := 70) cx (lw58 hM) rfl (by decide) dX6_back_70 (fun σ6 => ?_)
      refine r_iinc (pc := 71) cx dX6_back_71 rfl (by decide) rfl ?_
      refine r_goto (pc := 74) (tgt := 50) cx dX6_back_74 (by decide) ?_
      exact qS.sub (qsub_cons rfl (qsub_cons rfl (qsub_cons rfl (qsub_cons rfl (qsub_nil _))))) (ih _ _ _ _)
def fX6_back_c39 : Nat → Int → Int → qSt → Option (Int × qSt)
  | 0, _, _, _ => none
  | f + 1, x1, x2, σ => (if qI x1 ≤ qI x2 then (some ((σ 47 15), σ)) else (qbd (fX6_retreat σ) fun (r45 : Int) (σ2 : qSt) => (fX6_back_c50 (fX6_back_c39 f) qFU x1 x2 0 σ2)))
set_option maxRecDepth 100000 in
set_option maxHeartbeats 4000000 in
theorem tX6_back_c39 {p : Program} {l : Launch} {e : Env} {s : State} {m : MethodId} {args : Array Value} {below : List Frame} {meth : Method} {c : Code} {z0 : Nat} {g : qG} {w : qWd} {ad : Nat → Nat} (cx : qCx p s m meth c cX6_back 4 RX6 (some .int) g z0) (hM : qBM g ad w) : ∀ (f : Nat) (x1 : Int) (x2 : Int) (σ : qSt), qS p l e qrm3 s m args below meth c 4 g z0 w 0 0 (qQ below g z0 w qri args s 0 0) (fX6_back_c39 f x1 x2 σ) σ 39 [(0, some (.ref (ad 47))), (1, some (.int (qI x1))), (2, some (.int (qI x2)))] [] := by
  intro f
  induction f with
  | zero => exact fun _ _ _ => qS.fail
  | succ f ih =>
    intro x1 x2 σ
    unfold fX6_back_c39
    refine r_iload_n (pc := 39) cx dX6_back_39 rfl ?_
    refine r_iload_n (pc := 40) cx dX6_back_40 rfl ?_
    refine r_icmp_ge (tgt := 143) cx dX6_back_41 (by decide) ?_ ?_
    · refine r_aload_n (pc := 143) cx dX6_back_143 rfl ?_
      refine r_get (pc := 144) cx hcl_X6 qc_X6 (lw47 hM) (j := 15) (by decide) wf_X6_123 dX6_back_144 (x := .int (qI (σ 47 15))) rfl ?_
      exact r_ireturn (w0 := w) (fun _ _ h => h) (Nat.zero_le _) (Nat.zero_le _) cx dX6_back_147 rfl
    · refine r_aload_n (pc := 44) cx dX6_back_44 rfl ?_
      refine r_dVv (pc := 45) cx (tX6_retreat hM  σ) qm_X6_retreat qv_X6_retreat hcl_X6 (lw47 hM) wm_X6_141 dX6_back_45 rfl rfl (Nat.le_of_ble_eq_true rfl) ⟨Nat.le_of_ble_eq_true rfl, Nat.le_of_ble_eq_true rfl⟩ ⟨rfl, rfl⟩ ⟨Nat.zero_le _, Nat.zero_le _⟩ (fun r45 σ2 => ?_)
      refine r_iconst (pc := 48) cx dX6_back_48 ?_
      refine r_istore_n (pc := 49) cx dX6_back_49 (by decide) rfl ?_
      exact qS.sub (qsub_cons rfl (qsub_cons rfl (qsub_cons rfl (qsub_cons rfl (qsub_nil _))))) (tX6_back_c50 cx hM ih _ _ _ _ _)
def fX6_back_c29 (x1 : Int) (s0 : Int) (σ : qSt) : Option (Int × qSt) :=
  (qbd (fX6_refused s0 σ) fun (r29 : Int) (σ1 : qSt) => (if qI r29 = 0 then (fX6_back_c39 qFU x1 0 σ1) else (some (0, σ1))))
set_option maxRecDepth 100000 in
set_option maxHeartbeats 4000000 in
theorem tX6_back_c29 {p : Program} {l : Launch} {e : Env} {s : State} {m : MethodId} {args : Array Value} {below : List Frame} {meth : Method} {c : Code} {z0 : Nat} {g : qG} {w : qWd} {ad : Nat → Nat} (cx : qCx p s m meth c cX6_back 4 RX6 (some .int) g z0) (hM : qBM g ad w) (x1 : Int) (s0 : Int) (σ : qSt) : qS p l e qrm3 s m args below meth c 4 g z0 w 0 0 (qQ below g z0 w qri args s 0 0) (fX6_back_c29 x1 s0 σ) σ 29 [(0, some (.ref (ad 47))), (1, some (.int (qI x1)))] [.int (qI s0), .ref (ad 47)] := by
  unfold fX6_back_c29
  refine r_dVi (pc := 29) cx (tX6_refused hM s0 σ) qm_X6_refused qv_X6_refused hcl_X6 (lw47 hM) wm_X6_84 dX6_back_29 rfl rfl (Nat.le_of_ble_eq_true rfl) ⟨Nat.le_of_ble_eq_true rfl, Nat.le_of_ble_eq_true rfl⟩ ⟨rfl, rfl⟩ ⟨Nat.zero_le _, Nat.zero_le _⟩ (fun r29 σ1 => ?_)
  refine r_if_eq (tgt := 37) cx dX6_back_32 (by decide) ?_ ?_
  · refine r_iconst (pc := 37) cx dX6_back_37 ?_
    refine r_istore_n (pc := 38) cx dX6_back_38 (by decide) rfl ?_
    exact qS.sub (qsub_cons rfl (qsub_cons rfl (qsub_cons rfl (qsub_nil _)))) (tX6_back_c39 cx hM _ _ _ _)
  · refine r_iconst (pc := 35) cx dX6_back_35 ?_
    exact r_ireturn (w0 := w) (fun _ _ h => h) (Nat.zero_le _) (Nat.zero_le _) cx dX6_back_36 rfl
def fX6_back (p0 : Int) (σ : qSt) : Option (Int × qSt) :=
  ((fX6_within σ p0 1 200).bind fun (r6 : Int) => (if qI r6 = 0 then (fX6_back_c29 p0 1 σ) else (if qI p0 ≤ qI (σ 47 16) then (fX6_back_c29 p0 0 σ) else (fX6_back_c29 p0 2 σ))))
set_option maxRecDepth 100000 in
set_option maxHeartbeats 4000000 in
theorem tX6_back {l : Launch} {z0 : Nat} {g : qG} {w : qWd} {ad : Nat → Nat} (hM : qBM g ad w) (p0 : Int) (σ : qSt) : qCT l yX6_back cX6_back 4 (some .int) qrm3 g z0 w [.ref (ad 47), .int (qI p0)] σ (fX6_back p0 σ) qri := by
  refine qCT.of [(0, some (.ref (ad 47))), (1, some (.int (qI p0)))] (by decide +kernel) (Nat.le_of_ble_eq_true rfl) rfl ?_
  intro p e s m args below meth c cx
  unfold fX6_back
  refine r_aload_n (pc := 0) cx dX6_back_0 rfl ?_
  refine r_iload_n (pc := 1) cx dX6_back_1 rfl ?_
  refine r_iconst (pc := 2) cx dX6_back_2 ?_
  refine r_sipush (pc := 3) (v := 200) cx dX6_back_3 (by decide +kernel) ?_
  refine r_pSi (pc := 6) cx (tX6_within  p0 1 200 σ) qm_X6_within qs_X6_within wm_X6_62 dX6_back_6 rfl rfl (Nat.le_of_ble_eq_true rfl) ⟨Nat.le_of_ble_eq_true rfl, Nat.le_of_ble_eq_true rfl⟩ ⟨rfl, rfl⟩ ⟨Nat.zero_le _, Nat.zero_le _⟩ (fun r6 => ?_)
  refine r_if_ne (tgt := 16) cx dX6_back_9 (by decide) ?_ ?_
  · refine r_iload_n (pc := 16) cx dX6_back_16 rfl ?_
    refine r_aload_n (pc := 17) cx dX6_back_17 rfl ?_
    refine r_get (pc := 18) cx hcl_X6 qc_X6 (lw47 hM) (j := 16) (by decide) wf_X6_87 dX6_back_18 (x := .int (qI (σ 47 16))) rfl ?_
    refine r_icmp_le (tgt := 28) cx dX6_back_21 (by decide) ?_ ?_
    · refine r_iconst (pc := 28) cx dX6_back_28 ?_
      exact qS.sub (qsub_cons rfl (qsub_cons rfl (qsub_nil _))) (tX6_back_c29 cx hM _ _ _)
    · refine r_iconst (pc := 24) cx dX6_back_24 ?_
      refine r_goto (pc := 25) (tgt := 29) cx dX6_back_25 (by decide) ?_
      exact qS.sub (qsub_cons rfl (qsub_cons rfl (qsub_nil _))) (tX6_back_c29 cx hM _ _ _)
  · refine r_iconst (pc := 12) cx dX6_back_12 ?_
    refine r_goto (pc := 13) (tgt := 29) cx dX6_back_13 (by decide) ?_
    exact qS.sub (qsub_cons rfl (qsub_cons rfl (qsub_nil _))) (tX6_back_c29 cx hM _ _ _)
def fX6_meet_c122 (x1 : Int) (x5 : Int) (s0 : Int) (σ : qSt) : Option (Int × qSt) :=
  (if 0 ≤ (x1 + x5) ∧ (x1 + x5) < 384 then (if 0 ≤ (x1 + x5) ∧ (x1 + x5) < 384 then (qb (qset σ 56 (x1 + x5) ((σ 56 (x1 + x5)) - s0)) fun (σ6 : qSt) => (if 0 ≤ ((x1 + x5) + 2) ∧ ((x1 + x5) + 2) < 384 then (if 0 ≤ ((x1 + x5) + 2) ∧ ((x1 + x5) + 2) < 384 then (qb (qset σ6 56 ((x1 + x5) + 2) ((σ6 56 ((x1 + x5) + 2)) - s0)) fun (σ7 : qSt) => (if 0 ≤ ((x1 + 1) - x5) ∧ ((x1 + 1) - x5) < 384 then (if 0 ≤ ((x1 + 1) - x5) ∧ ((x1 + 1) - x5) < 384 then (qb (qset σ7 56 ((x1 + 1) - x5) ((σ7 56 ((x1 + 1) - x5)) + s0)) fun (σ8 : qSt) => (if 0 ≤ ((x1 + 3) - x5) ∧ ((x1 + 3) - x5) < 384 then (if 0 ≤ ((x1 + 3) - x5) ∧ ((x1 + 3) - x5) < 384 then (qb (qset σ8 56 ((x1 + 3) - x5) ((σ8 56 ((x1 + 3) - x5)) + s0)) fun (σ9 : qSt) => (some (0, σ9))) else none) else none)) else none) else none)) else none) else none)) else none) else none)
set_option maxRecDepth 100000 in
set_option maxHeartbeats 4000000 in
theorem tX6_meet_c122 {p : Program} {l : Launch} {e : Env} {s : State} {m : MethodId} {args : Array Value} {below : List Frame} {meth : Method} {c : Code} {z0 : Nat} {g : qG} {w : qWd} {ad : Nat → Nat} (cx : qCx p s m meth c cX6_meet 11 RX6 none g z0) (hM : qBM g ad w) (x1 : Int) (x5 : Int) (s0 : Int) (σ : qSt) : qS p l e qrm0 s m args below meth c 11 g z0 w 0 0 (qQ below g z0 w qrv args s 0 0) (fX6_meet_c122 x1 x5 s0 σ) σ 122 [(0, some (.ref (ad 47))), (1, some (.int (qI x1))), (5, some (.int (qI x5)))] [.int (qI s0)] := by
  unfold fX6_meet_c122
  refine r_istore (pc := 122) cx dX6_meet_122 (by decide) rfl ?_
  refine r_aload_n (pc := 124) cx dX6_meet_124 rfl ?_
  refine r_get (pc := 125) cx hcl_X6 qc_X6 (lw47 hM) (j := 9) (by decide) wf_X6_34 dX6_meet_125 (x := .ref (ad 56)) rfl ?_
  refine r_iload_n (pc := 128) cx dX6_meet_128 rfl ?_
  refine r_iload (pc := 129) cx dX6_meet_129 rfl ?_
  refine r_iadd (pc := 131) cx dX6_meet_131 ?_
  refine r_dup2 (pc := 132) cx dX6_meet_132 rfl rfl ?_
  refine r_iaload (pc := 133) cx (lw56 hM) rfl (by decide) dX6_meet_133 ?_
  refine r_iload (pc := 134) cx dX6_meet_134 rfl ?_
  refine r_isub (pc := 136) cx dX6_meet_136 ?_
  refine r_iastore (pc := 137) cx (lw56 hM) rfl (by decide) dX6_meet_137 (fun σ6 => ?_)
  refine r_aload_n (pc := 138) cx dX6_meet_138 rfl ?_
  refine r_get (pc := 139) cx hcl_X6 qc_X6 (lw47 hM) (j := 9) (by decide) wf_X6_34 dX6_meet_139 (x := .ref (ad 56)) rfl ?_
  refine r_iload_n (pc := 142) cx dX6_meet_142 rfl ?_
  refine r_iload (pc := 143) cx dX6_meet_143 rfl ?_
  refine r_iadd (pc := 145) cx dX6_meet_145 ?_
  refine r_iconst (pc := 146) cx dX6_meet_146 ?_
  refine r_iadd (pc := 147) cx dX6_meet_147 ?_
  refine r_dup2 (pc := 148) cx dX6_meet_148 rfl rfl ?_
  refine r_iaload (pc := 149) cx (lw56 hM) rfl (by decide) dX6_meet_149 ?_
  refine r_iload (pc := 150) cx dX6_meet_150 rfl ?_
  refine r_isub (pc := 152) cx dX6_meet_152 ?_
  refine r_iastore (pc := 153) cx (lw56 hM) rfl (by decide) dX6_meet_153 (fun σ7 => ?_)
  refine r_aload_n (pc := 154) cx dX6_meet_154 rfl ?_
  refine r_get (pc := 155) cx hcl_X6 qc_X6 (lw47 hM) (j := 9) (by decide) wf_X6_34 dX6_meet_155 (x := .ref (ad 56)) rfl ?_
  refine r_iload_n (pc := 158) cx dX6_meet_158 rfl ?_
  refine r_iconst (pc := 159) cx dX6_meet_159 ?_
  refine r_iadd (pc := 160) cx dX6_meet_160 ?_
  refine r_iload (pc := 161) cx dX6_meet_161 rfl ?_
  refine r_isub (pc := 163) cx dX6_meet_163 ?_
  refine r_dup2 (pc := 164) cx dX6_meet_164 rfl rfl ?_
  refine r_iaload (pc := 165) cx (lw56 hM) rfl (by decide) dX6_meet_165 ?_
  refine r_iload (pc := 166) cx dX6_meet_166 rfl ?_
  refine r_iadd (pc := 168) cx dX6_meet_168 ?_
  refine r_iastore (pc := 169) cx (lw56 hM) rfl (by decide) dX6_meet_169 (fun σ8 => ?_)
  refine r_aload_n (pc := 170) cx dX6_meet_170 rfl ?_
  refine r_get (pc := 171) cx hcl_X6 qc_X6 (lw47 hM) (j := 9) (by decide) wf_X6_34 dX6_meet_171 (x := .ref (ad 56)) rfl ?_
  refine r_iload_n (pc := 174) cx dX6_meet_174 rfl ?_
  refine r_iconst (pc := 175) cx dX6_meet_175 ?_
  refine r_iadd (pc := 176) cx dX6_meet_176 ?_
  refine r_iload (pc := 177) cx dX6_meet_177 rfl ?_
  refine r_isub (pc := 179) cx dX6_meet_179 ?_
  refine r_dup2 (pc := 180) cx dX6_meet_180 rfl rfl ?_
  refine r_iaload (pc := 181) cx (lw56 hM) rfl (by decide) dX6_meet_181 ?_
  refine r_iload (pc := 182) cx dX6_meet_182 rfl ?_
  refine r_iadd (pc := 184) cx dX6_meet_184 ?_
  refine r_iastore (pc := 185) cx (lw56 hM) rfl (by decide) dX6_meet_185 (fun σ9 => ?_)
  exact r_return (w0 := w) (fun _ _ h => h) (Nat.zero_le _) (Nat.zero_le _) cx dX6_meet_186 rfl
def fX6_meet_c106 (x1 : Int) (x5 : Int) (x6 : Int) (s0 : Int) (σ : qSt) : Option (Int × qSt) :=
  (if qI s0 ≤ qI x6 then (fX6_meet_c122 x1 x5 s0 σ) else (fX6_meet_c122 x1 x5 x6 σ))
set_option maxRecDepth 100000 in
set_option maxHeartbeats 4000000 in
theorem tX6_meet_c106 {p : Program} {l : Launch} {e : Env} {s : State} {m : MethodId} {args : Array Value} {below : List Frame} {meth : Method} {c : Code} {z0 : Nat} {g : qG} {w : qWd} {ad : Nat → Nat} (cx : qCx p s m meth c cX6_meet 11 RX6 none g z0) (hM : qBM g ad w) (x1 : Int) (x5 : Int) (x6 : Int) (s0 : Int) (σ : qSt) : qS p l e qrm0 s m args below meth c 11 g z0 w 0 0 (qQ below g z0 w qrv args s 0 0) (fX6_meet_c106 x1 x5 x6 s0 σ) σ 106 [(0, some (.ref (ad 47))), (1, some (.int (qI x1))), (5, some (.int (qI x5))), (6, some (.int (qI x6)))] [.int (qI s0)] := by
  unfold fX6_meet_c106
  refine r_istore (pc := 106) cx dX6_meet_106 (by decide) rfl ?_
  refine r_iload (pc := 108) cx dX6_meet_108 rfl ?_
  refine r_iload (pc := 110) cx dX6_meet_110 rfl ?_
  refine r_icmp_ge (tgt := 120) cx dX6_meet_112 (by decide) ?_ ?_
  · refine r_iload (pc := 120) cx dX6_meet_120 rfl ?_
    exact qS.sub (qsub_cons rfl (qsub_cons rfl (qsub_cons rfl (qsub_nil _)))) (tX6_meet_c122 cx hM _ _ _ _)
  · refine r_iload (pc := 115) cx dX6_meet_115 rfl ?_
    refine r_goto (pc := 117) (tgt := 122) cx dX6_meet_117 (by decide) ?_
    exact qS.sub (qsub_cons rfl (qsub_cons rfl (qsub_cons rfl (qsub_nil _)))) (tX6_meet_c122 cx hM _ _ _ _)
def fX6_meet_c66 (x1 : Int) (x5 : Int) (s0 : Int) (σ : qSt) : Option (Int × qSt) :=
  (if 0 ≤ (x1 + x5) ∧ (x1 + x5) < 384 then (qb (σ 56 (x1 + x5)) fun (y4 : Int) => (if 0 ≤ ((x1 + x5) + 2) ∧ ((x1 + x5) + 2) < 384 then (qb (σ 56 ((x1 + x5) + 2)) fun (y5 : Int) => (if qI y5 ≤ qI y4 then (fX6_meet_c106 x1 x5 s0 y5 σ) else (fX6_meet_c106 x1 x5 s0 y4 σ))) else none)) else none)
set_option maxRecDepth 100000 in
set_option maxHeartbeats 4000000 in
theorem tX6_meet_c66 {p : Program} {l : Launch} {e : Env} {s : State} {m : MethodId} {args : Array Value} {below : List Frame} {meth : Method} {c : Code} {z0 : Nat} {g : qG} {w : qWd} {ad : Nat → Nat} (cx : qCx p s m meth c cX6_meet 11 RX6 none g z0) (hM : qBM g ad w) (x1 : Int) (x5 : Int) (s0 : Int) (σ : qSt) : qS p l e qrm0 s m args below meth c 11 g z0 w 0 0 (qQ below g z0 w qrv args s 0 0) (fX6_meet_c66 x1 x5 s0 σ) σ 66 [(0, some (.ref (ad 47))), (1, some (.int (qI x1))), (5, some (.int (qI x5)))] [.int (qI s0)] := by
  unfold fX6_meet_c66
  refine r_istore (pc := 66) cx dX6_meet_66 (by decide) rfl ?_
  refine r_aload_n (pc := 68) cx dX6_meet_68 rfl ?_
  refine r_get (pc := 69) cx hcl_X6 qc_X6 (lw47 hM) (j := 9) (by decide) wf_X6_34 dX6_meet_69 (x := .ref (ad 56)) rfl ?_
  refine r_iload_n (pc := 72) cx dX6_meet_72 rfl ?_
  refine r_iload (pc := 73) cx dX6_meet_73 rfl ?_
  refine r_iadd (pc := 75) cx dX6_meet_75 ?_
  refine r_iaload (pc := 76) cx (lw56 hM) rfl (by decide) dX6_meet_76 ?_
  refine r_nmi (fun y4 => ?_)
  refine r_istore (pc := 77) cx dX6_meet_77 (by decide) rfl ?_
  refine r_aload_n (pc := 79) cx dX6_meet_79 rfl ?_
  refine r_get (pc := 80) cx hcl_X6 qc_X6 (lw47 hM) (j := 9) (by decide) wf_X6_34 dX6_meet_80 (x := .ref (ad 56)) rfl ?_
  refine r_iload_n (pc := 83) cx dX6_meet_83 rfl ?_
  refine r_iload (pc := 84) cx dX6_meet_84 rfl ?_
  refine r_iadd (pc := 86) cx dX6_meet_86 ?_
  refine r_iconst (pc := 87) cx dX6_meet_87 ?_
  refine r_iadd (pc := 88) cx dX6_meet_88 ?_
  refine r_iaload (pc := 89) cx (lw56 hM) rfl (by decide) dX6_meet_89 ?_
  refine r_nmi (fun y5 => ?_)
  refine r_istore (pc := 90) cx dX6_meet_90 (by decide) rfl ?_
  refine r_iload (pc := 92) cx dX6_meet_92 rfl ?_
  refine r_iload (pc := 94) cx dX6_meet_94 rfl ?_
  refine r_icmp_ge (tgt := 104) cx dX6_meet_96 (by decide) ?_ ?_
  · refine r_iload (pc := 104) cx dX6_meet_104 rfl ?_
    exact qS.sub (qsub_cons rfl (qsub_cons rfl (qsub_cons rfl (qsub_cons rfl (qsub_nil _))))) (tX6_meet_c106 cx hM _ _ _ _ _)
  · refine r_iload (pc := 99) cx dX6_meet_99 rfl ?_
    refine r_goto (pc := 101) (tgt := 106) cx dX6_meet_101 (by decide) ?_
    exact qS.sub (qsub_cons rfl (qsub_cons rfl (qsub_cons rfl (qsub_cons rfl (qsub_nil _))))) (tX6_meet_c106 cx hM _ _ _ _ _)
def fX6_meet_c51 (x1 : Int) (x4 : Int) (s0 : Int) (σ : qSt) : Option (Int × qSt) :=
  (if qI x4 ≤ 0 then (fX6_meet_c66 x1 s0 (-x4) σ) else (fX6_meet_c66 x1 s0 x4 σ))
set_option maxRecDepth 100000 in
set_option maxHeartbeats 4000000 in
theorem tX6_meet_c51 {p : Program} {l : Launch} {e : Env} {s : State} {m : MethodId} {args : Array Value} {below : List Frame} {meth : Method} {c : Code} {z0 : Nat} {g : qG} {w : qWd} {ad : Nat → Nat} (cx : qCx p s m meth c cX6_meet 11 RX6 none g z0) (hM : qBM g ad w) (x1 : Int) (x4 : Int) (s0 : Int) (σ : qSt) : qS p l e qrm0 s m args below meth c 11 g z0 w 0 0 (qQ below g z0 w qrv args s 0 0) (fX6_meet_c51 x1 x4 s0 σ) σ 51 [(0, some (.ref (ad 47))), (1, some (.int (qI x1))), (4, some (.int (qI x4)))] [.int (qI s0)] := by
  unfold fX6_meet_c51
  refine r_istore (pc := 51) cx dX6_meet_51 (by decide) rfl ?_
  refine r_iload (pc := 53) cx dX6_meet_53 rfl ?_
  refine r_if_le (tgt := 63) cx dX6_meet_55 (by decide) ?_ ?_
  · refine r_iload (pc := 63) cx dX6_meet_63 rfl ?_
    refine r_ineg (pc := 65) cx dX6_meet_65 ?_
    exact qS.sub (qsub_cons rfl (qsub_cons rfl (qsub_cons rfl (qsub_nil _)))) (tX6_meet_c66 cx hM _ _ _ _)
  · refine r_iload (pc := 58) cx dX6_meet_58 rfl ?_
    refine r_goto (pc := 60) (tgt := 66) cx dX6_meet_60 (by decide) ?_
    exact qS.sub (qsub_cons rfl (qsub_cons rfl (qsub_cons rfl (qsub_nil _)))) (tX6_meet_c66 cx hM _ _ _ _)
def fX6_meet (p0 : Int) (σ : qSt) : Option (Int × qSt) :=
  (if 0 ≤ p0 ∧ p0 < 384 then (if 0 ≤ (p0 + 2) ∧ (p0 + 2) < 384 then (qb ((σ 56 p0) + (σ 56 (p0 + 2))) fun (y1 : Int) => (if 0 ≤ (p0 + 1) ∧ (p0 + 1) < 384 then (if 0 ≤ (p0 + 3) ∧ (p0 + 3) < 384 then (qb ((σ 56 (p0 + 1)) + (σ 56 (p0 + 3))) fun (y2 : Int) => (qb (qdiv (y1 - y2) 4) fun (y3 : Int) => (if qI y3 ≤ 0 then (fX6_meet_c51 p0 y3 1 σ) else (fX6_meet_c51 p0 y3 0 σ)))) else none) else none)) else none) else none)
set_option maxRecDepth 100000 in
set_option maxHeartbeats 4000000 in
theorem tX6_meet {l : Launch} {z0 : Nat} {g : qG} {w : qWd} {ad : Nat → Nat} (hM : qBM g ad w) (p0 : Int) (σ : qSt) : qCT l yX6_meet cX6_meet 11 none qrm0 g z0 w [.ref (ad 47), .int (qI p0)] σ (fX6_meet p0 σ) qrv := by
  refine qCT.of [(0, some (.ref (ad 47))), (1, some (.int (qI p0)))] (by decide +kernel) (Nat.le_of_ble_eq_true rfl) rfl ?_
  intro p e s m args below meth c cx
  unfold fX6_meet
  refine r_aload_n (pc := 0) cx dX6_meet_0 rfl ?_
  refine r_get (pc := 1) cx hcl_X6 qc_X6 (lw47 hM) (j := 9) (by decide) wf_X6_34 dX6_meet_1 (x := .ref (ad 56)) rfl ?_
  refine r_iload_n (pc := 4) cx dX6_meet_4 rfl ?_
  refine r_iaload (pc := 5) cx (lw56 hM) rfl (by decide) dX6_meet_5 ?_
  refine r_aload_n (pc := 6) cx dX6_meet_6 rfl ?_
  refine r_get (pc := 7) cx hcl_X6 qc_X6 (lw47 hM) (j := 9) (by decide) wf_X6_34 dX6_meet_7 (x := .ref (ad 56)) rfl ?_
  refine r_iload_n (pc := 10) cx dX6_meet_10 rfl ?_
  refine r_iconst (pc := 11) cx dX6_meet_11 ?_
  refine r_iadd (pc := 12) cx dX6_meet_12 ?_
  refine r_iaload (pc := 13) cx (lw56 hM) rfl (by decide) dX6_meet_13 ?_
  refine r_iadd (pc := 14) cx dX6_meet_14 ?_
  refine r_nmi (fun y1 => ?_)
  refine r_istore_n (pc := 15) cx dX6_meet_15 (by decide) rfl ?_
  refine r_aload_n (pc := 16) cx dX6_meet_16 rfl ?_
  refine r_get (pc := 17) cx hcl_X6 qc_X6 (lw47 hM) (j := 9) (by decide) wf_X6_34 dX6_meet_17 (x := .ref (ad 56)) rfl ?_
  refine r_iload_n (pc := 20) cx dX6_meet_20 rfl ?_
  refine r_iconst (pc := 21) cx dX6_meet_21 ?_
  refine r_iadd (pc := 22) cx dX6_meet_22 ?_
  refine r_iaload (pc := 23) cx (lw56 hM) rfl (by decide) dX6_meet_23 ?_
  refine r_aload_n (pc := 24) cx dX6_meet_24 rfl ?_
  refine r_get (pc := 25) cx hcl_X6 qc_X6 (lw47 hM) (j := 9) (by decide) wf_X6_34 dX6_meet_25 (x := .ref (ad 56)) rfl ?_
  refine r_iload_n (pc := 28) cx dX6_meet_28 rfl ?_
  refine r_iconst (pc := 29) cx dX6_meet_29 ?_
  refine r_iadd (pc := 30) cx dX6_meet_30 ?_
  refine r_iaload (pc := 31) cx (lw56 hM) rfl (by decide) dX6_meet_31 ?_
  refine r_iadd (pc := 32) cx dX6_meet_32 ?_
  refine r_nmi (fun y2 => ?_)
  refine r_istore_n (pc := 33) cx dX6_meet_33 (by decide) rfl ?_
  refine r_iload_n (pc := 34) cx dX6_meet_34 rfl ?_
  refine r_iload_n (pc := 35) cx dX6_meet_35 rfl ?_
  refine r_isub (pc := 36) cx dX6_meet_36 ?_
  refine r_iconst (pc := 37) cx dX6_meet_37 ?_
  refine r_idiv (pc := 38) cx dX6_meet_38 (by decide +kernel) ?_
  refine r_nmi (fun y3 => ?_)
  refine r_istore (pc := 39) cx dX6_meet_39 (by decide) rfl ?_
  refine r_iload (pc := 41) cx dX6_meet_41 rfl ?_
  refine r_if_le (tgt := 50) cx dX6_meet_43 (by decide) ?_ ?_
  · refine r_iconst (pc := 50) cx dX6_meet_50 ?_
    exact qS.sub (qsub_cons rfl (qsub_cons rfl (qsub_cons rfl (qsub_nil _)))) (tX6_meet_c51 cx hM _ _ _ _)
  · refine r_iconst (pc := 46) cx dX6_meet_46 ?_
    refine r_goto (pc := 47) (tgt := 51) cx dX6_meet_47 (by decide) ?_
    exact qS.sub (qsub_cons rfl (qsub_cons rfl (qsub_cons rfl (qsub_nil _)))) (tX6_meet_c51 cx hM _ _ _ _)
def fX6_flow_c152 (k26 : Int → Int → qSt → Option (Int × qSt)) : Nat → Int → Int → Int → qSt → Option (Int × qSt)
  | 0, _, _, _, _ => none
  | f + 1, x1, x2, x3, σ => (if qI 384 ≤ qI x3 then (k26 x1 (x2 + 1) σ) else (if 0 ≤ x3 ∧ x3 < 384 then (if 0 ≤ x3 ∧ x3 < 384 then (qb (qset σ 56 x3 (σ 57 x3)) fun (σ5 : qSt) => (fX6_flow_c152 k26 f x1 x2 (x3 + 1) σ5)) else none) else none))
set_option maxRecDepth 100000 in
set_option maxHeartbeats 4000000 in
theorem tX6_flow_c152 {p : Program} {l : Launch} {e : Env} {s : State} {m : MethodId} {args : Array Value} {below : List Frame} {meth : Method} {c : Code} {z0 : Nat} {g : qG} {w : qWd} {ad : Nat → Nat} (cx : qCx p s m meth c cX6_flow 6 RX6 (some .long) g z0) (hM : qBM g ad w) {k26 : Int → Int → qSt → Option (Int × qSt)} (hk26 : ∀ (x1 : Int) (x2 : Int) (σ : qSt), qS p l e qrm1 s m args below meth c 6 g z0 w 0 0 (qQ below g z0 w qrj args s 0 0) (k26 x1 x2 σ) σ 26 [(0, some (.ref (ad 47))), (1, some (.int (qI x1))), (2, some (.int (qI x2)))] []) : ∀ (f : Nat) (x1 : Int) (x2 : Int) (x3 : Int) (σ : qSt), qS p l e qrm1 s m args below meth c 6 g z0 w 0 0 (qQ below g z0 w qrj args s 0 0) (fX6_flow_c152 k26 f x1 x2 x3 σ) σ 152 [(0, some (.ref (ad 47))), (1, some (.int (qI x1))), (2, some (.int (qI x2))), (3, some (.int (qI x3)))] [] := by
  intro f
  induction f with
  | zero => exact fun _ _ _ _ => qS.fail
  | succ f ih =>
    intro x1 x2 x3 σ
    unfold fX6_flow_c152
    refine r_iload_n (pc := 152) cx dX6_flow_152 rfl ?_
    refine r_sipush (pc := 153) (v := 384) cx dX6_flow_153 (by decide +kernel) ?_
    refine r_icmp_ge (tgt := 177) cx dX6_flow_156 (by decide) ?_ ?_
    · refine r_iinc (pc := 177) cx dX6_flow_177 rfl (by decide) rfl ?_
      refine r_goto (pc := 180) (tgt := 26) cx dX6_flow_180 (by decide) ?_
      exact qS.sub (qsub_cons rfl (qsub_cons rfl (qsub_cons rfl (qsub_nil _)))) (hk26 _ _ _)
    · refine r_aload_n (pc := 159) cx dX6_flow_159 rfl ?_
      refine r_get (pc := 160) cx hcl_X6 qc_X6 (lw47 hM) (j := 9) (by decide) wf_X6_34 dX6_flow_160 (x := .ref (ad 56)) rfl ?_
      refine r_iload_n (pc := 163) cx dX6_flow_163 rfl ?_
      refine r_aload_n (pc := 164) cx dX6_flow_164 rfl ?_
      refine r_get (pc := 165) cx hcl_X6 qc_X6 (lw47 hM) (j := 10) (by decide) wf_X6_37 dX6_flow_165 (x := .ref (ad 57)) rfl ?_
      refine r_iload_n (pc := 168) cx dX6_flow_168 rfl ?_
      refine r_iaload (pc := 169) cx (lw57 hM) rfl (by decide) dX6_flow_169 ?_
      refine r_iastore (pc := 170) cx (lw56 hM) rfl (by decide) dX6_flow_170 (fun σ5 => ?_)
      refine r_iinc (pc := 171) cx dX6_flow_171 rfl (by decide) rfl ?_
      refine r_goto (pc := 174) (tgt := 152) cx dX6_flow_174 (by decide) ?_
      exact qS.sub (qsub_cons rfl (qsub_cons rfl (qsub_cons rfl (qsub_cons rfl (qsub_nil _))))) (ih _ _ _ _)
def fX6_flow_c126 (k26 : Int → Int → qSt → Option (Int × qSt)) (k76 : Int → Int → Int → qSt → Option (Int × qSt)) (x1 : Int) (x2 : Int) (x3 : Int) (s0 : Int) (σ : qSt) : Option (Int × qSt) :=
  (if 0 ≤ s0 ∧ s0 < 384 then (if 0 ≤ x3 ∧ x3 < 384 then (if 0 ≤ s0 ∧ s0 < 384 then (qb (qset σ 57 s0 ((σ 57 s0) + (σ 56 x3))) fun (σ6 : qSt) => (k76 x1 x2 (x3 + 1) σ6)) else none) else none) else none)
set_option maxRecDepth 100000 in
set_option maxHeartbeats 4000000 in
theorem tX6_flow_c126 {p : Program} {l : Launch} {e : Env} {s : State} {m : MethodId} {args : Array Value} {below : List Frame} {meth : Method} {c : Code} {z0 : Nat} {g : qG} {w : qWd} {ad : Nat → Nat} (cx : qCx p s m meth c cX6_flow 6 RX6 (some .long) g z0) (hM : qBM g ad w) {k26 : Int → Int → qSt → Option (Int × qSt)} (hk26 : ∀ (x1 : Int) (x2 : Int) (σ : qSt), qS p l e qrm1 s m args below meth c 6 g z0 w 0 0 (qQ below g z0 w qrj args s 0 0) (k26 x1 x2 σ) σ 26 [(0, some (.ref (ad 47))), (1, some (.int (qI x1))), (2, some (.int (qI x2)))] []) {k76 : Int → Int → Int → qSt → Option (Int × qSt)} (hk76 : ∀ (x1 : Int) (x2 : Int) (x3 : Int) (σ : qSt), qS p l e qrm1 s m args below meth c 6 g z0 w 0 0 (qQ below g z0 w qrj args s 0 0) (k76 x1 x2 x3 σ) σ 76 [(0, some (.ref (ad 47))), (1, some (.int (qI x1))), (2, some (.int (qI x2))), (3, some (.int (qI x3)))] []) (x1 : Int) (x2 : Int) (x3 : Int) (s0 : Int) (σ : qSt) : qS p l e qrm1 s m args below meth c 6 g z0 w 0 0 (qQ below g z0 w qrj args s 0 0) (fX6_flow_c126 k26 k76 x1 x2 x3 s0 σ) σ 126 [(0, some (.ref (ad 47))), (1, some (.int (qI x1))), (2, some (.int (qI x2))), (3, some (.int (qI x3)))] [.int (qI s0)] := by
  unfold fX6_flow_c126
  refine r_istore (pc := 126) cx dX6_flow_126 (by decide) rfl ?_
  refine r_aload_n (pc := 128) cx dX6_flow_128 rfl ?_
  refine r_get (pc := 129) cx hcl_X6 qc_X6 (lw47 hM) (j := 10) (by decide) wf_X6_37 dX6_flow_129 (x := .ref (ad 57)) rfl ?_
  refine r_iload (pc := 132) cx dX6_flow_132 rfl ?_
  refine r_dup2 (pc := 134) cx dX6_flow_134 rfl rfl ?_
  refine r_iaload (pc := 135) cx (lw57 hM) rfl (by decide) dX6_flow_135 ?_
  refine r_aload_n (pc := 136) cx dX6_flow_136 rfl ?_
  refine r_get (pc := 137) cx hcl_X6 qc_X6 (lw47 hM) (j := 9) (by decide) wf_X6_34 dX6_flow_137 (x := .ref (ad 56)) rfl ?_
  refine r_iload_n (pc := 140) cx dX6_flow_140 rfl ?_
  refine r_iaload (pc := 141) cx (lw56 hM) rfl (by decide) dX6_flow_141 ?_
  refine r_iadd (pc := 142) cx dX6_flow_142 ?_
  refine r_iastore (pc := 143) cx (lw57 hM) rfl (by decide) dX6_flow_143 (fun σ6 => ?_)
  refine r_iinc (pc := 144) cx dX6_flow_144 rfl (by decide) rfl ?_
  refine r_goto (pc := 147) (tgt := 76) cx dX6_flow_147 (by decide) ?_
  exact qS.sub (qsub_cons rfl (qsub_cons rfl (qsub_cons rfl (qsub_cons rfl (qsub_nil _))))) (hk76 _ _ _ _)
def fX6_flow_c76 (k26 : Int → Int → qSt → Option (Int × qSt)) : Nat → Int → Int → Int → qSt → Option (Int × qSt)
  | 0, _, _, _, _ => none
  | f + 1, x1, x2, x3, σ => (if qI 384 ≤ qI x3 then (fX6_flow_c152 k26 qFU x1 x2 0 σ) else ((fX6_beside σ (qdiv x3 4) (qrem x3 4)).bind fun (r89 : Int) => ((fX6_blocks σ r89).bind fun (r97 : Int) => (if qI r97 = 0 then (fX6_flow_c126 k26 (fX6_flow_c76 k26 f) x1 x2 x3 ((4 * r89) + (qrem x3 4)) σ) else ((fX6_opposite σ (qrem x3 4)).bind fun (r111 : Int) => (fX6_flow_c126 k26 (fX6_flow_c76 k26 f) x1 x2 x3 (((qdiv x3 4) * 4) + r111) σ))))))
set_option maxRecDepth 100000 in
set_option maxHeartbeats 4000000 in
theorem tX6_flow_c76 {p : Program} {l : Launch} {e : Env} {s : State} {m : MethodId} {args : Array Value} {below : List Frame} {meth : Method} {c : Code} {z0 : Nat} {g : qG} {w : qWd} {ad : Nat → Nat} (cx : qCx p s m meth c cX6_flow 6 RX6 (some .long) g z0) (hM : qBM g ad w) {k26 : Int → Int → qSt → Option (Int × qSt)} (hk26 : ∀ (x1 : Int) (x2 : Int) (σ : qSt), qS p l e qrm1 s m args below meth c 6 g z0 w 0 0 (qQ below g z0 w qrj args s 0 0) (k26 x1 x2 σ) σ 26 [(0, some (.ref (ad 47))), (1, some (.int (qI x1))), (2, some (.int (qI x2)))] []) : ∀ (f : Nat) (x1 : Int) (x2 : Int) (x3 : Int) (σ : qSt), qS p l e qrm1 s m args below meth c 6 g z0 w 0 0 (qQ below g z0 w qrj args s 0 0) (fX6_flow_c76 k26 f x1 x2 x3 σ) σ 76 [(0, some (.ref (ad 47))), (1, some (.int (qI x1))), (2, some (.int (qI x2))), (3, some (.int (qI x3)))] [] := by
  intro f
  induction f with
  | zero => exact fun _ _ _ _ => qS.fail
  | succ f ih =>
    intro x1 x2 x3 σ
    unfold fX6_flow_c76
    refine r_iload_n (pc := 76) cx dX6_flow_76 rfl ?_
    refine r_sipush (pc := 77) (v := 384) cx dX6_flow_77 (by decide +kernel) ?_
    refine r_icmp_ge (tgt := 150) cx dX6_flow_80 (by decide) ?_ ?_
    · refine r_iconst (pc := 150) cx dX6_flow_150 ?_
      refine r_istore_n (pc := 151) cx dX6_flow_151 (by decide) rfl ?_
      exact qS.sub (qsub_cons rfl (qsub_cons rfl (qsub_cons rfl (qsub_cons rfl (qsub_nil _))))) (tX6_flow_c152 cx hM hk26 _ _ _ _ _)
    · refine r_iload_n (pc := 83) cx dX6_flow_83 rfl ?_
      refine r_iconst (pc := 84) cx dX6_flow_84 ?_
      refine r_idiv (pc := 85) cx dX6_flow_85 (by decide +kernel) ?_
      refine r_iload_n (pc := 86) cx dX6_flow_86 rfl ?_
      refine r_iconst (pc := 87) cx dX6_flow_87 ?_
      refine r_irem (pc := 88) cx dX6_flow_88 (by decide +kernel) ?_
      refine r_pSi (pc := 89) cx (tX6_beside  (qdiv x3 4) (qrem x3 4) σ) qm_X6_beside qs_X6_beside wm_X6_109 dX6_flow_89 rfl rfl (Nat.le_of_ble_eq_true rfl) ⟨Nat.le_of_ble_eq_true rfl, Nat.le_of_ble_eq_true rfl⟩ ⟨rfl, rfl⟩ ⟨Nat.zero_le _, Nat.zero_le _⟩ (fun r89 => ?_)
      refine r_istore (pc := 92) cx dX6_flow_92 (by decide) rfl ?_
      refine r_aload_n (pc := 94) cx dX6_flow_94 rfl ?_
      refine r_iload (pc := 95) cx dX6_flow_95 rfl ?_
      refine r_pVi (pc := 97) cx (tX6_blocks hM r89 σ) qm_X6_blocks qv_X6_blocks hcl_X6 (lw47 hM) wm_X6_113 dX6_flow_97 rfl rfl (Nat.le_of_ble_eq_true rfl) ⟨Nat.le_of_ble_eq_true rfl, Nat.le_of_ble_eq_true rfl⟩ ⟨rfl, rfl⟩ ⟨Nat.zero_le _, Nat.zero_le _⟩ (fun r97 => ?_)
      refine r_if_eq (tgt := 118) cx dX6_flow_100 (by decide) ?_ ?_
      · refine r_iconst (pc := 118) cx dX6_flow_118 ?_
        refine r_iload (pc := 119) cx dX6_flow_119 rfl ?_
        refine r_imul (pc := 121) cx dX6_flow_121 ?_
        refine r_iload_n (pc := 122) cx dX6_flow_122 rfl ?_
        refine r_iconst (pc := 123) cx dX6_flow_123 ?_
        refine r_irem (pc := 124) cx dX6_flow_124 (by decide +kernel) ?_
        refine r_iadd (pc := 125) cx dX6_flow_125 ?_
        exact qS.sub (qsub_cons rfl (qsub_cons rfl (qsub_cons rfl (qsub_cons rfl (qsub_nil _))))) (tX6_flow_c126 cx hM hk26 ih _ _ _ _ _)
      · refine r_iload_n (pc := 103) cx dX6_flow_103 rfl ?_
        refine r_iconst (pc := 104) cx dX6_flow_104 ?_
        refine r_idiv (pc := 105) cx dX6_flow_105 (by decide +kernel) ?_
        refine r_iconst (pc := 106) cx dX6_flow_106 ?_
        refine r_imul (pc := 107) cx dX6_flow_107 ?_
        refine r_iload_n (pc := 108) cx dX6_flow_108 rfl ?_
        refine r_iconst (pc := 109) cx dX6_flow_109 ?_
        refine r_irem (pc := 110) cx dX6_flow_110 (by decide +kernel) ?_
        refine r_pSi (pc := 111) cx (tX6_opposite  (qrem x3 4) σ) qm_X6_opposite qs_X6_opposite wm_X6_116 dX6_flow_111 rfl rfl (Nat.le_of_ble_eq_true rfl) ⟨Nat.le_of_ble_eq_true rfl, Nat.le_of_ble_eq_true rfl⟩ ⟨rfl, rfl⟩ ⟨Nat.zero_le _, Nat.zero_le _⟩ (fun r111 => ?_)
        refine r_iadd (pc := 114) cx dX6_flow_114 ?_
        refine r_goto (pc := 115) (tgt := 126) cx dX6_flow_115 (by decide) ?_
        exact qS.sub (qsub_cons rfl (qsub_cons rfl (qsub_cons rfl (qsub_cons rfl (qsub_nil _))))) (tX6_flow_c126 cx hM hk26 ih _ _ _ _ _)
def fX6_flow_c54 (k26 : Int → Int → qSt → Option (Int × qSt)) : Nat → Int → Int → Int → qSt → Option (Int × qSt)
  | 0, _, _, _, _ => none
  | f + 1, x1, x2, x3, σ => (if qI 384 ≤ qI x3 then (fX6_flow_c76 k26 qFU x1 x2 0 σ) else (if 0 ≤ x3 ∧ x3 < 384 then (qb (qset σ 57 x3 0) fun (σ4 : qSt) => (fX6_flow_c54 k26 f x1 x2 (x3 + 1) σ4)) else none))
set_option maxRecDepth 100000 in
set_option maxHeartbeats 4000000 in
theorem tX6_flow_c54 {p : Program} {l : Launch} {e : Env} {s : State} {m : MethodId} {args : Array Value} {below : List Frame} {meth : Method} {c : Code} {z0 : Nat} {g : qG} {w : qWd} {ad : Nat → Nat} (cx : qCx p s m meth c cX6_flow 6 RX6 (some .long) g z0) (hM : qBM g ad w) {k26 : Int → Int → qSt → Option (Int × qSt)} (hk26 : ∀ (x1 : Int) (x2 : Int) (σ : qSt), qS p l e qrm1 s m args below meth c 6 g z0 w 0 0 (qQ below g z0 w qrj args s 0 0) (k26 x1 x2 σ) σ 26 [(0, some (.ref (ad 47))), (1, some (.int (qI x1))), (2, some (.int (qI x2)))] []) : ∀ (f : Nat) (x1 : Int) (x2 : Int) (x3 : Int) (σ : qSt), qS p l e qrm1 s m args below meth c 6 g z0 w 0 0 (qQ below g z0 w qrj args s 0 0) (fX6_flow_c54 k26 f x1 x2 x3 σ) σ 54 [(0, some (.ref (ad 47))), (1, some (.int (qI x1))), (2, some (.int (qI x2))), (3, some (.int (qI x3)))] [] := by
  intro f
  induction f with
  | zero => exact fun _ _ _ _ => qS.fail
  | succ f ih =>
    intro x1 x2 x3 σ
    unfold fX6_flow_c54
    refine r_iload_n (pc := 54) cx dX6_flow_54 rfl ?_
    refine r_sipush (pc := 55) (v := 384) cx dX6_flow_55 (by decide +kernel) ?_
    refine r_icmp_ge (tgt := 74) cx dX6_flow_58 (by decide) ?_ ?_
    · refine r_iconst (pc := 74) cx dX6_flow_74 ?_
      refine r_istore_n (pc := 75) cx dX6_flow_75 (by decide) rfl ?_
      exact qS.sub (qsub_cons rfl (qsub_cons rfl (qsub_cons rfl (qsub_cons rfl (qsub_nil _))))) (tX6_flow_c76 cx hM hk26 _ _ _ _ _)
    · refine r_aload_n (pc := 61) cx dX6_flow_61 rfl ?_
      refine r_get (pc := 62) cx hcl_X6 qc_X6 (lw47 hM) (j := 10) (by decide) wf_X6_37 dX6_flow_62 (x := .ref (ad 57)) rfl ?_
      refine r_iload_n (pc := 65) cx dX6_flow_65 rfl ?_
      refine r_iconst (pc := 66) cx dX6_flow_66 ?_
      refine r_iastore (pc := 67) cx (lw57 hM) rfl (by decide) dX6_flow_67 (fun σ4 => ?_)
      refine r_iinc (pc := 68) cx dX6_flow_68 rfl (by decide) rfl ?_
      refine r_goto (pc := 71) (tgt := 54) cx dX6_flow_71 (by decide) ?_
      exact qS.sub (qsub_cons rfl (qsub_cons rfl (qsub_cons rfl (qsub_cons rfl (qsub_nil _))))) (ih _ _ _ _)
def fX6_flow_c33 (k26 : Int → Int → qSt → Option (Int × qSt)) : Nat → Int → Int → Int → qSt → Option (Int × qSt)
  | 0, _, _, _, _ => none
  | f + 1, x1, x2, x3, σ => (if qI 96 ≤ qI x3 then (fX6_flow_c54 k26 qFU x1 x2 0 σ) else (qbd (fX6_meet (4 * x3) σ) fun (r43 : Int) (σ3 : qSt) => (fX6_flow_c33 k26 f x1 x2 (x3 + 1) σ3)))
set_option maxRecDepth 100000 in
set_option maxHeartbeats 4000000 in
theorem tX6_flow_c33 {p : Program} {l : Launch} {e : Env} {s : State} {m : MethodId} {args : Array Value} {below : List Frame} {meth : Method} {c : Code} {z0 : Nat} {g : qG} {w : qWd} {ad : Nat → Nat} (cx : qCx p s m meth c cX6_flow 6 RX6 (some .long) g z0) (hM : qBM g ad w) {k26 : Int → Int → qSt → Option (Int × qSt)} (hk26 : ∀ (x1 : Int) (x2 : Int) (σ : qSt), qS p l e qrm1 s m args below meth c 6 g z0 w 0 0 (qQ below g z0 w qrj args s 0 0) (k26 x1 x2 σ) σ 26 [(0, some (.ref (ad 47))), (1, some (.int (qI x1))), (2, some (.int (qI x2)))] []) : ∀ (f : Nat) (x1 : Int) (x2 : Int) (x3 : Int) (σ : qSt), qS p l e qrm1 s m args below meth c 6 g z0 w 0 0 (qQ below g z0 w qrj args s 0 0) (fX6_flow_c33 k26 f x1 x2 x3 σ) σ 33 [(0, some (.ref (ad 47))), (1, some (.int (qI x1))), (2, some (.int (qI x2))), (3, some (.int (qI x3)))] [] := by
  intro f
  induction f with
  | zero => exact fun _ _ _ _ => qS.fail
  | succ f ih =>
    intro x1 x2 x3 σ
    unfold fX6_flow_c33
    refine r_iload_n (pc := 33) cx dX6_flow_33 rfl ?_
    refine r_bipush (pc := 34) (v := 96) cx dX6_flow_34 (by decide +kernel) ?_
    refine r_icmp_ge (tgt := 52) cx dX6_flow_36 (by decide) ?_ ?_
    · refine r_iconst (pc := 52) cx dX6_flow_52 ?_
      refine r_istore_n (pc := 53) cx dX6_flow_53 (by decide) rfl ?_
      exact qS.sub (qsub_cons rfl (qsub_cons rfl (qsub_cons rfl (qsub_cons rfl (qsub_nil _))))) (tX6_flow_c54 cx hM hk26 _ _ _ _ _)
    · refine r_aload_n (pc := 39) cx dX6_flow_39 rfl ?_
      refine r_iconst (pc := 40) cx dX6_flow_40 ?_
      refine r_iload_n (pc := 41) cx dX6_flow_41 rfl ?_
      refine r_imul (pc := 42) cx dX6_flow_42 ?_
      refine r_dVv (pc := 43) cx (tX6_meet hM (4 * x3) σ) qm_X6_meet qv_X6_meet hcl_X6 (lw47 hM) wm_X6_144 dX6_flow_43 rfl rfl (Nat.le_of_ble_eq_true rfl) ⟨Nat.le_of_ble_eq_true rfl, Nat.le_of_ble_eq_true rfl⟩ ⟨rfl, rfl⟩ ⟨Nat.zero_le _, Nat.zero_le _⟩ (fun r43 σ3 => ?_)
      refine r_iinc (pc := 46) cx dX6_flow_46 rfl (by decide) rfl ?_
      refine r_goto (pc := 49) (tgt := 33) cx dX6_flow_49 (by decide) ?_
      exact qS.sub (qsub_cons rfl (qsub_cons rfl (qsub_cons rfl (qsub_cons rfl (qsub_nil _))))) (ih _ _ _ _)
def fX6_flow_c26 : Nat → Int → Int → qSt → Option (Int × qSt)
  | 0, _, _, _ => none
  | f + 1, x1, x2, σ => (if qI x1 ≤ qI x2 then (qb (qset σ 47 18 ((σ 47 18) + (qi2l x1))) fun (σ2 : qSt) => (some ((σ2 47 18), σ2))) else (fX6_flow_c33 (fX6_flow_c26 f) qFU x1 x2 0 σ))
set_option maxRecDepth 100000 in
set_option maxHeartbeats 4000000 in
theorem tX6_flow_c26 {p : Program} {l : Launch} {e : Env} {s : State} {m : MethodId} {args : Array Value} {below : List Frame} {meth : Method} {c : Code} {z0 : Nat} {g : qG} {w : qWd} {ad : Nat → Nat} (cx : qCx p s m meth c cX6_flow 6 RX6 (some .long) g z0) (hM : qBM g ad w) : ∀ (f : Nat) (x1 : Int) (x2 : Int) (σ : qSt), qS p l e qrm1 s m args below meth c 6 g z0 w 0 0 (qQ below g z0 w qrj args s 0 0) (fX6_flow_c26 f x1 x2 σ) σ 26 [(0, some (.ref (ad 47))), (1, some (.int (qI x1))), (2, some (.int (qI x2)))] [] := by
  intro f
  induction f with
  | zero => exact fun _ _ _ => qS.fail
  | succ f ih =>
    intro x1 x2 σ
    unfold fX6_flow_c26
    refine r_iload_n (pc := 26) cx dX6_flow_26 rfl ?_
    refine r_iload_n (pc := 27) cx dX6_flow_27 rfl ?_
    refine r_icmp_ge (tgt := 183) cx dX6_flow_28 (by decide) ?_ ?_
    · refine r_aload_n (pc := 183) cx dX6_flow_183 rfl ?_
      refine r_dup (pc := 184) cx dX6_flow_184 rfl ?_
      refine r_get (pc := 185) cx hcl_X6 qc_X6 (lw47 hM) (j := 18) (by decide) wf_X6_148 dX6_flow_185 (x := .long (qJ (σ 47 18))) rfl ?_
      refine r_iload_n (pc := 188) cx dX6_flow_188 rfl ?_
      refine r_i2l (pc := 189) cx dX6_flow_189 ?_
      refine r_ladd (pc := 190) cx dX6_flow_190 ?_
      refine r_putl (pc := 191) (J := 18) cx hcl_X6 qc_X6 (lw47 hM) (j := 18) (by decide) tyX6_ok nmX6 wf_X6_148 rfl (by decide +kernel) rfl (Nat.le_of_ble_eq_true rfl) (fun r => rfl) dX6_flow_191 (fun σ2 => ?_)
      refine r_aload_n (pc := 194) cx dX6_flow_194 rfl ?_
      refine r_get (pc := 195) cx hcl_X6 qc_X6 (lw47 hM) (j := 18) (by decide) wf_X6_148 dX6_flow_195 (x := .long (qJ (σ2 47 18))) rfl ?_
      exact r_lreturn (w0 := w) (fun _ _ h => h) (Nat.zero_le _) (Nat.zero_le _) cx dX6_flow_198 rfl
    · refine r_iconst (pc := 31) cx dX6_flow_31 ?_
      refine r_istore_n (pc := 32) cx dX6_flow_32 (by decide) rfl ?_
      exact qS.sub (qsub_cons rfl (qsub_cons rfl (qsub_cons rfl (qsub_cons rfl (qsub_nil _))))) (tX6_flow_c33 cx hM ih _ _ _ _ _)
def fX6_flow_c16 (x1 : Int) (s0 : Int) (σ : qSt) : Option (Int × qSt) :=
  (qbd (fX6_refused s0 σ) fun (r16 : Int) (σ1 : qSt) => (if qI r16 = 0 then (fX6_flow_c26 qFU x1 0 σ1) else (some (0, σ1))))
set_option maxRecDepth 100000 in
set_option maxHeartbeats 4000000 in
theorem tX6_flow_c16 {p : Program} {l : Launch} {e : Env} {s : State} {m : MethodId} {args : Array Value} {below : List Frame} {meth : Method} {c : Code} {z0 : Nat} {g : qG} {w : qWd} {ad : Nat → Nat} (cx : qCx p s m meth c cX6_flow 6 RX6 (some .long) g z0) (hM : qBM g ad w) (x1 : Int) (s0 : Int) (σ : qSt) : qS p l e qrm1 s m args below meth c 6 g z0 w 0 0 (qQ below g z0 w qrj args s 0 0) (fX6_flow_c16 x1 s0 σ) σ 16 [(0, some (.ref (ad 47))), (1, some (.int (qI x1)))] [.int (qI s0), .ref (ad 47)] := by
  unfold fX6_flow_c16
  refine r_dVi (pc := 16) cx (tX6_refused hM s0 σ) qm_X6_refused qv_X6_refused hcl_X6 (lw47 hM) wm_X6_84 dX6_flow_16 rfl rfl (Nat.le_of_ble_eq_true rfl) ⟨Nat.le_of_ble_eq_true rfl, Nat.le_of_ble_eq_true rfl⟩ ⟨rfl, rfl⟩ ⟨Nat.zero_le _, Nat.zero_le _⟩ (fun r16 σ1 => ?_)
  refine r_if_eq (tgt := 24) cx dX6_flow_19 (by decide) ?_ ?_
  · refine r_iconst (pc := 24) cx dX6_flow_24 ?_
    refine r_istore_n (pc := 25) cx dX6_flow_25 (by decide) rfl ?_
    exact qS.sub (qsub_cons rfl (qsub_cons rfl (qsub_cons rfl (qsub_nil _)))) (tX6_flow_c26 cx hM _ _ _ _)
  · refine r_lconst (pc := 22) (z := 0) cx dX6_flow_22 (by decide +kernel) ?_
    exact r_lreturn (w0 := w) (fun _ _ h => h) (Nat.zero_le _) (Nat.zero_le _) cx dX6_flow_23 rfl
def fX6_flow (p0 : Int) (σ : qSt) : Option (Int × qSt) :=
  ((fX6_within σ p0 1 100).bind fun (r5 : Int) => (if qI r5 = 0 then (fX6_flow_c16 p0 1 σ) else (fX6_flow_c16 p0 0 σ)))
set_option maxRecDepth 100000 in
set_option maxHeartbeats 4000000 in
theorem tX6_flow {l : Launch} {z0 : Nat} {g : qG} {w : qWd} {ad : Nat → Nat} (hM : qBM g ad w) (p0 : Int) (σ : qSt) : qCT l yX6_flow cX6_flow 6 (some .long) qrm1 g z0 w [.ref (ad 47), .int (qI p0)] σ (fX6_flow p0 σ) qrj := by
  refine qCT.of [(0, some (.ref (ad 47))), (1, some (.int (qI p0)))] (by decide +kernel) (Nat.le_of_ble_eq_true rfl) rfl ?_
  intro p e s m args below meth c cx
  unfold fX6_flow
  refine r_aload_n (pc := 0) cx dX6_flow_0 rfl ?_
  refine r_iload_n (pc := 1) cx dX6_flow_1 rfl ?_
  refine r_iconst (pc := 2) cx dX6_flow_2 ?_
  refine r_bipush (pc := 3) (v := 100) cx dX6_flow_3 (by decide +kernel) ?_
  refine r_pSi (pc := 5) cx (tX6_within  p0 1 100 σ) qm_X6_within qs_X6_within wm_X6_62 dX6_flow_5 rfl rfl (Nat.le_of_ble_eq_true rfl) ⟨Nat.le_of_ble_eq_true rfl, Nat.le_of_ble_eq_true rfl⟩ ⟨rfl, rfl⟩ ⟨Nat.zero_le _, Nat.zero_le _⟩ (fun r5 => ?_)
  refine r_if_eq (tgt := 15) cx dX6_flow_8 (by decide) ?_ ?_
  · refine r_iconst (pc := 15) cx dX6_flow_15 ?_
    exact qS.sub (qsub_cons rfl (qsub_cons rfl (qsub_nil _))) (tX6_flow_c16 cx hM _ _ _)
  · refine r_iconst (pc := 11) cx dX6_flow_11 ?_
    refine r_goto (pc := 12) (tgt := 16) cx dX6_flow_12 (by decide) ?_
    exact qS.sub (qsub_cons rfl (qsub_cons rfl (qsub_nil _))) (tX6_flow_c16 cx hM _ _ _)
