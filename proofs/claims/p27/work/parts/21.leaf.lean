def fX5_isOutside (σ : qSt) (p0 : Int) (p1 : Int) (p2 : Int) : Option Int :=
  (if qI p0 < qI p1 then (some 1) else (if qI p0 ≤ qI p2 then (some 0) else (some 1)))
set_option maxRecDepth 100000 in
set_option maxHeartbeats 4000000 in
theorem tX5_isOutside {l : Launch} {z0 : Nat} {g : qG} {w : qWd} (p0 : Int) (p1 : Int) (p2 : Int) (σ : qSt) : qCT l yX5_isOutside cX5_isOutside 3 (some .boolean) qrm0 g z0 w [.int (qI p0), .int (qI p1), .int (qI p2)] σ (qlift (fX5_isOutside σ p0 p1 p2) σ) qri := by
  refine qCTp.of [(0, some (.int (qI p0))), (1, some (.int (qI p1))), (2, some (.int (qI p2)))] (by decide +kernel) (Nat.le_of_ble_eq_true rfl) rfl ?_
  intro p e s m args below meth c cx
  unfold fX5_isOutside
  refine r_iload_n (pc := 0) cx dX5_isOutside_0 rfl ?_
  refine r_iload_n (pc := 1) cx dX5_isOutside_1 rfl ?_
  refine r_icmp_lt (tgt := 10) cx dX5_isOutside_2 (by decide) ?_ ?_
  · refine r_iconst (pc := 10) cx dX5_isOutside_10 ?_
    refine r_goto (pc := 11) (tgt := 15) cx dX5_isOutside_11 (by decide) ?_
    exact r_zreturn (w0 := w) (fun _ _ h => h) (Nat.zero_le _) (Nat.zero_le _) cx (by decide +kernel) dX5_isOutside_15 rfl
  · refine r_iload_n (pc := 5) cx dX5_isOutside_5 rfl ?_
    refine r_iload_n (pc := 6) cx dX5_isOutside_6 rfl ?_
    refine r_icmp_le (tgt := 14) cx dX5_isOutside_7 (by decide) ?_ ?_
    · refine r_iconst (pc := 14) cx dX5_isOutside_14 ?_
      exact r_zreturn (w0 := w) (fun _ _ h => h) (Nat.zero_le _) (Nat.zero_le _) cx (by decide +kernel) dX5_isOutside_15 rfl
    · refine r_iconst (pc := 10) cx dX5_isOutside_10 ?_
      refine r_goto (pc := 11) (tgt := 15) cx dX5_isOutside_11 (by decide) ?_
      exact r_zreturn (w0 := w) (fun _ _ h => h) (Nat.zero_le _) (Nat.zero_le _) cx (by decide +kernel) dX5_isOutside_15 rfl
def fX5_isNoCell (σ : qSt) (p0 : Int) : Option Int :=
  (if qI p0 < 0 then (some 1) else (if qI p0 < qI 96 then (some 0) else (some 1)))
set_option maxRecDepth 100000 in
set_option maxHeartbeats 4000000 in
theorem tX5_isNoCell {l : Launch} {z0 : Nat} {g : qG} {w : qWd} (p0 : Int) (σ : qSt) : qCT l yX5_isNoCell cX5_isNoCell 1 (some .boolean) qrm0 g z0 w [.int (qI p0)] σ (qlift (fX5_isNoCell σ p0) σ) qri := by
  refine qCTp.of [(0, some (.int (qI p0)))] (by decide +kernel) (Nat.le_of_ble_eq_true rfl) rfl ?_
  intro p e s m args below meth c cx
  unfold fX5_isNoCell
  refine r_iload_n (pc := 0) cx dX5_isNoCell_0 rfl ?_
  refine r_if_lt (tgt := 10) cx dX5_isNoCell_1 (by decide) ?_ ?_
  · refine r_iconst (pc := 10) cx dX5_isNoCell_10 ?_
    refine r_goto (pc := 11) (tgt := 15) cx dX5_isNoCell_11 (by decide) ?_
    exact r_zreturn (w0 := w) (fun _ _ h => h) (Nat.zero_le _) (Nat.zero_le _) cx (by decide +kernel) dX5_isNoCell_15 rfl
  · refine r_iload_n (pc := 4) cx dX5_isNoCell_4 rfl ?_
    refine r_bipush (pc := 5) (v := 96) cx dX5_isNoCell_5 (by decide +kernel) ?_
    refine r_icmp_lt (tgt := 14) cx dX5_isNoCell_7 (by decide) ?_ ?_
    · refine r_iconst (pc := 14) cx dX5_isNoCell_14 ?_
      exact r_zreturn (w0 := w) (fun _ _ h => h) (Nat.zero_le _) (Nat.zero_le _) cx (by decide +kernel) dX5_isNoCell_15 rfl
    · refine r_iconst (pc := 10) cx dX5_isNoCell_10 ?_
      refine r_goto (pc := 11) (tgt := 15) cx dX5_isNoCell_11 (by decide) ?_
      exact r_zreturn (w0 := w) (fun _ _ h => h) (Nat.zero_le _) (Nat.zero_le _) cx (by decide +kernel) dX5_isNoCell_15 rfl
def fX5_isNoBody (σ : qSt) (p0 : Int) : Option Int :=
  (if qI p0 < 0 then (some 1) else (if qI p0 < qI 4 then (some 0) else (some 1)))
set_option maxRecDepth 100000 in
set_option maxHeartbeats 4000000 in
theorem tX5_isNoBody {l : Launch} {z0 : Nat} {g : qG} {w : qWd} (p0 : Int) (σ : qSt) : qCT l yX5_isNoBody cX5_isNoBody 1 (some .boolean) qrm0 g z0 w [.int (qI p0)] σ (qlift (fX5_isNoBody σ p0) σ) qri := by
  refine qCTp.of [(0, some (.int (qI p0)))] (by decide +kernel) (Nat.le_of_ble_eq_true rfl) rfl ?_
  intro p e s m args below meth c cx
  unfold fX5_isNoBody
  refine r_iload_n (pc := 0) cx dX5_isNoBody_0 rfl ?_
  refine r_if_lt (tgt := 9) cx dX5_isNoBody_1 (by decide) ?_ ?_
  · refine r_iconst (pc := 9) cx dX5_isNoBody_9 ?_
    refine r_goto (pc := 10) (tgt := 14) cx dX5_isNoBody_10 (by decide) ?_
    exact r_zreturn (w0 := w) (fun _ _ h => h) (Nat.zero_le _) (Nat.zero_le _) cx (by decide +kernel) dX5_isNoBody_14 rfl
  · refine r_iload_n (pc := 4) cx dX5_isNoBody_4 rfl ?_
    refine r_iconst (pc := 5) cx dX5_isNoBody_5 ?_
    refine r_icmp_lt (tgt := 13) cx dX5_isNoBody_6 (by decide) ?_ ?_
    · refine r_iconst (pc := 13) cx dX5_isNoBody_13 ?_
      exact r_zreturn (w0 := w) (fun _ _ h => h) (Nat.zero_le _) (Nat.zero_le _) cx (by decide +kernel) dX5_isNoBody_14 rfl
    · refine r_iconst (pc := 9) cx dX5_isNoBody_9 ?_
      refine r_goto (pc := 10) (tgt := 14) cx dX5_isNoBody_10 (by decide) ?_
      exact r_zreturn (w0 := w) (fun _ _ h => h) (Nat.zero_le _) (Nat.zero_le _) cx (by decide +kernel) dX5_isNoBody_14 rfl
def fX5_isNoWindow (σ : qSt) (p0 : Int) (p1 : Int) (p2 : Int) (p3 : Int) : Option Int :=
  ((fX5_isOutside σ p0 0 7).bind fun (r4 : Int) => (if qI r4 = 0 then ((fX5_isOutside σ p1 0 11).bind fun (r14 : Int) => (if qI r14 = 0 then ((fX5_isOutside σ p2 1 (8 - p0)).bind fun (r26 : Int) => (if qI r26 = 0 then ((fX5_isOutside σ p3 1 12).bind fun (r36 : Int) => (if qI r36 = 0 then (some 0) else (some 1))) else (some 1))) else (some 1))) else (some 1)))
set_option maxRecDepth 100000 in
set_option maxHeartbeats 4000000 in
theorem tX5_isNoWindow {l : Launch} {z0 : Nat} {g : qG} {w : qWd} (p0 : Int) (p1 : Int) (p2 : Int) (p3 : Int) (σ : qSt) : qCT l yX5_isNoWindow cX5_isNoWindow 4 (some .boolean) qrm1 g z0 w [.int (qI p0), .int (qI p1), .int (qI p2), .int (qI p3)] σ (qlift (fX5_isNoWindow σ p0 p1 p2 p3) σ) qri := by
  refine qCTp.of [(0, some (.int (qI p0))), (1, some (.int (qI p1))), (2, some (.int (qI p2))), (3, some (.int (qI p3)))] (by decide +kernel) (Nat.le_of_ble_eq_true rfl) rfl ?_
  intro p e s m args below meth c cx
  unfold fX5_isNoWindow
  refine r_iload_n (pc := 0) cx dX5_isNoWindow_0 rfl ?_
  refine r_iconst (pc := 1) cx dX5_isNoWindow_1 ?_
  refine r_bipush (pc := 2) (v := 7) cx dX5_isNoWindow_2 (by decide +kernel) ?_
  refine r_pSi (pc := 4) cx (tX5_isOutside  p0 0 7 σ) qm_X5_isOutside qs_X5_isOutside wm_X5_74 dX5_isNoWindow_4 rfl rfl (Nat.le_of_ble_eq_true rfl) ⟨Nat.le_of_ble_eq_true rfl, Nat.le_of_ble_eq_true rfl⟩ ⟨rfl, rfl⟩ ⟨Nat.zero_le _, Nat.zero_le _⟩ (fun r4 => ?_)
  refine r_if_ne (tgt := 42) cx dX5_isNoWindow_7 (by decide) ?_ ?_
  · refine r_iconst (pc := 42) cx dX5_isNoWindow_42 ?_
    refine r_goto (pc := 43) (tgt := 47) cx dX5_isNoWindow_43 (by decide) ?_
    exact r_zreturn (w0 := w) (fun _ _ h => h) (Nat.zero_le _) (Nat.zero_le _) cx (by decide +kernel) dX5_isNoWindow_47 rfl
  · refine r_iload_n (pc := 10) cx dX5_isNoWindow_10 rfl ?_
    refine r_iconst (pc := 11) cx dX5_isNoWindow_11 ?_
    refine r_bipush (pc := 12) (v := 11) cx dX5_isNoWindow_12 (by decide +kernel) ?_
    refine r_pSi (pc := 14) cx (tX5_isOutside  p1 0 11 σ) qm_X5_isOutside qs_X5_isOutside wm_X5_74 dX5_isNoWindow_14 rfl rfl (Nat.le_of_ble_eq_true rfl) ⟨Nat.le_of_ble_eq_true rfl, Nat.le_of_ble_eq_true rfl⟩ ⟨rfl, rfl⟩ ⟨Nat.zero_le _, Nat.zero_le _⟩ (fun r14 => ?_)
    refine r_if_ne (tgt := 42) cx dX5_isNoWindow_17 (by decide) ?_ ?_
    · refine r_iconst (pc := 42) cx dX5_isNoWindow_42 ?_
      refine r_goto (pc := 43) (tgt := 47) cx dX5_isNoWindow_43 (by decide) ?_
      exact r_zreturn (w0 := w) (fun _ _ h => h) (Nat.zero_le _) (Nat.zero_le _) cx (by decide +kernel) dX5_isNoWindow_47 rfl
    · refine r_iload_n (pc := 20) cx dX5_isNoWindow_20 rfl ?_
      refine r_iconst (pc := 21) cx dX5_isNoWindow_21 ?_
      refine r_bipush (pc := 22) (v := 8) cx dX5_isNoWindow_22 (by decide +kernel) ?_
      refine r_iload_n (pc := 24) cx dX5_isNoWindow_24 rfl ?_
      refine r_isub (pc := 25) cx dX5_isNoWindow_25 ?_
      refine r_pSi (pc := 26) cx (tX5_isOutside  p2 1 (8 - p0) σ) qm_X5_isOutside qs_X5_isOutside wm_X5_74 dX5_isNoWindow_26 rfl rfl (Nat.le_of_ble_eq_true rfl) ⟨Nat.le_of_ble_eq_true rfl, Nat.le_of_ble_eq_true rfl⟩ ⟨rfl, rfl⟩ ⟨Nat.zero_le _, Nat.zero_le _⟩ (fun r26 => ?_)
      refine r_if_ne (tgt := 42) cx dX5_isNoWindow_29 (by decide) ?_ ?_
      · refine r_iconst (pc := 42) cx dX5_isNoWindow_42 ?_
        refine r_goto (pc := 43) (tgt := 47) cx dX5_isNoWindow_43 (by decide) ?_
        exact r_zreturn (w0 := w) (fun _ _ h => h) (Nat.zero_le _) (Nat.zero_le _) cx (by decide +kernel) dX5_isNoWindow_47 rfl
      · refine r_iload_n (pc := 32) cx dX5_isNoWindow_32 rfl ?_
        refine r_iconst (pc := 33) cx dX5_isNoWindow_33 ?_
        refine r_bipush (pc := 34) (v := 12) cx dX5_isNoWindow_34 (by decide +kernel) ?_
        refine r_pSi (pc := 36) cx (tX5_isOutside  p3 1 12 σ) qm_X5_isOutside qs_X5_isOutside wm_X5_74 dX5_isNoWindow_36 rfl rfl (Nat.le_of_ble_eq_true rfl) ⟨Nat.le_of_ble_eq_true rfl, Nat.le_of_ble_eq_true rfl⟩ ⟨rfl, rfl⟩ ⟨Nat.zero_le _, Nat.zero_le _⟩ (fun r36 => ?_)
        refine r_if_eq (tgt := 46) cx dX5_isNoWindow_39 (by decide) ?_ ?_
        · refine r_iconst (pc := 46) cx dX5_isNoWindow_46 ?_
          exact r_zreturn (w0 := w) (fun _ _ h => h) (Nat.zero_le _) (Nat.zero_le _) cx (by decide +kernel) dX5_isNoWindow_47 rfl
        · refine r_iconst (pc := 42) cx dX5_isNoWindow_42 ?_
          refine r_goto (pc := 43) (tgt := 47) cx dX5_isNoWindow_43 (by decide) ?_
          exact r_zreturn (w0 := w) (fun _ _ h => h) (Nat.zero_le _) (Nat.zero_le _) cx (by decide +kernel) dX5_isNoWindow_47 rfl
def fX5_opposite (σ : qSt) (p0 : Int) : Option Int :=
  (some (qxor p0 2))
set_option maxRecDepth 100000 in
set_option maxHeartbeats 4000000 in
theorem tX5_opposite {l : Launch} {z0 : Nat} {g : qG} {w : qWd} (p0 : Int) (σ : qSt) : qCT l yX5_opposite cX5_opposite 1 (some .int) qrm0 g z0 w [.int (qI p0)] σ (qlift (fX5_opposite σ p0) σ) qri := by
  refine qCTp.of [(0, some (.int (qI p0)))] (by decide +kernel) (Nat.le_of_ble_eq_true rfl) rfl ?_
  intro p e s m args below meth c cx
  unfold fX5_opposite
  refine r_iload_n (pc := 0) cx dX5_opposite_0 rfl ?_
  refine r_iconst (pc := 1) cx dX5_opposite_1 ?_
  refine r_ixor (pc := 2) cx dX5_opposite_2 ?_
  exact r_ireturn (w0 := w) (fun _ _ h => h) (Nat.zero_le _) (Nat.zero_le _) cx dX5_opposite_3 rfl
def fX5_has (σ : qSt) (p0 : Int) (p1 : Int) : Option Int :=
  (if qI (qand (qshr p0 p1) 1) = 0 then (some 0) else (some 1))
set_option maxRecDepth 100000 in
set_option maxHeartbeats 4000000 in
theorem tX5_has {l : Launch} {z0 : Nat} {g : qG} {w : qWd} (p0 : Int) (p1 : Int) (σ : qSt) : qCT l yX5_has cX5_has 2 (some .boolean) qrm0 g z0 w [.int (qI p0), .int (qI p1)] σ (qlift (fX5_has σ p0 p1) σ) qri := by
  refine qCTp.of [(0, some (.int (qI p0))), (1, some (.int (qI p1)))] (by decide +kernel) (Nat.le_of_ble_eq_true rfl) rfl ?_
  intro p e s m args below meth c cx
  unfold fX5_has
  refine r_iload_n (pc := 0) cx dX5_has_0 rfl ?_
  refine r_iload_n (pc := 1) cx dX5_has_1 rfl ?_
  refine r_ishr (pc := 2) cx dX5_has_2 ?_
  refine r_iconst (pc := 3) cx dX5_has_3 ?_
  refine r_iand (pc := 4) cx dX5_has_4 ?_
  refine r_if_eq (tgt := 12) cx dX5_has_5 (by decide) ?_ ?_
  · refine r_iconst (pc := 12) cx dX5_has_12 ?_
    exact r_zreturn (w0 := w) (fun _ _ h => h) (Nat.zero_le _) (Nat.zero_le _) cx (by decide +kernel) dX5_has_13 rfl
  · refine r_iconst (pc := 8) cx dX5_has_8 ?_
    refine r_goto (pc := 9) (tgt := 13) cx dX5_has_9 (by decide) ?_
    exact r_zreturn (w0 := w) (fun _ _ h => h) (Nat.zero_le _) (Nat.zero_le _) cx (by decide +kernel) dX5_has_13 rfl
def fX5_turned (σ : qSt) (p0 : Int) (p1 : Int) : Option Int :=
  (some (qand (qor (qshl p0 p1) (qshr p0 (4 - p1))) 15))
set_option maxRecDepth 100000 in
set_option maxHeartbeats 4000000 in
theorem tX5_turned {l : Launch} {z0 : Nat} {g : qG} {w : qWd} (p0 : Int) (p1 : Int) (σ : qSt) : qCT l yX5_turned cX5_turned 2 (some .int) qrm0 g z0 w [.int (qI p0), .int (qI p1)] σ (qlift (fX5_turned σ p0 p1) σ) qri := by
  refine qCTp.of [(0, some (.int (qI p0))), (1, some (.int (qI p1)))] (by decide +kernel) (Nat.le_of_ble_eq_true rfl) rfl ?_
  intro p e s m args below meth c cx
  unfold fX5_turned
  refine r_iload_n (pc := 0) cx dX5_turned_0 rfl ?_
  refine r_iload_n (pc := 1) cx dX5_turned_1 rfl ?_
  refine r_ishl (pc := 2) cx dX5_turned_2 ?_
  refine r_iload_n (pc := 3) cx dX5_turned_3 rfl ?_
  refine r_iconst (pc := 4) cx dX5_turned_4 ?_
  refine r_iload_n (pc := 5) cx dX5_turned_5 rfl ?_
  refine r_isub (pc := 6) cx dX5_turned_6 ?_
  refine r_ishr (pc := 7) cx dX5_turned_7 ?_
  refine r_ior (pc := 8) cx dX5_turned_8 ?_
  refine r_bipush (pc := 9) (v := 15) cx dX5_turned_9 (by decide +kernel) ?_
  refine r_iand (pc := 11) cx dX5_turned_11 ?_
  exact r_ireturn (w0 := w) (fun _ _ h => h) (Nat.zero_le _) (Nat.zero_le _) cx dX5_turned_12 rfl
def fX5_isMeeting (σ : qSt) (p0 : Int) : Option Int :=
  (if qI p0 = qI 5 then (some 1) else (if qI p0 = qI 10 then (some 1) else (some 0)))
set_option maxRecDepth 100000 in
set_option maxHeartbeats 4000000 in
theorem tX5_isMeeting {l : Launch} {z0 : Nat} {g : qG} {w : qWd} (p0 : Int) (σ : qSt) : qCT l yX5_isMeeting cX5_isMeeting 1 (some .boolean) qrm0 g z0 w [.int (qI p0)] σ (qlift (fX5_isMeeting σ p0) σ) qri := by
  refine qCTp.of [(0, some (.int (qI p0)))] (by decide +kernel) (Nat.le_of_ble_eq_true rfl) rfl ?_
  intro p e s m args below meth c cx
  unfold fX5_isMeeting
  refine r_iload_n (pc := 0) cx dX5_isMeeting_0 rfl ?_
  refine r_iconst (pc := 1) cx dX5_isMeeting_1 ?_
  refine r_icmp_eq (tgt := 11) cx dX5_isMeeting_2 (by decide) ?_ ?_
  · refine r_iconst (pc := 11) cx dX5_isMeeting_11 ?_
    refine r_goto (pc := 12) (tgt := 16) cx dX5_isMeeting_12 (by decide) ?_
    exact r_zreturn (w0 := w) (fun _ _ h => h) (Nat.zero_le _) (Nat.zero_le _) cx (by decide +kernel) dX5_isMeeting_16 rfl
  · refine r_iload_n (pc := 5) cx dX5_isMeeting_5 rfl ?_
    refine r_bipush (pc := 6) (v := 10) cx dX5_isMeeting_6 (by decide +kernel) ?_
    refine r_icmp_ne (tgt := 15) cx dX5_isMeeting_8 (by decide) ?_ ?_
    · refine r_iconst (pc := 15) cx dX5_isMeeting_15 ?_
      exact r_zreturn (w0 := w) (fun _ _ h => h) (Nat.zero_le _) (Nat.zero_le _) cx (by decide +kernel) dX5_isMeeting_16 rfl
    · refine r_iconst (pc := 11) cx dX5_isMeeting_11 ?_
      refine r_goto (pc := 12) (tgt := 16) cx dX5_isMeeting_12 (by decide) ?_
      exact r_zreturn (w0 := w) (fun _ _ h => h) (Nat.zero_le _) (Nat.zero_le _) cx (by decide +kernel) dX5_isMeeting_16 rfl
def fX5_beside (σ : qSt) (p0 : Int) (p1 : Int) : Option Int :=
  (if qI p1 = qI 0 then (if qI (qrem p0 12) = qI 11 then (some (p0 - 11)) else (some (p0 + 1))) else (if qI p1 = qI 1 then (if qI 12 ≤ qI p0 then (some (p0 - 12)) else (some (-1))) else (if qI p1 = qI 2 then (if qI (qrem p0 12) = 0 then (some (p0 + 11)) else (some (p0 - 1))) else (if qI p0 < qI 84 then (some (p0 + 12)) else (some (-1))))))
set_option maxRecDepth 100000 in
set_option maxHeartbeats 4000000 in
theorem tX5_beside {l : Launch} {z0 : Nat} {g : qG} {w : qWd} (p0 : Int) (p1 : Int) (σ : qSt) : qCT l yX5_beside cX5_beside 2 (some .int) qrm0 g z0 w [.int (qI p0), .int (qI p1)] σ (qlift (fX5_beside σ p0 p1) σ) qri := by
  refine qCTp.of [(0, some (.int (qI p0))), (1, some (.int (qI p1)))] (by decide +kernel) (Nat.le_of_ble_eq_true rfl) rfl ?_
  intro p e s m args below meth c cx
  unfold fX5_beside
  refine r_iload_n (pc := 0) cx dX5_beside_0 rfl ?_
  refine qS.ite (fun hs0 => ?_) (fun hs0 => ?_)
  · refine r_tsw (lo0 := 0) (j := 0) (tgt := 28) cx hs0 dX5_beside_1 (by decide +kernel) (by decide) rfl (by decide) ?_
    refine r_iload_n (pc := 28) cx dX5_beside_28 rfl ?_
    refine r_bipush (pc := 29) (v := 12) cx dX5_beside_29 (by decide +kernel) ?_
    refine r_irem (pc := 31) cx dX5_beside_31 (by decide +kernel) ?_
    refine r_bipush (pc := 32) (v := 11) cx dX5_beside_32 (by decide +kernel) ?_
    refine r_icmp_ne (tgt := 44) cx dX5_beside_34 (by decide) ?_ ?_
    · refine r_iload_n (pc := 44) cx dX5_beside_44 rfl ?_
      refine r_iconst (pc := 45) cx dX5_beside_45 ?_
      refine r_iadd (pc := 46) cx dX5_beside_46 ?_
      exact r_ireturn (w0 := w) (fun _ _ h => h) (Nat.zero_le _) (Nat.zero_le _) cx dX5_beside_47 rfl
    · refine r_iload_n (pc := 37) cx dX5_beside_37 rfl ?_
      refine r_bipush (pc := 38) (v := 11) cx dX5_beside_38 (by decide +kernel) ?_
      refine r_isub (pc := 40) cx dX5_beside_40 ?_
      refine r_goto (pc := 41) (tgt := 47) cx dX5_beside_41 (by decide) ?_
      exact r_ireturn (w0 := w) (fun _ _ h => h) (Nat.zero_le _) (Nat.zero_le _) cx dX5_beside_47 rfl
  refine qS.ite (fun hs1 => ?_) (fun hs1 => ?_)
  · refine r_tsw (lo0 := 0) (j := 1) (tgt := 48) cx hs1 dX5_beside_1 (by decide +kernel) (by decide) rfl (by decide) ?_
    refine r_iload_n (pc := 48) cx dX5_beside_48 rfl ?_
    refine r_bipush (pc := 49) (v := 12) cx dX5_beside_49 (by decide +kernel) ?_
    refine r_icmp_ge (tgt := 58) cx dX5_beside_51 (by decide) ?_ ?_
    · refine r_iload_n (pc := 58) cx dX5_beside_58 rfl ?_
      refine r_bipush (pc := 59) (v := 12) cx dX5_beside_59 (by decide +kernel) ?_
      refine r_isub (pc := 61) cx dX5_beside_61 ?_
      exact r_ireturn (w0 := w) (fun _ _ h => h) (Nat.zero_le _) (Nat.zero_le _) cx dX5_beside_62 rfl
    · refine r_iconst (pc := 54) cx dX5_beside_54 ?_
      refine r_goto (pc := 55) (tgt := 62) cx dX5_beside_55 (by decide) ?_
      exact r_ireturn (w0 := w) (fun _ _ h => h) (Nat.zero_le _) (Nat.zero_le _) cx dX5_beside_62 rfl
  refine qS.ite (fun hs2 => ?_) (fun hs2 => ?_)
  · refine r_tsw (lo0 := 0) (j := 2) (tgt := 63) cx hs2 dX5_beside_1 (by decide +kernel) (by decide) rfl (by decide) ?_
    refine r_iload_n (pc := 63) cx dX5_beside_63 rfl ?_
    refine r_bipush (pc := 64) (v := 12) cx dX5_beside_64 (by decide +kernel) ?_
    refine r_irem (pc := 66) cx dX5_beside_66 (by decide +kernel) ?_
    refine r_if_ne (tgt := 77) cx dX5_beside_67 (by decide) ?_ ?_
    · refine r_iload_n (pc := 77) cx dX5_beside_77 rfl ?_
      refine r_iconst (pc := 78) cx dX5_beside_78 ?_
      refine r_isub (pc := 79) cx dX5_beside_79 ?_
      exact r_ireturn (w0 := w) (fun _ _ h => h) (Nat.zero_le _) (Nat.zero_le _) cx dX5_beside_80 rfl
    · refine r_iload_n (pc := 70) cx dX5_beside_70 rfl ?_
      refine r_bipush (pc := 71) (v := 11) cx dX5_beside_71 (by decide +kernel) ?_
      refine r_iadd (pc := 73) cx dX5_beside_73 ?_
      refine r_goto (pc := 74) (tgt := 80) cx dX5_beside_74 (by decide) ?_
      exact r_ireturn (w0 := w) (fun _ _ h => h) (Nat.zero_le _) (Nat.zero_le _) cx dX5_beside_80 rfl
  refine r_tswd (tgt := 81) cx dX5_beside_1 (q_nsw (N := 3) (by decide) (fun j hj => by match j, hj with | 0, _ => exact hs0 | 1, _ => exact hs1 | 2, _ => exact hs2)) (by decide) ?_
  refine r_iload_n (pc := 81) cx dX5_beside_81 rfl ?_
  refine r_bipush (pc := 82) (v := 84) cx dX5_beside_82 (by decide +kernel) ?_
  refine r_icmp_lt (tgt := 91) cx dX5_beside_84 (by decide) ?_ ?_
  · refine r_iload_n (pc := 91) cx dX5_beside_91 rfl ?_
    refine r_bipush (pc := 92) (v := 12) cx dX5_beside_92 (by decide +kernel) ?_
    refine r_iadd (pc := 94) cx dX5_beside_94 ?_
    exact r_ireturn (w0 := w) (fun _ _ h => h) (Nat.zero_le _) (Nat.zero_le _) cx dX5_beside_95 rfl
  · refine r_iconst (pc := 87) cx dX5_beside_87 ?_
    refine r_goto (pc := 88) (tgt := 95) cx dX5_beside_88 (by decide) ?_
    exact r_ireturn (w0 := w) (fun _ _ h => h) (Nat.zero_le _) (Nat.zero_le _) cx dX5_beside_95 rfl
def fX5_bitsOf_c10 (p0 : Nat) (σ : qSt) : Nat → Int → Int → Int → Option Int
  | 0, _, _, _ => none
  | f + 1, x1, x3, x4 => (if qI x3 ≤ qI x4 then (some x1) else (if 0 ≤ x4 ∧ x4 < 96 then (qb (σ p0 x4) fun (y1 : Int) => ((fJ6_bitCount_0f7a4 σ y1).bind fun (r25 : Int) => (qb (x1 + r25) fun (y2 : Int) => (fX5_bitsOf_c10 p0 σ f y2 x3 (x4 + 1))))) else none))
set_option maxRecDepth 100000 in
set_option maxHeartbeats 4000000 in
theorem tX5_bitsOf_c10 {p : Program} {l : Launch} {e : Env} {s : State} {m : MethodId} {args : Array Value} {below : List Frame} {meth : Method} {c : Code} {z0 : Nat} {g : qG} {w : qWd} {σ : qSt} {p0 ap0 : Nat} (cx : qCx p s m meth c cX5_bitsOf 6 RX5 (some .int) g z0) (hp0 : w p0 = some (ap0, qAI (g.2 0) 96)) : ∀ (f : Nat) (x1 : Int) (x3 : Int) (x4 : Int), qS p l e qrm1 s m args below meth c 6 g z0 w 0 0 (fun r => qQ below g z0 w qri args s 0 0 (r, σ)) (fX5_bitsOf_c10 p0 σ f x1 x3 x4) σ 10 [(1, some (.int (qI x1))), (2, some (.ref ap0)), (3, some (.int (qI x3))), (4, some (.int (qI x4)))] [] := by
  intro f
  induction f with
  | zero => exact fun _ _ _ => qS.fail
  | succ f ih =>
    intro x1 x3 x4
    unfold fX5_bitsOf_c10
    refine r_iload (pc := 10) cx dX5_bitsOf_10 rfl ?_
    refine r_iload_n (pc := 12) cx dX5_bitsOf_12 rfl ?_
    refine r_icmp_ge (tgt := 36) cx dX5_bitsOf_13 (by decide) ?_ ?_
    · refine r_iload_n (pc := 36) cx dX5_bitsOf_36 rfl ?_
      exact r_ireturn (w0 := w) (fun _ _ h => h) (Nat.zero_le _) (Nat.zero_le _) cx dX5_bitsOf_37 rfl
    · refine r_aload_n (pc := 16) cx dX5_bitsOf_16 rfl ?_
      refine r_iload (pc := 17) cx dX5_bitsOf_17 rfl ?_
      refine r_iaload (pc := 19) cx hp0 rfl (by decide) dX5_bitsOf_19 ?_
      refine r_nmi (fun y1 => ?_)
      refine r_istore (pc := 20) cx dX5_bitsOf_20 (by decide) rfl ?_
      refine r_iload_n (pc := 22) cx dX5_bitsOf_22 rfl ?_
      refine r_iload (pc := 23) cx dX5_bitsOf_23 rfl ?_
      refine r_pSi (pc := 25) cx (tJ6_bitCount_0f7a4  y1 σ) qm_J6_bitCount_0f7a4 qs_J6_bitCount_0f7a4 wm_X5_92 dX5_bitsOf_25 rfl rfl (Nat.le_of_ble_eq_true rfl) ⟨Nat.le_of_ble_eq_true rfl, Nat.le_of_ble_eq_true rfl⟩ ⟨rfl, rfl⟩ ⟨Nat.zero_le _, Nat.zero_le _⟩ (fun r25 => ?_)
      refine r_iadd (pc := 28) cx dX5_bitsOf_28 ?_
      refine r_nmi (fun y2 => ?_)
      refine r_istore_n (pc := 29) cx dX5_bitsOf_29 (by decide) rfl ?_
      refine r_iinc (pc := 30) cx dX5_bitsOf_30 rfl (by decide) rfl ?_
      refine r_goto (pc := 33) (tgt := 10) cx dX5_bitsOf_33 (by decide) ?_
      exact qS.sub (qsub_cons rfl (qsub_cons rfl (qsub_cons rfl (qsub_cons rfl (qsub_nil _))))) (ih _ _ _)
def fX5_bitsOf (p0 : Nat) (σ : qSt) : Option Int :=
  (fX5_bitsOf_c10 p0 σ qFU 0 96 0)
set_option maxRecDepth 100000 in
set_option maxHeartbeats 4000000 in
theorem tX5_bitsOf {l : Launch} {z0 : Nat} {g : qG} {w : qWd} {p0 ap0 : Nat} (hp0 : w p0 = some (ap0, qAI (g.2 0) 96)) (σ : qSt) : qCT l yX5_bitsOf cX5_bitsOf 6 (some .int) qrm1 g z0 w [.ref ap0] σ (qlift (fX5_bitsOf p0 σ) σ) qri := by
  refine qCTp.of [(0, some (.ref ap0))] (by decide +kernel) (Nat.le_of_ble_eq_true rfl) rfl ?_
  intro p e s m args below meth c cx
  unfold fX5_bitsOf
  refine r_iconst (pc := 0) cx dX5_bitsOf_0 ?_
  refine r_istore_n (pc := 1) cx dX5_bitsOf_1 (by decide) rfl ?_
  refine r_aload_n (pc := 2) cx dX5_bitsOf_2 rfl ?_
  refine r_astore_n (pc := 3) cx dX5_bitsOf_3 (by decide) rfl ?_
  refine r_aload_n (pc := 4) cx dX5_bitsOf_4 rfl ?_
  refine r_alen_qAI (pc := 5) cx (t0 := 0) (ty := .int) rfl hp0 (M := 96) rfl dX5_bitsOf_5 ?_
  refine r_istore_n (pc := 6) cx dX5_bitsOf_6 (by decide) rfl ?_
  refine r_iconst (pc := 7) cx dX5_bitsOf_7 ?_
  refine r_istore (pc := 8) cx dX5_bitsOf_8 (by decide) rfl ?_
  exact qS.sub (qsub_cons rfl (qsub_cons rfl (qsub_cons rfl (qsub_cons rfl (qsub_nil _))))) (tX5_bitsOf_c10 cx hp0 _ _ _ _)
