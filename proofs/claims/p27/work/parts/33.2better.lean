def fL_betterHolds (p1 : Int) (σ : qSt) : Option (Int × qSt) :=
  (qbd (fL_better p1 1 σ) fun (r3 : Int) (σ1 : qSt) => (if qI (qlcmp r3 (-1)) = 0 then (some (1, σ1)) else (if qI (qlcmp r3 0) < 0 then (some (0, σ1)) else (if 0 ≤ qI (qlcmp r3 96) then (some (0, σ1)) else (qbd (fL_cellOf (ql2i r3) 1 σ1) fun (r33 : Int) (σ2 : qSt) => (if qI (qlcmp r33 (qi2l p1)) = 0 then (some (1, σ2)) else (some (0, σ2))))))))
set_option maxRecDepth 100000 in
set_option maxHeartbeats 4000000 in
theorem tL_betterHolds {l : Launch} {z0 : Nat} {g : qG} {w : qWd} {ad : Nat → Nat} (hB : qBC g ad w) (h66 : w 66 = none) (h67 : w 67 = none) (h68 : w 68 = none) (hl : l.stackTraces = false) (p1 : Int) (σ : qSt) : qCT l yL_betterHolds cL_betterHolds 4 (some .boolean) (qrk 9 60 360) g z0 w [.ref (ad 0), .int (qI p1)] σ (fL_betterHolds p1 σ) qri := by
  refine qCT.of [(0, some (.ref (ad 0))), (1, some (.int (qI p1)))] (by decide +kernel) (Nat.le_of_ble_eq_true rfl) rfl ?_
  intro p e s m args below meth c cx
  unfold fL_betterHolds
  refine qS.widen (k2 := 0) (n2 := 0 + 6 * 0) (Nat.le_refl _) (Nat.zero_le _) ?_
  refine r_aload_n (pc := 0) cx dL_betterHolds_0 rfl ?_
  refine r_iload_n (pc := 1) cx dL_betterHolds_1 rfl ?_
  refine r_iconst (pc := 2) cx dL_betterHolds_2 ?_
  refine r_wj (pc := 3) (nb := 0) (k := 0) (mc := 1) (Mx := 60) cx (tL_better hB h66 h67 h68 hl p1 1 σ) qmh_L_better wm_L_136 dL_betterHolds_3 rfl rfl (Nat.le_of_ble_eq_true rfl) ⟨Nat.le_of_ble_eq_true rfl, Nat.le_of_ble_eq_true rfl⟩ ⟨Nat.le_of_ble_eq_true rfl, Nat.le_of_ble_eq_true rfl⟩ ⟨Nat.le_of_ble_eq_true rfl, Nat.le_of_ble_eq_true rfl⟩ (by omega) (fun r3 σ1 => ?_)
  refine r_lstore_n (pc := 6) cx dL_betterHolds_6 (by decide) rfl ?_
  refine r_lload_n (pc := 7) cx dL_betterHolds_7 rfl ?_
  refine r_ldc2 (pc := 8) (v := (-1)) cx dL_betterHolds_8 wq_L_117 ?_
  refine r_lcmp (pc := 11) cx dL_betterHolds_11 ?_
  refine r_if_eq (tgt := 42) cx dL_betterHolds_12 (by decide) ?_ ?_
  · refine r_iconst (pc := 42) cx dL_betterHolds_42 ?_
    refine r_goto (pc := 43) (tgt := 47) cx dL_betterHolds_43 (by decide) ?_
    exact r_zreturn (pc := 47) (w0 := w) (mc := 60) (ms := 360) (fun _ _ h => h) (by omega) (by omega) cx (by decide +kernel) dL_betterHolds_47 rfl
  · refine r_lload_n (pc := 15) cx dL_betterHolds_15 rfl ?_
    refine r_lconst (pc := 16) (z := 0) cx dL_betterHolds_16 (by decide +kernel) ?_
    refine r_lcmp (pc := 17) cx dL_betterHolds_17 ?_
    refine r_if_lt (tgt := 46) cx dL_betterHolds_18 (by decide) ?_ ?_
    · refine r_iconst (pc := 46) cx dL_betterHolds_46 ?_
      exact r_zreturn (pc := 47) (w0 := w) (mc := 60) (ms := 360) (fun _ _ h => h) (by omega) (by omega) cx (by decide +kernel) dL_betterHolds_47 rfl
    · refine r_lload_n (pc := 21) cx dL_betterHolds_21 rfl ?_
      refine r_ldc2 (pc := 22) (v := 96) cx dL_betterHolds_22 wq_L_138 ?_
      refine r_lcmp (pc := 25) cx dL_betterHolds_25 ?_
      refine r_if_ge (tgt := 46) cx dL_betterHolds_26 (by decide) ?_ ?_
      · refine r_iconst (pc := 46) cx dL_betterHolds_46 ?_
        exact r_zreturn (pc := 47) (w0 := w) (mc := 60) (ms := 360) (fun _ _ h => h) (by omega) (by omega) cx (by decide +kernel) dL_betterHolds_47 rfl
      · refine r_aload_n (pc := 29) cx dL_betterHolds_29 rfl ?_
        refine r_lload_n (pc := 30) cx dL_betterHolds_30 rfl ?_
        refine r_l2i (pc := 31) cx dL_betterHolds_31 ?_
        refine r_iconst (pc := 32) cx dL_betterHolds_32 ?_
        refine r_wj (pc := 33) (nb := 0) (k := (0 + 1)) (mc := 1) (Mx := 60) cx (tL_cellOf hB h66 h67 h68 hl (ql2i r3) 1 σ1) qmh_L_cellOf wm_L_101 dL_betterHolds_33 rfl rfl (Nat.le_of_ble_eq_true rfl) ⟨Nat.le_of_ble_eq_true rfl, Nat.le_of_ble_eq_true rfl⟩ ⟨Nat.le_of_ble_eq_true rfl, Nat.le_of_ble_eq_true rfl⟩ ⟨Nat.le_of_ble_eq_true rfl, Nat.le_of_ble_eq_true rfl⟩ (by omega) (fun r33 σ2 => ?_)
        refine r_iload_n (pc := 36) cx dL_betterHolds_36 rfl ?_
        refine r_i2l (pc := 37) cx dL_betterHolds_37 ?_
        refine r_lcmp (pc := 38) cx dL_betterHolds_38 ?_
        refine r_if_ne (tgt := 46) cx dL_betterHolds_39 (by decide) ?_ ?_
        · refine r_iconst (pc := 46) cx dL_betterHolds_46 ?_
          exact r_zreturn (pc := 47) (w0 := w) (mc := 60) (ms := 360) (fun _ _ h => h) (by omega) (by omega) cx (by decide +kernel) dL_betterHolds_47 rfl
        · refine r_iconst (pc := 42) cx dL_betterHolds_42 ?_
          refine r_goto (pc := 43) (tgt := 47) cx dL_betterHolds_43 (by decide) ?_
          exact r_zreturn (pc := 47) (w0 := w) (mc := 60) (ms := 360) (fun _ _ h => h) (by omega) (by omega) cx (by decide +kernel) dL_betterHolds_47 rfl
