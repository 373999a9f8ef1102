def fL_mark_c55 : Nat → Nat → Int → Int → qSt → Option (Int × qSt)
  | 0, _, _, _, _ => none
  | f + 1, kc, x1, x3, σ => (qif (kc + 3 ≤ 700) (if qI 4 ≤ qI x3 then (qbd (fL_sum 6 σ) fun (r109 : Int) (σ5 : qSt) => (some (((31 * x1) + r109), σ5))) else (qbd (fL_bodyOf x3 1 σ) fun (r71 : Int) (σ6 : qSt) => (qbd (fL_bodyOf x3 2 σ6) fun (r82 : Int) (σ7 : qSt) => (qbd (fL_bodyOf x3 3 σ7) fun (r90 : Int) (σ8 : qSt) => (qb ((((31 * x1) + (10007 * r71)) + (101 * r82)) + r90) fun (y9 : Int) => (fL_mark_c55 f (((kc + 1) + 1) + 1) y9 (x3 + 1) σ8)))))))
set_option maxRecDepth 100000 in
set_option maxHeartbeats 4000000 in
theorem tL_mark_c55 {p : Program} {l : Launch} {e : Env} {s : State} {m : MethodId} {args : Array Value} {below : List Frame} {meth : Method} {c : Code} {z0 : Nat} {g : qG} {w : qWd} {ad : Nat → Nat} (cx : qCx p s m meth c cL_mark 4 RL (some .long) g z0) (hB : qBC g ad w) (h66 : w 66 = none) (h67 : w 67 = none) (h68 : w 68 = none) (hl : l.stackTraces = false) : ∀ (f : Nat) (kc : Nat) (x1 : Int) (x3 : Int) (σ : qSt), qS p l e (qrk 8 700 4200) s m args below meth c 4 g z0 w kc (0 + 6 * kc) (qQ below g z0 w qrj args s 700 4200) (fL_mark_c55 f kc x1 x3 σ) σ 55 [(0, some (.ref (ad 0))), (1, some (.long (qJ x1))), (3, some (.int (qI x3)))] [] := by
  intro f
  induction f with
  | zero => exact fun _ _ _ _ => qS.fail
  | succ f ih =>
    intro kc x1 x3 σ
    unfold fL_mark_c55
    refine r_qif (fun hkc => ?_)
    refine r_iload_n (pc := 55) cx dL_mark_55 rfl ?_
    refine r_iconst (pc := 56) cx dL_mark_56 ?_
    refine r_icmp_ge (tgt := 101) cx dL_mark_57 (by decide) ?_ ?_
    · refine r_ldc2 (pc := 101) (v := 31) cx dL_mark_101 wq_L_97 ?_
      refine r_lload_n (pc := 104) cx dL_mark_104 rfl ?_
      refine r_lmul (pc := 105) cx dL_mark_105 ?_
      refine r_aload_n (pc := 106) cx dL_mark_106 rfl ?_
      refine r_bipush (pc := 107) (v := 6) cx dL_mark_107 (by decide +kernel) ?_
      refine r_wj (pc := 109) (nb := 0) (k := kc) (mc := 1) (Mx := 700) cx (tL_sum hB h66 h67 h68 hl 6 σ) qmh_L_sum wm_L_114 dL_mark_109 rfl rfl (Nat.le_of_ble_eq_true rfl) ⟨Nat.le_of_ble_eq_true rfl, Nat.le_of_ble_eq_true rfl⟩ ⟨Nat.le_of_ble_eq_true rfl, Nat.le_of_ble_eq_true rfl⟩ ⟨Nat.le_of_ble_eq_true rfl, Nat.le_of_ble_eq_true rfl⟩ (by omega) (fun r109 σ5 => ?_)
      refine r_ladd (pc := 112) cx dL_mark_112 ?_
      exact r_lreturn (pc := 113) (w0 := w) (mc := 700) (ms := 4200) (fun _ _ h => h) (by omega) (by omega) cx dL_mark_113 rfl
    · refine r_ldc2 (pc := 60) (v := 31) cx dL_mark_60 wq_L_97 ?_
      refine r_lload_n (pc := 63) cx dL_mark_63 rfl ?_
      refine r_lmul (pc := 64) cx dL_mark_64 ?_
      refine r_ldc2 (pc := 65) (v := 10007) cx dL_mark_65 wq_L_108 ?_
      refine r_aload_n (pc := 68) cx dL_mark_68 rfl ?_
      refine r_iload_n (pc := 69) cx dL_mark_69 rfl ?_
      refine r_iconst (pc := 70) cx dL_mark_70 ?_
      refine r_wj (pc := 71) (nb := 0) (k := kc) (mc := 1) (Mx := 700) cx (tL_bodyOf hB h66 h67 h68 hl x3 1 σ) qmh_L_bodyOf wm_L_110 dL_mark_71 rfl rfl (Nat.le_of_ble_eq_true rfl) ⟨Nat.le_of_ble_eq_true rfl, Nat.le_of_ble_eq_true rfl⟩ ⟨Nat.le_of_ble_eq_true rfl, Nat.le_of_ble_eq_true rfl⟩ ⟨Nat.le_of_ble_eq_true rfl, Nat.le_of_ble_eq_true rfl⟩ (by omega) (fun r71 σ6 => ?_)
      refine r_lmul (pc := 74) cx dL_mark_74 ?_
      refine r_ladd (pc := 75) cx dL_mark_75 ?_
      refine r_ldc2 (pc := 76) (v := 101) cx dL_mark_76 wq_L_112 ?_
      refine r_aload_n (pc := 79) cx dL_mark_79 rfl ?_
      refine r_iload_n (pc := 80) cx dL_mark_80 rfl ?_
      refine r_iconst (pc := 81) cx dL_mark_81 ?_
      refine r_wj (pc := 82) (nb := 0) (k := (kc + 1)) (mc := 1) (Mx := 700) cx (tL_bodyOf hB h66 h67 h68 hl x3 2 σ6) qmh_L_bodyOf wm_L_110 dL_mark_82 rfl rfl (Nat.le_of_ble_eq_true rfl) ⟨Nat.le_of_ble_eq_true rfl, Nat.le_of_ble_eq_true rfl⟩ ⟨Nat.le_of_ble_eq_true rfl, Nat.le_of_ble_eq_true rfl⟩ ⟨Nat.le_of_ble_eq_true rfl, Nat.le_of_ble_eq_true rfl⟩ (by omega) (fun r82 σ7 => ?_)
      refine r_lmul (pc := 85) cx dL_mark_85 ?_
      refine r_ladd (pc := 86) cx dL_mark_86 ?_
      refine r_aload_n (pc := 87) cx dL_mark_87 rfl ?_
      refine r_iload_n (pc := 88) cx dL_mark_88 rfl ?_
      refine r_iconst (pc := 89) cx dL_mark_89 ?_
      refine r_wj (pc := 90) (nb := 0) (k := ((kc + 1) + 1)) (mc := 1) (Mx := 700) cx (tL_bodyOf hB h66 h67 h68 hl x3 3 σ7) qmh_L_bodyOf wm_L_110 dL_mark_90 rfl rfl (Nat.le_of_ble_eq_true rfl) ⟨Nat.le_of_ble_eq_true rfl, Nat.le_of_ble_eq_true rfl⟩ ⟨Nat.le_of_ble_eq_true rfl, Nat.le_of_ble_eq_true rfl⟩ ⟨Nat.le_of_ble_eq_true rfl, Nat.le_of_ble_eq_true rfl⟩ (by omega) (fun r90 σ8 => ?_)
      refine r_ladd (pc := 93) cx dL_mark_93 ?_
      refine r_nml (fun y9 => ?_)
      refine r_lstore_n (pc := 94) cx dL_mark_94 (by decide) rfl ?_
      refine r_iinc (pc := 95) cx dL_mark_95 rfl (by decide) rfl ?_
      refine r_goto (pc := 98) (tgt := 55) cx dL_mark_98 (by decide) ?_
      exact qS.sub (qsub_cons rfl (qsub_cons rfl (qsub_cons rfl (qsub_nil _)))) (ih _ _ _ _)
def fL_mark_c6 : Nat → Nat → Int → Int → qSt → Option (Int × qSt)
  | 0, _, _, _, _ => none
  | f + 1, kc, x1, x3, σ => (qif (kc + 3 ≤ 700) (if qI 96 ≤ qI x3 then (fL_mark_c55 qFU kc x1 0 σ) else (qbd (fL_cellOf x3 0 σ) fun (r23 : Int) (σ1 : qSt) => (qbd (fL_cellOf x3 2 σ1) fun (r34 : Int) (σ2 : qSt) => (qbd (fL_cellOf x3 3 σ2) fun (r42 : Int) (σ3 : qSt) => (qb ((((31 * x1) + (256 * r23)) + (16 * r34)) + r42) fun (y4 : Int) => (fL_mark_c6 f (((kc + 1) + 1) + 1) y4 (x3 + 1) σ3)))))))
set_option maxRecDepth 100000 in
set_option maxHeartbeats 4000000 in
theorem tL_mark_c6 {p : Program} {l : Launch} {e : Env} {s : State} {m : MethodId} {args : Array Value} {below : List Frame} {meth : Method} {c : Code} {z0 : Nat} {g : qG} {w : qWd} {ad : Nat → Nat} (cx : qCx p s m meth c cL_mark 4 RL (some .long) g z0) (hB : qBC g ad w) (h66 : w 66 = none) (h67 : w 67 = none) (h68 : w 68 = none) (hl : l.stackTraces = false) : ∀ (f : Nat) (kc : Nat) (x1 : Int) (x3 : Int) (σ : qSt), qS p l e (qrk 8 700 4200) s m args below meth c 4 g z0 w kc (0 + 6 * kc) (qQ below g z0 w qrj args s 700 4200) (fL_mark_c6 f kc x1 x3 σ) σ 6 [(0, some (.ref (ad 0))), (1, some (.long (qJ x1))), (3, some (.int (qI x3)))] [] := by
  intro f
  induction f with
  | zero => exact fun _ _ _ _ => qS.fail
  | succ f ih =>
    intro kc x1 x3 σ
    unfold fL_mark_c6
    refine r_qif (fun hkc => ?_)
    refine r_iload_n (pc := 6) cx dL_mark_6 rfl ?_
    refine r_bipush (pc := 7) (v := 96) cx dL_mark_7 (by decide +kernel) ?_
    refine r_icmp_ge (tgt := 53) cx dL_mark_9 (by decide) ?_ ?_
    · refine r_iconst (pc := 53) cx dL_mark_53 ?_
      refine r_istore_n (pc := 54) cx dL_mark_54 (by decide) rfl ?_
      exact qS.sub (qsub_cons rfl (qsub_cons rfl (qsub_cons rfl (qsub_nil _)))) (tL_mark_c55 cx hB h66 h67 h68 hl _ _ _ _ _)
    · refine r_ldc2 (pc := 12) (v := 31) cx dL_mark_12 wq_L_97 ?_
      refine r_lload_n (pc := 15) cx dL_mark_15 rfl ?_
      refine r_lmul (pc := 16) cx dL_mark_16 ?_
      refine r_ldc2 (pc := 17) (v := 256) cx dL_mark_17 wq_L_99 ?_
      refine r_aload_n (pc := 20) cx dL_mark_20 rfl ?_
      refine r_iload_n (pc := 21) cx dL_mark_21 rfl ?_
      refine r_iconst (pc := 22) cx dL_mark_22 ?_
      refine r_wj (pc := 23) (nb := 0) (k := kc) (mc := 1) (Mx := 700) cx (tL_cellOf hB h66 h67 h68 hl x3 0 σ) qmh_L_cellOf wm_L_101 dL_mark_23 rfl rfl (Nat.le_of_ble_eq_true rfl) ⟨Nat.le_of_ble_eq_true rfl, Nat.le_of_ble_eq_true rfl⟩ ⟨Nat.le_of_ble_eq_true rfl, Nat.le_of_ble_eq_true rfl⟩ ⟨Nat.le_of_ble_eq_true rfl, Nat.le_of_ble_eq_true rfl⟩ (by omega) (fun r23 σ1 => ?_)
      refine r_lmul (pc := 26) cx dL_mark_26 ?_
      refine r_ladd (pc := 27) cx dL_mark_27 ?_
      refine r_ldc2 (pc := 28) (v := 16) cx dL_mark_28 wq_L_106 ?_
      refine r_aload_n (pc := 31) cx dL_mark_31 rfl ?_
      refine r_iload_n (pc := 32) cx dL_mark_32 rfl ?_
      refine r_iconst (pc := 33) cx dL_mark_33 ?_
      refine r_wj (pc := 34) (nb := 0) (k := (kc + 1)) (mc := 1) (Mx := 700) cx (tL_cellOf hB h66 h67 h68 hl x3 2 σ1) qmh_L_cellOf wm_L_101 dL_mark_34 rfl rfl (Nat.le_of_ble_eq_true rfl) ⟨Nat.le_of_ble_eq_true rfl, Nat.le_of_ble_eq_true rfl⟩ ⟨Nat.le_of_ble_eq_true rfl, Nat.le_of_ble_eq_true rfl⟩ ⟨Nat.le_of_ble_eq_true rfl, Nat.le_of_ble_eq_true rfl⟩ (by omega) (fun r34 σ2 => ?_)
      refine r_lmul (pc := 37) cx dL_mark_37 ?_
      refine r_ladd (pc := 38) cx dL_mark_38 ?_
      refine r_aload_n (pc := 39) cx dL_mark_39 rfl ?_
      refine r_iload_n (pc := 40) cx dL_mark_40 rfl ?_
      refine r_iconst (pc := 41) cx dL_mark_41 ?_
      refine r_wj (pc := 42) (nb := 0) (k := ((kc + 1) + 1)) (mc := 1) (Mx := 700) cx (tL_cellOf hB h66 h67 h68 hl x3 3 σ2) qmh_L_cellOf wm_L_101 dL_mark_42 rfl rfl (Nat.le_of_ble_eq_true rfl) ⟨Nat.le_of_ble_eq_true rfl, Nat.le_of_ble_eq_true rfl⟩ ⟨Nat.le_of_ble_eq_true rfl, Nat.le_of_ble_eq_true rfl⟩ ⟨Nat.le_of_ble_eq_true rfl, Nat.le_of_ble_eq_true rfl⟩ (by omega) (fun r42 σ3 => ?_)
      refine r_ladd (pc := 45) cx dL_mark_45 ?_
      refine r_nml (fun y4 => ?_)
      refine r_lstore_n (pc := 46) cx dL_mark_46 (by decide) rfl ?_
      refine r_iinc (pc := 47) cx dL_mark_47 rfl (by decide) rfl ?_
      refine r_goto (pc := 50) (tgt := 6) cx dL_mark_50 (by decide) ?_
      exact qS.sub (qsub_cons rfl (qsub_cons rfl (qsub_cons rfl (qsub_nil _)))) (ih _ _ _ _)
def fL_mark (σ : qSt) : Option (Int × qSt) :=
  (fL_mark_c6 qFU 0 17 0 σ)
set_option maxRecDepth 100000 in
set_option maxHeartbeats 4000000 in
theorem tL_mark {l : Launch} {z0 : Nat} {g : qG} {w : qWd} {ad : Nat → Nat} (hB : qBC g ad w) (h66 : w 66 = none) (h67 : w 67 = none) (h68 : w 68 = none) (hl : l.stackTraces = false) (σ : qSt) : qCT l yL_mark cL_mark 4 (some .long) (qrk 8 700 4200) g z0 w [.ref (ad 0)] σ (fL_mark σ) qrj := by
  refine qCT.of [(0, some (.ref (ad 0)))] (by decide +kernel) (Nat.le_of_ble_eq_true rfl) rfl ?_
  intro p e s m args below meth c cx
  unfold fL_mark
  refine qS.widen (k2 := 0) (n2 := 0 + 6 * 0) (Nat.le_refl _) (Nat.zero_le _) ?_
  refine r_ldc2 (pc := 0) (v := 17) cx dL_mark_0 wq_L_95 ?_
  refine r_lstore_n (pc := 3) cx dL_mark_3 (by decide) rfl ?_
  refine r_iconst (pc := 4) cx dL_mark_4 ?_
  refine r_istore_n (pc := 5) cx dL_mark_5 (by decide) rfl ?_
  exact qS.sub (qsub_cons rfl (qsub_cons rfl (qsub_cons rfl (qsub_nil _)))) (tL_mark_c6 cx hB h66 h67 h68 hl _ _ _ _ _)
