def fX5_aheadAnew (p0 : Int) (p1 : Int) (σ : qSt) : Option (Int × Int × qSt) :=
  ((fX5_isNoCell σ p0).bind fun (r1 : Int) => (if qI r1 = 0 then ((fX5_isOutside σ p1 0 5).bind fun (r18 : Int) => (if qI r18 = 0 then ((fX5_arrived σ p0 p1).bind fun (r38 : Int) => (some (0, r38, σ))) else (some (2, 0, σ)))) else (some (1, 0, σ))))
set_option maxRecDepth 100000 in
set_option maxHeartbeats 4000000 in
theorem tX5_aheadAnew {l : Launch} {z0 : Nat} {g : qG} {w : qWd} {ad : Nat → Nat} (hB : qBC g ad w) (hl : l.stackTraces = false) (p0 : Int) (p1 : Int) (σ : qSt) : qXT l yX5_aheadAnew cX5_aheadAnew 3 (some .int) qrx31 g z0 w [.ref (ad 0), .int (qI p0), .int (qI p1)] σ (fX5_aheadAnew p0 p1 σ) qri := by
  refine qXT.of [(0, some (.ref (ad 0))), (1, some (.int (qI p0))), (2, some (.int (qI p1)))] (by decide +kernel) (Nat.le_of_ble_eq_true rfl) rfl ?_
  intro p e s m args below meth c cx htab
  unfold fX5_aheadAnew
  refine r_iload_n (pc := 0) cx dX5_aheadAnew_0 rfl ?_
  refine r_pSi (pc := 1) cx (tX5_isNoCell  p0 σ) qm_X5_isNoCell qs_X5_isNoCell wm_X5_37 dX5_aheadAnew_1 rfl rfl (Nat.le_of_ble_eq_true rfl) ⟨Nat.le_of_ble_eq_true rfl, Nat.le_of_ble_eq_true rfl⟩ ⟨rfl, rfl⟩ ⟨Nat.zero_le _, Nat.zero_le _⟩ (fun r1 => ?_)
  refine r_if_eq (tgt := 15) cx dX5_aheadAnew_4 (by decide) ?_ ?_
  · refine r_iload_n (pc := 15) cx dX5_aheadAnew_15 rfl ?_
    refine r_iconst (pc := 16) cx dX5_aheadAnew_16 ?_
    refine r_iconst (pc := 17) cx dX5_aheadAnew_17 ?_
    refine r_pSi (pc := 18) cx (tX5_isOutside  p1 0 5 σ) qm_X5_isOutside qs_X5_isOutside wm_X5_74 dX5_aheadAnew_18 rfl rfl (Nat.le_of_ble_eq_true rfl) ⟨Nat.le_of_ble_eq_true rfl, Nat.le_of_ble_eq_true rfl⟩ ⟨rfl, rfl⟩ ⟨Nat.zero_le _, Nat.zero_le _⟩ (fun r18 => ?_)
    refine r_if_eq (tgt := 32) cx dX5_aheadAnew_21 (by decide) ?_ ?_
    · refine r_aload_n (pc := 32) cx dX5_aheadAnew_32 rfl ?_
      refine r_get (pc := 33) cx hcl_X5 qc_X5 (lw0 hB) (j := 0) (by decide) wf_X5_10 dX5_aheadAnew_33 (x := .ref (ad 1)) rfl ?_
      refine r_iload_n (pc := 36) cx dX5_aheadAnew_36 rfl ?_
      refine r_iload_n (pc := 37) cx dX5_aheadAnew_37 rfl ?_
      refine r_pSi (pc := 38) cx (tX5_arrived hB p0 p1 σ) qm_X5_arrived qs_X5_arrived wm_X5_207 dX5_aheadAnew_38 rfl rfl (Nat.le_of_ble_eq_true rfl) ⟨Nat.le_of_ble_eq_true rfl, Nat.le_of_ble_eq_true rfl⟩ ⟨rfl, rfl⟩ ⟨Nat.zero_le _, Nat.zero_le _⟩ (fun r38 => ?_)
      exact r_xireturn (w0 := w) (fun _ _ h => h) (Nat.zero_le _) (Nat.zero_le _) cx dX5_aheadAnew_41 rfl
    · exact r_throw (w0 := w) (mc := 1) (ms := 6) (rk := qri) cx hl htab qt_qE2_71_73 (by rfl) (fun _ _ h => h) (Nat.le_of_ble_eq_true rfl) (Nat.le_of_ble_eq_true rfl) (Nat.le_of_ble_eq_true rfl) (Nat.le_of_ble_eq_true rfl) (Nat.le_of_ble_eq_true rfl) (Nat.le_of_ble_eq_true rfl) dX5_aheadAnew_24 dX5_aheadAnew_27 dX5_aheadAnew_28 dX5_aheadAnew_31 rfl
  · exact r_throw (w0 := w) (mc := 1) (ms := 6) (rk := qri) cx hl htab qt_qE1_44_46 (by rfl) (fun _ _ h => h) (Nat.le_of_ble_eq_true rfl) (Nat.le_of_ble_eq_true rfl) (Nat.le_of_ble_eq_true rfl) (Nat.le_of_ble_eq_true rfl) (Nat.le_of_ble_eq_true rfl) (Nat.le_of_ble_eq_true rfl) dX5_aheadAnew_7 dX5_aheadAnew_10 dX5_aheadAnew_11 dX5_aheadAnew_14 rfl
