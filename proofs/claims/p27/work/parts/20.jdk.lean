def qFU : Nat := 100000
theorem hcl_X0 : qCl[0]? = some (RX0, TX0, 4) := rfl
theorem hcl_X1 : qCl[1]? = some (RX1, TX1, 4) := rfl
theorem hcl_X2 : qCl[2]? = some (RX2, TX2, 3) := rfl
theorem hcl_X3 : qCl[3]? = some (RX3, TX3, 13) := rfl
theorem hcl_X4 : qCl[4]? = some (RX4, TX4, 4) := rfl
theorem hcl_X5 : qCl[5]? = some (RX5, TX5, 7) := rfl
abbrev qrx0 : Room := { frames := 7, cells := 1, slots := 6, locals := 120 }
abbrev qrx1 : Room := { frames := 8, cells := 1, slots := 6, locals := 160 }
abbrev qrx2 : Room := { frames := 9, cells := 1, slots := 6, locals := 200 }
abbrev qrx3 : Room := { frames := 10, cells := 1, slots := 6, locals := 240 }
abbrev qrx4 : Room := { frames := 11, cells := 1, slots := 6, locals := 280 }
abbrev qrx5 : Room := { frames := 12, cells := 1, slots := 6, locals := 320 }
abbrev qrx6 : Room := { frames := 13, cells := 1, slots := 6, locals := 360 }
abbrev qrx7 : Room := { frames := 14, cells := 1, slots := 6, locals := 400 }
abbrev qrx8 : Room := { frames := 15, cells := 1, slots := 6, locals := 440 }
abbrev qrx9 : Room := { frames := 16, cells := 1, slots := 6, locals := 480 }
abbrev qrx10 : Room := { frames := 17, cells := 1, slots := 6, locals := 520 }
abbrev qrx11 : Room := { frames := 18, cells := 1, slots := 6, locals := 560 }
abbrev qrx12 : Room := { frames := 19, cells := 1, slots := 6, locals := 600 }
abbrev qrx13 : Room := { frames := 20, cells := 1, slots := 6, locals := 640 }
abbrev qrx14 : Room := { frames := 21, cells := 1, slots := 6, locals := 680 }
abbrev qrx15 : Room := { frames := 22, cells := 1, slots := 6, locals := 720 }
abbrev qrx16 : Room := { frames := 23, cells := 1, slots := 6, locals := 760 }
abbrev qrx17 : Room := { frames := 24, cells := 1, slots := 6, locals := 800 }
abbrev qrx18 : Room := { frames := 25, cells := 1, slots := 6, locals := 840 }
abbrev qrx19 : Room := { frames := 26, cells := 1, slots := 6, locals := 880 }
abbrev qrx20 : Room := { frames := 27, cells := 1, slots := 6, locals := 920 }
abbrev qrx21 : Room := { frames := 28, cells := 1, slots := 6, locals := 960 }
abbrev qrx22 : Room := { frames := 29, cells := 1, slots := 6, locals := 1000 }
abbrev qrx23 : Room := { frames := 30, cells := 1, slots := 6, locals := 1040 }
def fJ6_bitCount_0f7a4 (σ : qSt) (p0 : Int) : Option Int :=
  (qb (p0 - (qand (qushr p0 1) 1431655765)) fun (y1 : Int) => (qb ((qand y1 858993459) + (qand (qushr y1 2) 858993459)) fun (y2 : Int) => (qb (qand (y2 + (qushr y2 4)) 252645135) fun (y3 : Int) => (qb (y3 + (qushr y3 8)) fun (y4 : Int) => (qb (y4 + (qushr y4 16)) fun (y5 : Int) => (some (qand y5 63)))))))
set_option maxRecDepth 100000 in
set_option maxHeartbeats 4000000 in
theorem tJ6_bitCount_0f7a4 {l : Launch} {z0 : Nat} {g : qG} {w : qWd} (p0 : Int) (σ : qSt) : qCT l yJ6_bitCount_0f7a4 cJ6_bitCount_0f7a4 1 (some .int) qrm0 g z0 w [.int (qI p0)] σ (qlift (fJ6_bitCount_0f7a4 σ p0) σ) qri := by
  refine qCTp.of [(0, some (.int (qI p0)))] (by decide +kernel) (Nat.le_of_ble_eq_true rfl) rfl ?_
  intro p e s m args below meth c cx
  unfold fJ6_bitCount_0f7a4
  refine r_iload_n (pc := 0) cx dJ6_bitCount_0f7a4_0 rfl ?_
  refine r_iload_n (pc := 1) cx dJ6_bitCount_0f7a4_1 rfl ?_
  refine r_iconst (pc := 2) cx dJ6_bitCount_0f7a4_2 ?_
  refine r_iushr (pc := 3) cx dJ6_bitCount_0f7a4_3 ?_
  refine r_ldcw (pc := 4) (v := 1431655765) cx dJ6_bitCount_0f7a4_4 wk_J6_265 ?_
  refine r_iand (pc := 7) cx dJ6_bitCount_0f7a4_7 ?_
  refine r_isub (pc := 8) cx dJ6_bitCount_0f7a4_8 ?_
  refine r_nmi (fun y1 => ?_)
  refine r_istore_n (pc := 9) cx dJ6_bitCount_0f7a4_9 (by decide) rfl ?_
  refine r_iload_n (pc := 10) cx dJ6_bitCount_0f7a4_10 rfl ?_
  refine r_ldcw (pc := 11) (v := 858993459) cx dJ6_bitCount_0f7a4_11 wk_J6_266 ?_
  refine r_iand (pc := 14) cx dJ6_bitCount_0f7a4_14 ?_
  refine r_iload_n (pc := 15) cx dJ6_bitCount_0f7a4_15 rfl ?_
  refine r_iconst (pc := 16) cx dJ6_bitCount_0f7a4_16 ?_
  refine r_iushr (pc := 17) cx dJ6_bitCount_0f7a4_17 ?_
  refine r_ldcw (pc := 18) (v := 858993459) cx dJ6_bitCount_0f7a4_18 wk_J6_266 ?_
  refine r_iand (pc := 21) cx dJ6_bitCount_0f7a4_21 ?_
  refine r_iadd (pc := 22) cx dJ6_bitCount_0f7a4_22 ?_
  refine r_nmi (fun y2 => ?_)
  refine r_istore_n (pc := 23) cx dJ6_bitCount_0f7a4_23 (by decide) rfl ?_
  refine r_iload_n (pc := 24) cx dJ6_bitCount_0f7a4_24 rfl ?_
  refine r_iload_n (pc := 25) cx dJ6_bitCount_0f7a4_25 rfl ?_
  refine r_iconst (pc := 26) cx dJ6_bitCount_0f7a4_26 ?_
  refine r_iushr (pc := 27) cx dJ6_bitCount_0f7a4_27 ?_
  refine r_iadd (pc := 28) cx dJ6_bitCount_0f7a4_28 ?_
  refine r_ldcw (pc := 29) (v := 252645135) cx dJ6_bitCount_0f7a4_29 wk_J6_267 ?_
  refine r_iand (pc := 32) cx dJ6_bitCount_0f7a4_32 ?_
  refine r_nmi (fun y3 => ?_)
  refine r_istore_n (pc := 33) cx dJ6_bitCount_0f7a4_33 (by decide) rfl ?_
  refine r_iload_n (pc := 34) cx dJ6_bitCount_0f7a4_34 rfl ?_
  refine r_iload_n (pc := 35) cx dJ6_bitCount_0f7a4_35 rfl ?_
  refine r_bipush (pc := 36) (v := 8) cx dJ6_bitCount_0f7a4_36 (by decide +kernel) ?_
  refine r_iushr (pc := 38) cx dJ6_bitCount_0f7a4_38 ?_
  refine r_iadd (pc := 39) cx dJ6_bitCount_0f7a4_39 ?_
  refine r_nmi (fun y4 => ?_)
  refine r_istore_n (pc := 40) cx dJ6_bitCount_0f7a4_40 (by decide) rfl ?_
  refine r_iload_n (pc := 41) cx dJ6_bitCount_0f7a4_41 rfl ?_
  refine r_iload_n (pc := 42) cx dJ6_bitCount_0f7a4_42 rfl ?_
  refine r_bipush (pc := 43) (v := 16) cx dJ6_bitCount_0f7a4_43 (by decide +kernel) ?_
  refine r_iushr (pc := 45) cx dJ6_bitCount_0f7a4_45 ?_
  refine r_iadd (pc := 46) cx dJ6_bitCount_0f7a4_46 ?_
  refine r_nmi (fun y5 => ?_)
  refine r_istore_n (pc := 47) cx dJ6_bitCount_0f7a4_47 (by decide) rfl ?_
  refine r_iload_n (pc := 48) cx dJ6_bitCount_0f7a4_48 rfl ?_
  refine r_bipush (pc := 49) (v := 63) cx dJ6_bitCount_0f7a4_49 (by decide +kernel) ?_
  refine r_iand (pc := 51) cx dJ6_bitCount_0f7a4_51 ?_
  exact r_ireturn (w0 := w) (fun _ _ h => h) (Nat.zero_le _) (Nat.zero_le _) cx dJ6_bitCount_0f7a4_52 rfl
def fJ9_floorMod_7cf53 (σ : qSt) (p0 : Int) (p1 : Int) : Option Int :=
  (if qI p1 = 0 then none else (qb (qrem p0 p1) fun (y1 : Int) => (if 0 ≤ qI (qxor p0 p1) then (some y1) else (if qI y1 = 0 then (some y1) else (some (y1 + p1))))))
set_option maxRecDepth 100000 in
set_option maxHeartbeats 4000000 in
theorem tJ9_floorMod_7cf53 {l : Launch} {z0 : Nat} {g : qG} {w : qWd} (p0 : Int) (p1 : Int) (σ : qSt) : qCT l yJ9_floorMod_7cf53 cJ9_floorMod_7cf53 3 (some .int) qrm0 g z0 w [.int (qI p0), .int (qI p1)] σ (qlift (fJ9_floorMod_7cf53 σ p0 p1) σ) qri := by
  refine qCTp.of [(0, some (.int (qI p0))), (1, some (.int (qI p1)))] (by decide +kernel) (Nat.le_of_ble_eq_true rfl) rfl ?_
  intro p e s m args below meth c cx
  unfold fJ9_floorMod_7cf53
  refine r_iload_n (pc := 0) cx dJ9_floorMod_7cf53_0 rfl ?_
  refine r_iload_n (pc := 1) cx dJ9_floorMod_7cf53_1 rfl ?_
  refine qS.ite (fun _ => qS.fail) (fun hz2 => ?_)
  refine r_irem (pc := 2) cx dJ9_floorMod_7cf53_2 hz2 ?_
  refine r_nmi (fun y1 => ?_)
  refine r_istore_n (pc := 3) cx dJ9_floorMod_7cf53_3 (by decide) rfl ?_
  refine r_iload_n (pc := 4) cx dJ9_floorMod_7cf53_4 rfl ?_
  refine r_iload_n (pc := 5) cx dJ9_floorMod_7cf53_5 rfl ?_
  refine r_ixor (pc := 6) cx dJ9_floorMod_7cf53_6 ?_
  refine r_if_ge (tgt := 18) cx dJ9_floorMod_7cf53_7 (by decide) ?_ ?_
  · refine r_iload_n (pc := 18) cx dJ9_floorMod_7cf53_18 rfl ?_
    exact r_ireturn (w0 := w) (fun _ _ h => h) (Nat.zero_le _) (Nat.zero_le _) cx dJ9_floorMod_7cf53_19 rfl
  · refine r_iload_n (pc := 10) cx dJ9_floorMod_7cf53_10 rfl ?_
    refine r_if_eq (tgt := 18) cx dJ9_floorMod_7cf53_11 (by decide) ?_ ?_
    · refine r_iload_n (pc := 18) cx dJ9_floorMod_7cf53_18 rfl ?_
      exact r_ireturn (w0 := w) (fun _ _ h => h) (Nat.zero_le _) (Nat.zero_le _) cx dJ9_floorMod_7cf53_19 rfl
    · refine r_iload_n (pc := 14) cx dJ9_floorMod_7cf53_14 rfl ?_
      refine r_iload_n (pc := 15) cx dJ9_floorMod_7cf53_15 rfl ?_
      refine r_iadd (pc := 16) cx dJ9_floorMod_7cf53_16 ?_
      exact r_ireturn (w0 := w) (fun _ _ h => h) (Nat.zero_le _) (Nat.zero_le _) cx dJ9_floorMod_7cf53_17 rfl
def fJ9_min_7cf53 (σ : qSt) (p0 : Int) (p1 : Int) : Option Int :=
  (if qI p1 < qI p0 then (some p1) else (some p0))
set_option maxRecDepth 100000 in
set_option maxHeartbeats 4000000 in
theorem tJ9_min_7cf53 {l : Launch} {z0 : Nat} {g : qG} {w : qWd} (p0 : Int) (p1 : Int) (σ : qSt) : qCT l yJ9_min_7cf53 cJ9_min_7cf53 2 (some .int) qrm0 g z0 w [.int (qI p0), .int (qI p1)] σ (qlift (fJ9_min_7cf53 σ p0 p1) σ) qri := by
  refine qCTp.of [(0, some (.int (qI p0))), (1, some (.int (qI p1)))] (by decide +kernel) (Nat.le_of_ble_eq_true rfl) rfl ?_
  intro p e s m args below meth c cx
  unfold fJ9_min_7cf53
  refine r_iload_n (pc := 0) cx dJ9_min_7cf53_0 rfl ?_
  refine r_iload_n (pc := 1) cx dJ9_min_7cf53_1 rfl ?_
  refine r_icmp_gt (tgt := 9) cx dJ9_min_7cf53_2 (by decide) ?_ ?_
  · refine r_iload_n (pc := 9) cx dJ9_min_7cf53_9 rfl ?_
    exact r_ireturn (w0 := w) (fun _ _ h => h) (Nat.zero_le _) (Nat.zero_le _) cx dJ9_min_7cf53_10 rfl
  · refine r_iload_n (pc := 5) cx dJ9_min_7cf53_5 rfl ?_
    refine r_goto (pc := 6) (tgt := 10) cx dJ9_min_7cf53_6 (by decide) ?_
    exact r_ireturn (w0 := w) (fun _ _ h => h) (Nat.zero_le _) (Nat.zero_le _) cx dJ9_min_7cf53_10 rfl
def fJ9_abs_067f4 (σ : qSt) (p0 : Int) : Option Int :=
  (if 0 ≤ qI (qlcmp p0 0) then (some p0) else (some (-p0)))
set_option maxRecDepth 100000 in
set_option maxHeartbeats 4000000 in
theorem tJ9_abs_067f4 {l : Launch} {z0 : Nat} {g : qG} {w : qWd} (p0 : Int) (σ : qSt) : qCT l yJ9_abs_067f4 cJ9_abs_067f4 2 (some .long) qrm0 g z0 w [.long (qJ p0)] σ (qlift (fJ9_abs_067f4 σ p0) σ) qrj := by
  refine qCTp.of [(0, some (.long (qJ p0)))] (by decide +kernel) (Nat.le_of_ble_eq_true rfl) rfl ?_
  intro p e s m args below meth c cx
  unfold fJ9_abs_067f4
  refine r_lload_n (pc := 0) cx dJ9_abs_067f4_0 rfl ?_
  refine r_lconst (pc := 1) (z := 0) cx dJ9_abs_067f4_1 (by decide +kernel) ?_
  refine r_lcmp (pc := 2) cx dJ9_abs_067f4_2 ?_
  refine r_if_ge (tgt := 11) cx dJ9_abs_067f4_3 (by decide) ?_ ?_
  · refine r_lload_n (pc := 11) cx dJ9_abs_067f4_11 rfl ?_
    exact r_lreturn (w0 := w) (fun _ _ h => h) (Nat.zero_le _) (Nat.zero_le _) cx dJ9_abs_067f4_12 rfl
  · refine r_lload_n (pc := 6) cx dJ9_abs_067f4_6 rfl ?_
    refine r_lneg (pc := 7) cx dJ9_abs_067f4_7 ?_
    refine r_goto (pc := 8) (tgt := 12) cx dJ9_abs_067f4_8 (by decide) ?_
    exact r_lreturn (w0 := w) (fun _ _ h => h) (Nat.zero_le _) (Nat.zero_le _) cx dJ9_abs_067f4_12 rfl
def fJ9_floorDiv_f86c9 (σ : qSt) (p0 : Int) (p1 : Int) : Option Int :=
  (if qJ p1 = 0 then none else (qb (qldiv p0 p1) fun (y1 : Int) => (if 0 ≤ qI (qlcmp (qlxor p0 p1) 0) then (some y1) else (if qI (qlcmp (y1 * p1) p0) = 0 then (some y1) else (some (y1 - 1))))))
set_option maxRecDepth 100000 in
set_option maxHeartbeats 4000000 in
theorem tJ9_floorDiv_f86c9 {l : Launch} {z0 : Nat} {g : qG} {w : qWd} (p0 : Int) (p1 : Int) (σ : qSt) : qCT l yJ9_floorDiv_f86c9 cJ9_floorDiv_f86c9 6 (some .long) qrm0 g z0 w [.long (qJ p0), .long (qJ p1)] σ (qlift (fJ9_floorDiv_f86c9 σ p0 p1) σ) qrj := by
  refine qCTp.of [(0, some (.long (qJ p0))), (2, some (.long (qJ p1)))] (by decide +kernel) (Nat.le_of_ble_eq_true rfl) rfl ?_
  intro p e s m args below meth c cx
  unfold fJ9_floorDiv_f86c9
  refine r_lload_n (pc := 0) cx dJ9_floorDiv_f86c9_0 rfl ?_
  refine r_lload_n (pc := 1) cx dJ9_floorDiv_f86c9_1 rfl ?_
  refine qS.ite (fun _ => qS.fail) (fun hz2 => ?_)
  refine r_ldiv (pc := 2) cx dJ9_floorDiv_f86c9_2 hz2 ?_
  refine r_nml (fun y1 => ?_)
  refine r_lstore (pc := 3) cx dJ9_floorDiv_f86c9_3 (by decide) rfl ?_
  refine r_lload_n (pc := 5) cx dJ9_floorDiv_f86c9_5 rfl ?_
  refine r_lload_n (pc := 6) cx dJ9_floorDiv_f86c9_6 rfl ?_
  refine r_lxor (pc := 7) cx dJ9_floorDiv_f86c9_7 ?_
  refine r_lconst (pc := 8) (z := 0) cx dJ9_floorDiv_f86c9_8 (by decide +kernel) ?_
  refine r_lcmp (pc := 9) cx dJ9_floorDiv_f86c9_9 ?_
  refine r_if_ge (tgt := 27) cx dJ9_floorDiv_f86c9_10 (by decide) ?_ ?_
  · refine r_lload (pc := 27) cx dJ9_floorDiv_f86c9_27 rfl ?_
    exact r_lreturn (w0 := w) (fun _ _ h => h) (Nat.zero_le _) (Nat.zero_le _) cx dJ9_floorDiv_f86c9_29 rfl
  · refine r_lload (pc := 13) cx dJ9_floorDiv_f86c9_13 rfl ?_
    refine r_lload_n (pc := 15) cx dJ9_floorDiv_f86c9_15 rfl ?_
    refine r_lmul (pc := 16) cx dJ9_floorDiv_f86c9_16 ?_
    refine r_lload_n (pc := 17) cx dJ9_floorDiv_f86c9_17 rfl ?_
    refine r_lcmp (pc := 18) cx dJ9_floorDiv_f86c9_18 ?_
    refine r_if_eq (tgt := 27) cx dJ9_floorDiv_f86c9_19 (by decide) ?_ ?_
    · refine r_lload (pc := 27) cx dJ9_floorDiv_f86c9_27 rfl ?_
      exact r_lreturn (w0 := w) (fun _ _ h => h) (Nat.zero_le _) (Nat.zero_le _) cx dJ9_floorDiv_f86c9_29 rfl
    · refine r_lload (pc := 22) cx dJ9_floorDiv_f86c9_22 rfl ?_
      refine r_lconst (pc := 24) (z := 1) cx dJ9_floorDiv_f86c9_24 (by decide +kernel) ?_
      refine r_lsub (pc := 25) cx dJ9_floorDiv_f86c9_25 ?_
      exact r_lreturn (w0 := w) (fun _ _ h => h) (Nat.zero_le _) (Nat.zero_le _) cx dJ9_floorDiv_f86c9_26 rfl
def fJ7_fill_53178_c5 (p0 : Nat) : Nat → Int → Int → Int → qSt → Option (Int × qSt)
  | 0, _, _, _, _ => none
  | f + 1, x1, x2, x3, σ => (if qI x3 ≤ qI x2 then (some (0, σ)) else (if 0 ≤ x2 ∧ x2 < 96 then (qb (qset σ p0 x2 x1) fun (σ1 : qSt) => (fJ7_fill_53178_c5 p0 f x1 (x2 + 1) x3 σ1)) else none))
set_option maxRecDepth 100000 in
set_option maxHeartbeats 4000000 in
theorem tJ7_fill_53178_c5 {p : Program} {l : Launch} {e : Env} {s : State} {m : MethodId} {args : Array Value} {below : List Frame} {meth : Method} {c : Code} {z0 : Nat} {g : qG} {w : qWd} {p0 ap0 : Nat} (cx : qCx p s m meth c cJ7_fill_53178 4 RJ7 none g z0) (hp0 : w p0 = some (ap0, qAI (g.2 0) 96)) : ∀ (f : Nat) (x1 : Int) (x2 : Int) (x3 : Int) (σ : qSt), qS p l e qrm0 s m args below meth c 4 g z0 w 0 0 (qQ below g z0 w qrv args s 0 0) (fJ7_fill_53178_c5 p0 f x1 x2 x3 σ) σ 5 [(0, some (.ref ap0)), (1, some (.int (qI x1))), (2, some (.int (qI x2))), (3, some (.int (qI x3)))] [] := by
  intro f
  induction f with
  | zero => exact fun _ _ _ _ => qS.fail
  | succ f ih =>
    intro x1 x2 x3 σ
    unfold fJ7_fill_53178_c5
    refine r_iload_n (pc := 5) cx dJ7_fill_53178_5 rfl ?_
    refine r_iload_n (pc := 6) cx dJ7_fill_53178_6 rfl ?_
    refine r_icmp_ge (tgt := 20) cx dJ7_fill_53178_7 (by decide) ?_ ?_
    · exact r_return (w0 := w) (fun _ _ h => h) (Nat.zero_le _) (Nat.zero_le _) cx dJ7_fill_53178_20 rfl
    · refine r_aload_n (pc := 10) cx dJ7_fill_53178_10 rfl ?_
      refine r_iload_n (pc := 11) cx dJ7_fill_53178_11 rfl ?_
      refine r_iload_n (pc := 12) cx dJ7_fill_53178_12 rfl ?_
      refine r_iastore (pc := 13) cx hp0 rfl (by decide) dJ7_fill_53178_13 (fun σ1 => ?_)
      refine r_iinc (pc := 14) cx dJ7_fill_53178_14 rfl (by decide) rfl ?_
      refine r_goto (pc := 17) (tgt := 5) cx dJ7_fill_53178_17 (by decide) ?_
      exact qS.sub (qsub_cons rfl (qsub_cons rfl (qsub_cons rfl (qsub_cons rfl (qsub_nil _))))) (ih _ _ _ _)
def fJ7_fill_53178 (p0 : Nat) (p1 : Int) (σ : qSt) : Option (Int × qSt) :=
  (fJ7_fill_53178_c5 p0 qFU p1 0 96 σ)
set_option maxRecDepth 100000 in
set_option maxHeartbeats 4000000 in
theorem tJ7_fill_53178 {l : Launch} {z0 : Nat} {g : qG} {w : qWd} {p0 ap0 : Nat} (hp0 : w p0 = some (ap0, qAI (g.2 0) 96)) (p1 : Int) (σ : qSt) : qCT l yJ7_fill_53178 cJ7_fill_53178 4 none qrm0 g z0 w [.ref ap0, .int (qI p1)] σ (fJ7_fill_53178 p0 p1 σ) qrv := by
  refine qCT.of [(0, some (.ref ap0)), (1, some (.int (qI p1)))] (by decide +kernel) (Nat.le_of_ble_eq_true rfl) rfl ?_
  intro p e s m args below meth c cx
  unfold fJ7_fill_53178
  refine r_iconst (pc := 0) cx dJ7_fill_53178_0 ?_
  refine r_istore_n (pc := 1) cx dJ7_fill_53178_1 (by decide) rfl ?_
  refine r_aload_n (pc := 2) cx dJ7_fill_53178_2 rfl ?_
  refine r_alen_qAI (pc := 3) cx (t0 := 0) (ty := .int) rfl hp0 (M := 96) rfl dJ7_fill_53178_3 ?_
  refine r_istore_n (pc := 4) cx dJ7_fill_53178_4 (by decide) rfl ?_
  exact qS.sub (qsub_cons rfl (qsub_cons rfl (qsub_cons rfl (qsub_cons rfl (qsub_nil _))))) (tJ7_fill_53178_c5 cx hp0 _ _ _ _ _)
