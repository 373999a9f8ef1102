abbrev qrx24 : Room := { frames := 31, cells := 1, slots := 6, locals := 1080 }
abbrev qrx25 : Room := { frames := 32, cells := 1, slots := 6, locals := 1120 }
abbrev qrx26 : Room := { frames := 33, cells := 1, slots := 6, locals := 1160 }
abbrev qrx27 : Room := { frames := 34, cells := 1, slots := 6, locals := 1200 }
abbrev qrx28 : Room := { frames := 35, cells := 1, slots := 6, locals := 1240 }
abbrev qrx29 : Room := { frames := 36, cells := 1, slots := 6, locals := 1280 }
abbrev qrx30 : Room := { frames := 37, cells := 1, slots := 6, locals := 1320 }
abbrev qrx31 : Room := { frames := 38, cells := 1, slots := 6, locals := 1360 }
abbrev qrx32 : Room := { frames := 39, cells := 1, slots := 6, locals := 1400 }
abbrev qrx33 : Room := { frames := 40, cells := 1, slots := 6, locals := 1440 }
abbrev qrx34 : Room := { frames := 41, cells := 1, slots := 6, locals := 1480 }
abbrev qrx35 : Room := { frames := 42, cells := 1, slots := 6, locals := 1520 }
abbrev qrx36 : Room := { frames := 43, cells := 1, slots := 6, locals := 1560 }
abbrev qrx37 : Room := { frames := 44, cells := 1, slots := 6, locals := 1600 }
abbrev qrx38 : Room := { frames := 45, cells := 1, slots := 6, locals := 1640 }
abbrev qrx39 : Room := { frames := 46, cells := 1, slots := 6, locals := 1680 }
abbrev qrx40 : Room := { frames := 47, cells := 1, slots := 6, locals := 1720 }
abbrev qrx41 : Room := { frames := 48, cells := 1, slots := 6, locals := 1760 }
abbrev qrx42 : Room := { frames := 49, cells := 1, slots := 6, locals := 1800 }
abbrev qrx43 : Room := { frames := 50, cells := 1, slots := 6, locals := 1840 }
abbrev qrm24 : Room := { frames := 31, cells := 0, slots := 0, locals := 1080 }
abbrev qrm25 : Room := { frames := 32, cells := 0, slots := 0, locals := 1120 }
abbrev qrm26 : Room := { frames := 33, cells := 0, slots := 0, locals := 1160 }
abbrev qrm27 : Room := { frames := 34, cells := 0, slots := 0, locals := 1200 }
abbrev qrm28 : Room := { frames := 35, cells := 0, slots := 0, locals := 1240 }
abbrev qrm29 : Room := { frames := 36, cells := 0, slots := 0, locals := 1280 }
abbrev qrm30 : Room := { frames := 37, cells := 0, slots := 0, locals := 1320 }
abbrev qrm31 : Room := { frames := 38, cells := 0, slots := 0, locals := 1360 }
abbrev qrm32 : Room := { frames := 39, cells := 0, slots := 0, locals := 1400 }
abbrev qrm33 : Room := { frames := 40, cells := 0, slots := 0, locals := 1440 }
abbrev qrm34 : Room := { frames := 41, cells := 0, slots := 0, locals := 1480 }
abbrev qrm35 : Room := { frames := 42, cells := 0, slots := 0, locals := 1520 }
abbrev qrm36 : Room := { frames := 43, cells := 0, slots := 0, locals := 1560 }
abbrev qrm37 : Room := { frames := 44, cells := 0, slots := 0, locals := 1600 }
abbrev qrm38 : Room := { frames := 45, cells := 0, slots := 0, locals := 1640 }
abbrev qrm39 : Room := { frames := 46, cells := 0, slots := 0, locals := 1680 }
abbrev qrm40 : Room := { frames := 47, cells := 0, slots := 0, locals := 1720 }
abbrev qrm41 : Room := { frames := 48, cells := 0, slots := 0, locals := 1760 }
abbrev qrm42 : Room := { frames := 49, cells := 0, slots := 0, locals := 1800 }
abbrev qrm43 : Room := { frames := 50, cells := 0, slots := 0, locals := 1840 }
def qrr (n : Nat) : Room := { frames := 20 + 2 * n, cells := 0, slots := 0, locals := 400 + 60 * n }
def fX5_arrived_c153 (σ : qSt) (rec : Int → Int → Option Int) (k57 : Int → Int → Int → Int → Option Int) (x1 : Int) (x2 : Int) (x3 : Int) (x4 : Int) : Option Int :=
  (k57 x1 x2 x3 (x4 + 1))
set_option maxRecDepth 100000 in
set_option maxHeartbeats 4000000 in
theorem tX5_arrived_c153 {p : Program} {l : Launch} {e : Env} {s : State} {m : MethodId} {args : Array Value} {below : List Frame} {meth : Method} {c : Code} {z0 : Nat} {g : qG} {w : qWd} {ad : Nat → Nat} {σ : qSt} {rec : Int → Int → Option Int} {n : Nat} (cx : qCx p s m meth c cX5_arrived 9 RX5 (some .int) g z0) (hB : qBC g ad w) (hrec : ∀ x y, qCT l yX5_arrived cX5_arrived 9 (some .int) (qrr n) g z0 w [.ref (ad 1), .int (qI x), .int (qI y)] σ (qlift (rec x y) σ) qri) {k57 : Int → Int → Int → Int → Option Int} (hk57 : ∀ (x1 : Int) (x2 : Int) (x3 : Int) (x4 : Int), qS p l e (qrr (n + 1)) s m args below meth c 9 g z0 w 0 0 (fun r => qQ below g z0 w qri args s 0 0 (r, σ)) (k57 x1 x2 x3 x4) σ 57 [(0, some (.ref (ad 1))), (1, some (.int (qI x1))), (2, some (.int (qI x2))), (3, some (.int (qI x3))), (4, some (.int (qI x4)))] []) (x1 : Int) (x2 : Int) (x3 : Int) (x4 : Int) : qS p l e (qrr (n + 1)) s m args below meth c 9 g z0 w 0 0 (fun r => qQ below g z0 w qri args s 0 0 (r, σ)) (fX5_arrived_c153 σ rec k57 x1 x2 x3 x4) σ 153 [(0, some (.ref (ad 1))), (1, some (.int (qI x1))), (2, some (.int (qI x2))), (3, some (.int (qI x3))), (4, some (.int (qI x4)))] [] := by
  unfold fX5_arrived_c153
  refine r_iinc (pc := 153) cx dX5_arrived_153 rfl (by decide) rfl ?_
  refine r_goto (pc := 156) (tgt := 57) cx dX5_arrived_156 (by decide) ?_
  exact qS.sub (qsub_cons rfl (qsub_cons rfl (qsub_cons rfl (qsub_cons rfl (qsub_cons rfl (qsub_nil _)))))) (hk57 _ _ _ _)
def fX5_arrived_c140 (σ : qSt) (rec : Int → Int → Option Int) (k57 : Int → Int → Int → Int → Option Int) (x1 : Int) (x2 : Int) (x3 : Int) (x4 : Int) (s0 : Int) (s1 : Int) : Option Int :=
  ((fX5_has σ s1 s0).bind fun (r140 : Int) => (if qI r140 = 0 then (fX5_arrived_c153 σ rec k57 x1 x2 x3 x4) else (qb (qor x3 (qshl 1 x4)) fun (y1 : Int) => (fX5_arrived_c153 σ rec k57 x1 x2 y1 x4))))
set_option maxRecDepth 100000 in
set_option maxHeartbeats 4000000 in
theorem tX5_arrived_c140 {p : Program} {l : Launch} {e : Env} {s : State} {m : MethodId} {args : Array Value} {below : List Frame} {meth : Method} {c : Code} {z0 : Nat} {g : qG} {w : qWd} {ad : Nat → Nat} {σ : qSt} {rec : Int → Int → Option Int} {n : Nat} (cx : qCx p s m meth c cX5_arrived 9 RX5 (some .int) g z0) (hB : qBC g ad w) (hrec : ∀ x y, qCT l yX5_arrived cX5_arrived 9 (some .int) (qrr n) g z0 w [.ref (ad 1), .int (qI x), .int (qI y)] σ (qlift (rec x y) σ) qri) {k57 : Int → Int → Int → Int → Option Int} (hk57 : ∀ (x1 : Int) (x2 : Int) (x3 : Int) (x4 : Int), qS p l e (qrr (n + 1)) s m args below meth c 9 g z0 w 0 0 (fun r => qQ below g z0 w qri args s 0 0 (r, σ)) (k57 x1 x2 x3 x4) σ 57 [(0, some (.ref (ad 1))), (1, some (.int (qI x1))), (2, some (.int (qI x2))), (3, some (.int (qI x3))), (4, some (.int (qI x4)))] []) (x1 : Int) (x2 : Int) (x3 : Int) (x4 : Int) (s0 : Int) (s1 : Int) : qS p l e (qrr (n + 1)) s m args below meth c 9 g z0 w 0 0 (fun r => qQ below g z0 w qri args s 0 0 (r, σ)) (fX5_arrived_c140 σ rec k57 x1 x2 x3 x4 s0 s1) σ 140 [(0, some (.ref (ad 1))), (1, some (.int (qI x1))), (2, some (.int (qI x2))), (3, some (.int (qI x3))), (4, some (.int (qI x4)))] [.int (qI s0), .int (qI s1)] := by
  unfold fX5_arrived_c140
  refine r_pSi (pc := 140) cx (tX5_has  s1 s0 σ) qm_X5_has qs_X5_has wm_X5_81 dX5_arrived_140 rfl rfl (Nat.le_of_ble_eq_true rfl) (by constructor <;> simp only [qrr] <;> omega) ⟨rfl, rfl⟩ ⟨Nat.zero_le _, Nat.zero_le _⟩ (fun r140 => ?_)
  refine r_if_eq (tgt := 153) cx dX5_arrived_143 (by decide) ?_ ?_
  · exact qS.sub (qsub_cons rfl (qsub_cons rfl (qsub_cons rfl (qsub_cons rfl (qsub_cons rfl (qsub_nil _)))))) (tX5_arrived_c153 cx hB hrec hk57 _ _ _ _)
  · refine r_iload_n (pc := 146) cx dX5_arrived_146 rfl ?_
    refine r_iconst (pc := 147) cx dX5_arrived_147 ?_
    refine r_iload (pc := 148) cx dX5_arrived_148 rfl ?_
    refine r_ishl (pc := 150) cx dX5_arrived_150 ?_
    refine r_ior (pc := 151) cx dX5_arrived_151 ?_
    refine r_nmi (fun y1 => ?_)
    refine r_istore_n (pc := 152) cx dX5_arrived_152 (by decide) rfl ?_
    exact qS.sub (qsub_cons rfl (qsub_cons rfl (qsub_cons rfl (qsub_cons rfl (qsub_cons rfl (qsub_nil _)))))) (tX5_arrived_c153 cx hB hrec hk57 _ _ _ _)
def fX5_arrived_c121 (σ : qSt) (rec : Int → Int → Option Int) (k57 : Int → Int → Int → Int → Option Int) (x1 : Int) (x2 : Int) (x3 : Int) (x4 : Int) (x6 : Int) (s0 : Int) : Option Int :=
  (if qI x6 = 0 then (fX5_arrived_c140 σ rec k57 x1 x2 x3 x4 x4 s0) else ((fX5_opposite σ x4).bind fun (r132 : Int) => (fX5_arrived_c140 σ rec k57 x1 x2 x3 x4 r132 s0)))
set_option maxRecDepth 100000 in
set_option maxHeartbeats 4000000 in
theorem tX5_arrived_c121 {p : Program} {l : Launch} {e : Env} {s : State} {m : MethodId} {args : Array Value} {below : List Frame} {meth : Method} {c : Code} {z0 : Nat} {g : qG} {w : qWd} {ad : Nat → Nat} {σ : qSt} {rec : Int → Int → Option Int} {n : Nat} (cx : qCx p s m meth c cX5_arrived 9 RX5 (some .int) g z0) (hB : qBC g ad w) (hrec : ∀ x y, qCT l yX5_arrived cX5_arrived 9 (some .int) (qrr n) g z0 w [.ref (ad 1), .int (qI x), .int (qI y)] σ (qlift (rec x y) σ) qri) {k57 : Int → Int → Int → Int → Option Int} (hk57 : ∀ (x1 : Int) (x2 : Int) (x3 : Int) (x4 : Int), qS p l e (qrr (n + 1)) s m args below meth c 9 g z0 w 0 0 (fun r => qQ below g z0 w qri args s 0 0 (r, σ)) (k57 x1 x2 x3 x4) σ 57 [(0, some (.ref (ad 1))), (1, some (.int (qI x1))), (2, some (.int (qI x2))), (3, some (.int (qI x3))), (4, some (.int (qI x4)))] []) (x1 : Int) (x2 : Int) (x3 : Int) (x4 : Int) (x6 : Int) (s0 : Int) : qS p l e (qrr (n + 1)) s m args below meth c 9 g z0 w 0 0 (fun r => qQ below g z0 w qri args s 0 0 (r, σ)) (fX5_arrived_c121 σ rec k57 x1 x2 x3 x4 x6 s0) σ 121 [(0, some (.ref (ad 1))), (1, some (.int (qI x1))), (2, some (.int (qI x2))), (3, some (.int (qI x3))), (4, some (.int (qI x4))), (6, some (.int (qI x6)))] [.int (qI s0)] := by
  unfold fX5_arrived_c121
  refine r_istore (pc := 121) cx dX5_arrived_121 (by decide) rfl ?_
  refine r_iload (pc := 123) cx dX5_arrived_123 rfl ?_
  refine r_iload (pc := 125) cx dX5_arrived_125 rfl ?_
  refine r_if_eq (tgt := 138) cx dX5_arrived_127 (by decide) ?_ ?_
  · refine r_iload (pc := 138) cx dX5_arrived_138 rfl ?_
    exact qS.sub (qsub_cons rfl (qsub_cons rfl (qsub_cons rfl (qsub_cons rfl (qsub_cons rfl (qsub_nil _)))))) (tX5_arrived_c140 cx hB hrec hk57 _ _ _ _ _ _)
  · refine r_iload (pc := 130) cx dX5_arrived_130 rfl ?_
    refine r_pSi (pc := 132) cx (tX5_opposite  x4 σ) qm_X5_opposite qs_X5_opposite wm_X5_158 dX5_arrived_132 rfl rfl (Nat.le_of_ble_eq_true rfl) (by constructor <;> simp only [qrr] <;> omega) ⟨rfl, rfl⟩ ⟨Nat.zero_le _, Nat.zero_le _⟩ (fun r132 => ?_)
    refine r_goto (pc := 135) (tgt := 140) cx dX5_arrived_135 (by decide) ?_
    exact qS.sub (qsub_cons rfl (qsub_cons rfl (qsub_cons rfl (qsub_cons rfl (qsub_cons rfl (qsub_nil _)))))) (tX5_arrived_c140 cx hB hrec hk57 _ _ _ _ _ _)
def fX5_arrived_c94 (σ : qSt) (rec : Int → Int → Option Int) (k57 : Int → Int → Int → Int → Option Int) (x1 : Int) (x2 : Int) (x3 : Int) (x4 : Int) (x6 : Int) (s0 : Int) : Option Int :=
  ((rec s0 (x2 - 1)).bind fun (r97 : Int) => ((fX5_isMeeting σ r97).bind fun (r104 : Int) => (if qI r104 = 0 then (fX5_arrived_c121 σ rec k57 x1 x2 x3 x4 x6 r97) else ((fX5_turned σ r97 1).bind fun (r113 : Int) => (fX5_arrived_c121 σ rec k57 x1 x2 x3 x4 x6 r113)))))
set_option maxRecDepth 100000 in
set_option maxHeartbeats 4000000 in
theorem tX5_arrived_c94 {p : Program} {l : Launch} {e : Env} {s : State} {m : MethodId} {args : Array Value} {below : List Frame} {meth : Method} {c : Code} {z0 : Nat} {g : qG} {w : qWd} {ad : Nat → Nat} {σ : qSt} {rec : Int → Int → Option Int} {n : Nat} (cx : qCx p s m meth c cX5_arrived 9 RX5 (some .int) g z0) (hB : qBC g ad w) (hrec : ∀ x y, qCT l yX5_arrived cX5_arrived 9 (some .int) (qrr n) g z0 w [.ref (ad 1), .int (qI x), .int (qI y)] σ (qlift (rec x y) σ) qri) {k57 : Int → Int → Int → Int → Option Int} (hk57 : ∀ (x1 : Int) (x2 : Int) (x3 : Int) (x4 : Int), qS p l e (qrr (n + 1)) s m args below meth c 9 g z0 w 0 0 (fun r => qQ below g z0 w qri args s 0 0 (r, σ)) (k57 x1 x2 x3 x4) σ 57 [(0, some (.ref (ad 1))), (1, some (.int (qI x1))), (2, some (.int (qI x2))), (3, some (.int (qI x3))), (4, some (.int (qI x4)))] []) (x1 : Int) (x2 : Int) (x3 : Int) (x4 : Int) (x6 : Int) (s0 : Int) : qS p l e (qrr (n + 1)) s m args below meth c 9 g z0 w 0 0 (fun r => qQ below g z0 w qri args s 0 0 (r, σ)) (fX5_arrived_c94 σ rec k57 x1 x2 x3 x4 x6 s0) σ 94 [(0, some (.ref (ad 1))), (1, some (.int (qI x1))), (2, some (.int (qI x2))), (3, some (.int (qI x3))), (4, some (.int (qI x4))), (6, some (.int (qI x6)))] [.int (qI s0), .ref (ad 1)] := by
  unfold fX5_arrived_c94
  refine r_iload_n (pc := 94) cx dX5_arrived_94 rfl ?_
  refine r_iconst (pc := 95) cx dX5_arrived_95 ?_
  refine r_isub (pc := 96) cx dX5_arrived_96 ?_
  refine r_pSi (pc := 97) cx (hrec s0 (x2 - 1)) qm_X5_arrived qs_X5_arrived wm_X5_207 dX5_arrived_97 rfl rfl (Nat.le_of_ble_eq_true rfl) (by constructor <;> simp only [qrr] <;> omega) ⟨rfl, rfl⟩ ⟨Nat.zero_le _, Nat.zero_le _⟩ (fun r97 => ?_)
  refine r_istore (pc := 100) cx dX5_arrived_100 (by decide) rfl ?_
  refine r_iload (pc := 102) cx dX5_arrived_102 rfl ?_
  refine r_pSi (pc := 104) cx (tX5_isMeeting  r97 σ) qm_X5_isMeeting qs_X5_isMeeting wm_X5_255 dX5_arrived_104 rfl rfl (Nat.le_of_ble_eq_true rfl) (by constructor <;> simp only [qrr] <;> omega) ⟨rfl, rfl⟩ ⟨Nat.zero_le _, Nat.zero_le _⟩ (fun r104 => ?_)
  refine r_if_eq (tgt := 119) cx dX5_arrived_107 (by decide) ?_ ?_
  · refine r_iload (pc := 119) cx dX5_arrived_119 rfl ?_
    exact qS.sub (qsub_cons rfl (qsub_cons rfl (qsub_cons rfl (qsub_cons rfl (qsub_cons rfl (qsub_cons rfl (qsub_nil _))))))) (tX5_arrived_c121 cx hB hrec hk57 _ _ _ _ _ _)
  · refine r_iload (pc := 110) cx dX5_arrived_110 rfl ?_
    refine r_iconst (pc := 112) cx dX5_arrived_112 ?_
    refine r_pSi (pc := 113) cx (tX5_turned  r97 1 σ) qm_X5_turned qs_X5_turned wm_X5_258 dX5_arrived_113 rfl rfl (Nat.le_of_ble_eq_true rfl) (by constructor <;> simp only [qrr] <;> omega) ⟨rfl, rfl⟩ ⟨Nat.zero_le _, Nat.zero_le _⟩ (fun r113 => ?_)
    refine r_goto (pc := 116) (tgt := 121) cx dX5_arrived_116 (by decide) ?_
    exact qS.sub (qsub_cons rfl (qsub_cons rfl (qsub_cons rfl (qsub_cons rfl (qsub_cons rfl (qsub_cons rfl (qsub_nil _))))))) (tX5_arrived_c121 cx hB hrec hk57 _ _ _ _ _ _)
def fX5_arrived_c57 (σ : qSt) (rec : Int → Int → Option Int) : Nat → Int → Int → Int → Int → Option Int
  | 0, _, _, _, _ => none
  | f + 1, x1, x2, x3, x4 => (if qI 4 ≤ qI x4 then (some x3) else ((fX5_opposite σ x4).bind fun (r66 : Int) => ((fX5_beside σ x1 r66).bind fun (r69 : Int) => ((fX3_isShut 1 σ r69).bind fun (r77 : Int) => (if qI r77 = 0 then (fX5_arrived_c94 σ rec (fX5_arrived_c57 σ rec f) x1 x2 x3 x4 r77 r69) else (fX5_arrived_c94 σ rec (fX5_arrived_c57 σ rec f) x1 x2 x3 x4 r77 x1))))))
set_option maxRecDepth 100000 in
set_option maxHeartbeats 4000000 in
theorem tX5_arrived_c57 {p : Program} {l : Launch} {e : Env} {s : State} {m : MethodId} {args : Array Value} {below : List Frame} {meth : Method} {c : Code} {z0 : Nat} {g : qG} {w : qWd} {ad : Nat → Nat} {σ : qSt} {rec : Int → Int → Option Int} {n : Nat} (cx : qCx p s m meth c cX5_arrived 9 RX5 (some .int) g z0) (hB : qBC g ad w) (hrec : ∀ x y, qCT l yX5_arrived cX5_arrived 9 (some .int) (qrr n) g z0 w [.ref (ad 1), .int (qI x), .int (qI y)] σ (qlift (rec x y) σ) qri) : ∀ (f : Nat) (x1 : Int) (x2 : Int) (x3 : Int) (x4 : Int), qS p l e (qrr (n + 1)) s m args below meth c 9 g z0 w 0 0 (fun r => qQ below g z0 w qri args s 0 0 (r, σ)) (fX5_arrived_c57 σ rec f x1 x2 x3 x4) σ 57 [(0, some (.ref (ad 1))), (1, some (.int (qI x1))), (2, some (.int (qI x2))), (3, some (.int (qI x3))), (4, some (.int (qI x4)))] [] := by
  intro f
  induction f with
  | zero => exact fun _ _ _ _ => qS.fail
  | succ f ih =>
    intro x1 x2 x3 x4
    unfold fX5_arrived_c57
    refine r_iload (pc := 57) cx dX5_arrived_57 rfl ?_
    refine r_iconst (pc := 59) cx dX5_arrived_59 ?_
    refine r_icmp_ge (tgt := 159) cx dX5_arrived_60 (by decide) ?_ ?_
    · refine r_iload_n (pc := 159) cx dX5_arrived_159 rfl ?_
      exact r_ireturn (w0 := w) (fun _ _ h => h) (Nat.zero_le _) (Nat.zero_le _) cx dX5_arrived_160 rfl
    · refine r_iload_n (pc := 63) cx dX5_arrived_63 rfl ?_
      refine r_iload (pc := 64) cx dX5_arrived_64 rfl ?_
      refine r_pSi (pc := 66) cx (tX5_opposite  x4 σ) qm_X5_opposite qs_X5_opposite wm_X5_158 dX5_arrived_66 rfl rfl (Nat.le_of_ble_eq_true rfl) (by constructor <;> simp only [qrr] <;> omega) ⟨rfl, rfl⟩ ⟨Nat.zero_le _, Nat.zero_le _⟩ (fun r66 => ?_)
      refine r_pSi (pc := 69) cx (tX5_beside  x1 r66 σ) qm_X5_beside qs_X5_beside wm_X5_252 dX5_arrived_69 rfl rfl (Nat.le_of_ble_eq_true rfl) (by constructor <;> simp only [qrr] <;> omega) ⟨rfl, rfl⟩ ⟨Nat.zero_le _, Nat.zero_le _⟩ (fun r69 => ?_)
      refine r_istore (pc := 72) cx dX5_arrived_72 (by decide) rfl ?_
      refine r_aload_n (pc := 74) cx dX5_arrived_74 rfl ?_
      refine r_iload (pc := 75) cx dX5_arrived_75 rfl ?_
      refine r_pVNi (pc := 77) cx (tX3_isShut hB (Or.inl rfl) r69 σ) qm_X3_isShut qv_X3_isShut hcl_X3 (lw1 hB) wn_X5_249 dX5_arrived_77 rfl rfl (Nat.le_of_ble_eq_true rfl) (by constructor <;> simp only [qrr] <;> omega) ⟨rfl, rfl⟩ ⟨Nat.zero_le _, Nat.zero_le _⟩ (fun r77 => ?_)
      refine r_istore (pc := 80) cx dX5_arrived_80 (by decide) rfl ?_
      refine r_aload_n (pc := 82) cx dX5_arrived_82 rfl ?_
      refine r_iload (pc := 83) cx dX5_arrived_83 rfl ?_
      refine r_if_eq (tgt := 92) cx dX5_arrived_85 (by decide) ?_ ?_
      · refine r_iload (pc := 92) cx dX5_arrived_92 rfl ?_
        exact qS.sub (qsub_cons rfl (qsub_cons rfl (qsub_cons rfl (qsub_cons rfl (qsub_cons rfl (qsub_cons rfl (qsub_nil _))))))) (tX5_arrived_c94 cx hB hrec ih _ _ _ _ _ _)
      · refine r_iload_n (pc := 88) cx dX5_arrived_88 rfl ?_
        refine r_goto (pc := 89) (tgt := 94) cx dX5_arrived_89 (by decide) ?_
        exact qS.sub (qsub_cons rfl (qsub_cons rfl (qsub_cons rfl (qsub_cons rfl (qsub_cons rfl (qsub_cons rfl (qsub_nil _))))))) (tX5_arrived_c94 cx hB hrec ih _ _ _ _ _ _)
def fX5_arrived_c53 (σ : qSt) (rec : Int → Int → Option Int) (x1 : Int) (x2 : Int) (s0 : Int) : Option Int :=
  (fX5_arrived_c57 σ rec qFU x1 x2 s0 0)
set_option maxRecDepth 100000 in
set_option maxHeartbeats 4000000 in
theorem tX5_arrived_c53 {p : Program} {l : Launch} {e : Env} {s : State} {m : MethodId} {args : Array Value} {below : List Frame} {meth : Method} {c : Code} {z0 : Nat} {g : qG} {w : qWd} {ad : Nat → Nat} {σ : qSt} {rec : Int → Int → Option Int} {n : Nat} (cx : qCx p s m meth c cX5_arrived 9 RX5 (some .int) g z0) (hB : qBC g ad w) (hrec : ∀ x y, qCT l yX5_arrived cX5_arrived 9 (some .int) (qrr n) g z0 w [.ref (ad 1), .int (qI x), .int (qI y)] σ (qlift (rec x y) σ) qri) (x1 : Int) (x2 : Int) (s0 : Int) : qS p l e (qrr (n + 1)) s m args below meth c 9 g z0 w 0 0 (fun r => qQ below g z0 w qri args s 0 0 (r, σ)) (fX5_arrived_c53 σ rec x1 x2 s0) σ 53 [(0, some (.ref (ad 1))), (1, some (.int (qI x1))), (2, some (.int (qI x2)))] [.int (qI s0)] := by
  unfold fX5_arrived_c53
  refine r_istore_n (pc := 53) cx dX5_arrived_53 (by decide) rfl ?_
  refine r_iconst (pc := 54) cx dX5_arrived_54 ?_
  refine r_istore (pc := 55) cx dX5_arrived_55 (by decide) rfl ?_
  exact qS.sub (qsub_cons rfl (qsub_cons rfl (qsub_cons rfl (qsub_cons rfl (qsub_cons rfl (qsub_nil _)))))) (tX5_arrived_c57 cx hB hrec _ _ _ _ _)
def fX5_arrived_b (σ : qSt) (rec : Int → Int → Option Int) (p1 : Int) (p2 : Int) : Option Int :=
  ((fX3_isShut 1 σ p1).bind fun (r2 : Int) => (if qI r2 = 0 then (if qI p2 ≤ qI 5 then (if 0 < qI p2 then (if 0 ≤ p1 ∧ p1 < 96 then (if qI (σ 2 p1) = qI 3 then (some 0) else (if 0 ≤ p1 ∧ p1 < 96 then (if qI (σ 2 p1) = qI 2 then (fX5_arrived_c53 σ rec p1 p2 1) else (fX5_arrived_c53 σ rec p1 p2 0)) else none)) else none) else (if 0 ≤ p1 ∧ p1 < 96 then (some (σ 4 p1)) else none)) else (some 0)) else (some 0)))
set_option maxRecDepth 100000 in
set_option maxHeartbeats 4000000 in
theorem tX5_arrived_b {l : Launch} {z0 : Nat} {g : qG} {w : qWd} {ad : Nat → Nat} {σ : qSt} {rec : Int → Int → Option Int} {n : Nat} (hB : qBC g ad w) (hrec : ∀ x y, qCT l yX5_arrived cX5_arrived 9 (some .int) (qrr n) g z0 w [.ref (ad 1), .int (qI x), .int (qI y)] σ (qlift (rec x y) σ) qri) (p1 : Int) (p2 : Int) : qCT l yX5_arrived cX5_arrived 9 (some .int) (qrr (n + 1)) g z0 w [.ref (ad 1), .int (qI p1), .int (qI p2)] σ (qlift (fX5_arrived_b σ rec p1 p2) σ) qri := by
  refine qCTp.of [(0, some (.ref (ad 1))), (1, some (.int (qI p1))), (2, some (.int (qI p2)))] (by decide +kernel) (Nat.le_of_ble_eq_true rfl) rfl ?_
  intro p e s m args below meth c cx
  unfold fX5_arrived_b
  refine r_aload_n (pc := 0) cx dX5_arrived_0 rfl ?_
  refine r_iload_n (pc := 1) cx dX5_arrived_1 rfl ?_
  refine r_pVNi (pc := 2) cx (tX3_isShut hB (Or.inl rfl) p1 σ) qm_X3_isShut qv_X3_isShut hcl_X3 (lw1 hB) wn_X5_249 dX5_arrived_2 rfl rfl (Nat.le_of_ble_eq_true rfl) (by constructor <;> simp only [qrr] <;> omega) ⟨rfl, rfl⟩ ⟨Nat.zero_le _, Nat.zero_le _⟩ (fun r2 => ?_)
  refine r_if_ne (tgt := 13) cx dX5_arrived_5 (by decide) ?_ ?_
  · refine r_iconst (pc := 13) cx dX5_arrived_13 ?_
    exact r_ireturn (w0 := w) (fun _ _ h => h) (Nat.zero_le _) (Nat.zero_le _) cx dX5_arrived_14 rfl
  · refine r_iload_n (pc := 8) cx dX5_arrived_8 rfl ?_
    refine r_iconst (pc := 9) cx dX5_arrived_9 ?_
    refine r_icmp_le (tgt := 15) cx dX5_arrived_10 (by decide) ?_ ?_
    · refine r_iload_n (pc := 15) cx dX5_arrived_15 rfl ?_
      refine r_if_gt (tgt := 26) cx dX5_arrived_16 (by decide) ?_ ?_
      · refine r_aload_n (pc := 26) cx dX5_arrived_26 rfl ?_
        refine r_getN (pc := 27) cx hcl_X3 qc_X3 (lw1 hB) (j := 0) (by decide) wg_X5_57 dX5_arrived_27 (x := .ref (ad 2)) rfl ?_
        refine r_iload_n (pc := 30) cx dX5_arrived_30 rfl ?_
        refine r_iaload (pc := 31) cx (lw2 hB) rfl (by decide) dX5_arrived_31 ?_
        refine r_iconst (pc := 32) cx dX5_arrived_32 ?_
        refine r_icmp_ne (tgt := 38) cx dX5_arrived_33 (by decide) ?_ ?_
        · refine r_aload_n (pc := 38) cx dX5_arrived_38 rfl ?_
          refine r_getN (pc := 39) cx hcl_X3 qc_X3 (lw1 hB) (j := 0) (by decide) wg_X5_57 dX5_arrived_39 (x := .ref (ad 2)) rfl ?_
          refine r_iload_n (pc := 42) cx dX5_arrived_42 rfl ?_
          refine r_iaload (pc := 43) cx (lw2 hB) rfl (by decide) dX5_arrived_43 ?_
          refine r_iconst (pc := 44) cx dX5_arrived_44 ?_
          refine r_icmp_ne (tgt := 52) cx dX5_arrived_45 (by decide) ?_ ?_
          · refine r_iconst (pc := 52) cx dX5_arrived_52 ?_
            exact qS.sub (qsub_cons rfl (qsub_cons rfl (qsub_cons rfl (qsub_nil _)))) (tX5_arrived_c53 cx hB hrec _ _ _)
          · refine r_iconst (pc := 48) cx dX5_arrived_48 ?_
            refine r_goto (pc := 49) (tgt := 53) cx dX5_arrived_49 (by decide) ?_
            exact qS.sub (qsub_cons rfl (qsub_cons rfl (qsub_cons rfl (qsub_nil _)))) (tX5_arrived_c53 cx hB hrec _ _ _)
        · refine r_iconst (pc := 36) cx dX5_arrived_36 ?_
          exact r_ireturn (w0 := w) (fun _ _ h => h) (Nat.zero_le _) (Nat.zero_le _) cx dX5_arrived_37 rfl
      · refine r_aload_n (pc := 19) cx dX5_arrived_19 rfl ?_
        refine r_getN (pc := 20) cx hcl_X3 qc_X3 (lw1 hB) (j := 2) (by decide) wg_X5_78 dX5_arrived_20 (x := .ref (ad 4)) rfl ?_
        refine r_iload_n (pc := 23) cx dX5_arrived_23 rfl ?_
        refine r_iaload (pc := 24) cx (lw4 hB) rfl (by decide) dX5_arrived_24 ?_
        exact r_ireturn (w0 := w) (fun _ _ h => h) (Nat.zero_le _) (Nat.zero_le _) cx dX5_arrived_25 rfl
    · refine r_iconst (pc := 13) cx dX5_arrived_13 ?_
      exact r_ireturn (w0 := w) (fun _ _ h => h) (Nat.zero_le _) (Nat.zero_le _) cx dX5_arrived_14 rfl
def fX5_arrivedN : Nat → qSt → Int → Int → Option Int
  | 0, _, _, _ => none
  | n + 1, σ, p1, p2 => fX5_arrived_b σ (fX5_arrivedN n σ) p1 p2
theorem tX5_arrivedN {l : Launch} {z0 : Nat} {g : qG} {w : qWd} {ad : Nat → Nat} (hB : qBC g ad w) (σ : qSt) : ∀ (n : Nat) (p1 p2 : Int), qCT l yX5_arrived cX5_arrived 9 (some .int) (qrr n) g z0 w [.ref (ad 1), .int (qI p1), .int (qI p2)] σ (qlift (fX5_arrivedN n σ p1 p2) σ) qri := by
  intro n
  induction n with
  | zero => exact fun _ _ u hu => by cases hu
  | succ n ih => exact fun p1 p2 => tX5_arrived_b hB ih p1 p2
def fX5_arrived (σ : qSt) (p1 : Int) (p2 : Int) : Option Int := fX5_arrivedN 8 σ p1 p2
theorem tX5_arrived {l : Launch} {z0 : Nat} {g : qG} {w : qWd} {ad : Nat → Nat} (hB : qBC g ad w) (p1 : Int) (p2 : Int) (σ : qSt) : qCT l yX5_arrived cX5_arrived 9 (some .int) (qrr 8) g z0 w [.ref (ad 1), .int (qI p1), .int (qI p2)] σ (qlift (fX5_arrived σ p1 p2) σ) qri := tX5_arrivedN hB σ 8 p1 p2
