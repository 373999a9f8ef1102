def fL_law_c1273 (L : Nat) (xs : Nat → Int32) (k18 : Nat → Int → Int → Int → qSt → Option Unit) (kc : Nat) (x2 : Int) (x3 : Int) (x6 : Int) (σ : qSt) : Option Unit :=
  (qif (kc + 0 ≤ 400000) (k18 kc x2 x3 (x6 + 1) σ))
set_option maxRecDepth 100000 in
set_option maxHeartbeats 4000000 in
theorem tL_law_c1273 {p : Program} {l : Launch} {e : Env} {s : State} {m : MethodId} {below : List Frame} {meth : Method} {c : Code} {g : qG} {w : qWd} {ad : Nat → Nat} {b L : Nat} {xs : Nat → Int32} (cx : qCx p s m meth c cL_law 22 RL (some .boolean) g s.heap.size) (hX : qScr b L xs s.heap.size s) (hB : qBC g ad w) (h66 : w 66 = none) (h67 : w 67 = none) (h68 : w 68 = none) (hl : l.stackTraces = false) {k18 : Nat → Int → Int → Int → qSt → Option Unit} (hk18 : ∀ (kc : Nat) (x2 : Int) (x3 : Int) (x6 : Int) (σ : qSt), qS p l e room_1 s m #[Value.ref b] below meth c 22 g s.heap.size w kc (21800 + 6 * kc) (fun _ => lw_Z below #[Value.ref b] s) (k18 kc x2 x3 x6 σ) σ 18 [(0, some (.ref b)), (1, some (.ref (ad 0))), (2, some (.int (qI x2))), (3, some (.int (qI x3))), (6, some (.int (qI x6)))] []) (kc : Nat) (x2 : Int) (x3 : Int) (x6 : Int) (σ : qSt) : qS p l e room_1 s m #[Value.ref b] below meth c 22 g s.heap.size w kc (21800 + 6 * kc) (fun _ => lw_Z below #[Value.ref b] s) (fL_law_c1273 L xs k18 kc x2 x3 x6 σ) σ 1273 [(0, some (.ref b)), (1, some (.ref (ad 0))), (2, some (.int (qI x2))), (3, some (.int (qI x3))), (6, some (.int (qI x6)))] [] := by
  unfold fL_law_c1273
  refine r_qif (fun hkc => ?_)
  refine r_iinc (pc := 1273) cx dL_law_1273 rfl (by decide) rfl ?_
  refine r_goto (pc := 1276) (tgt := 18) cx dL_law_1276 (by decide) ?_
  exact qS.sub (qsub_cons rfl (qsub_cons rfl (qsub_cons rfl (qsub_cons rfl (qsub_cons rfl (qsub_nil _)))))) (hk18 _ _ _ _ _)
def fL_law_c1272 (L : Nat) (xs : Nat → Int32) (k18 : Nat → Int → Int → Int → qSt → Option Unit) (kc : Nat) (x3 : Int) (x6 : Int) (s0 : Int) (σ : qSt) : Option Unit :=
  (qif (kc + 0 ≤ 400000) (fL_law_c1273 L xs k18 kc s0 x3 x6 σ))
set_option maxRecDepth 100000 in
set_option maxHeartbeats 4000000 in
theorem tL_law_c1272 {p : Program} {l : Launch} {e : Env} {s : State} {m : MethodId} {below : List Frame} {meth : Method} {c : Code} {g : qG} {w : qWd} {ad : Nat → Nat} {b L : Nat} {xs : Nat → Int32} (cx : qCx p s m meth c cL_law 22 RL (some .boolean) g s.heap.size) (hX : qScr b L xs s.heap.size s) (hB : qBC g ad w) (h66 : w 66 = none) (h67 : w 67 = none) (h68 : w 68 = none) (hl : l.stackTraces = false) {k18 : Nat → Int → Int → Int → qSt → Option Unit} (hk18 : ∀ (kc : Nat) (x2 : Int) (x3 : Int) (x6 : Int) (σ : qSt), qS p l e room_1 s m #[Value.ref b] below meth c 22 g s.heap.size w kc (21800 + 6 * kc) (fun _ => lw_Z below #[Value.ref b] s) (k18 kc x2 x3 x6 σ) σ 18 [(0, some (.ref b)), (1, some (.ref (ad 0))), (2, some (.int (qI x2))), (3, some (.int (qI x3))), (6, some (.int (qI x6)))] []) (kc : Nat) (x3 : Int) (x6 : Int) (s0 : Int) (σ : qSt) : qS p l e room_1 s m #[Value.ref b] below meth c 22 g s.heap.size w kc (21800 + 6 * kc) (fun _ => lw_Z below #[Value.ref b] s) (fL_law_c1272 L xs k18 kc x3 x6 s0 σ) σ 1272 [(0, some (.ref b)), (1, some (.ref (ad 0))), (3, some (.int (qI x3))), (6, some (.int (qI x6)))] [.int (qI s0)] := by
  unfold fL_law_c1272
  refine r_qif (fun hkc => ?_)
  refine r_istore_n (pc := 1272) cx dL_law_1272 (by decide) rfl ?_
  exact qS.sub (qsub_cons rfl (qsub_cons rfl (qsub_cons rfl (qsub_cons rfl (qsub_cons rfl (qsub_nil _)))))) (tL_law_c1273 cx hX hB h66 h67 h68 hl hk18 _ _ _ _ _)
def fL_law_c1271 (L : Nat) (xs : Nat → Int32) (k18 : Nat → Int → Int → Int → qSt → Option Unit) (kc : Nat) (x3 : Int) (x6 : Int) (σ : qSt) : Option Unit :=
  (qif (kc + 0 ≤ 400000) (fL_law_c1272 L xs k18 kc x3 x6 0 σ))
set_option maxRecDepth 100000 in
set_option maxHeartbeats 4000000 in
theorem tL_law_c1271 {p : Program} {l : Launch} {e : Env} {s : State} {m : MethodId} {below : List Frame} {meth : Method} {c : Code} {g : qG} {w : qWd} {ad : Nat → Nat} {b L : Nat} {xs : Nat → Int32} (cx : qCx p s m meth c cL_law 22 RL (some .boolean) g s.heap.size) (hX : qScr b L xs s.heap.size s) (hB : qBC g ad w) (h66 : w 66 = none) (h67 : w 67 = none) (h68 : w 68 = none) (hl : l.stackTraces = false) {k18 : Nat → Int → Int → Int → qSt → Option Unit} (hk18 : ∀ (kc : Nat) (x2 : Int) (x3 : Int) (x6 : Int) (σ : qSt), qS p l e room_1 s m #[Value.ref b] below meth c 22 g s.heap.size w kc (21800 + 6 * kc) (fun _ => lw_Z below #[Value.ref b] s) (k18 kc x2 x3 x6 σ) σ 18 [(0, some (.ref b)), (1, some (.ref (ad 0))), (2, some (.int (qI x2))), (3, some (.int (qI x3))), (6, some (.int (qI x6)))] []) (kc : Nat) (x3 : Int) (x6 : Int) (σ : qSt) : qS p l e room_1 s m #[Value.ref b] below meth c 22 g s.heap.size w kc (21800 + 6 * kc) (fun _ => lw_Z below #[Value.ref b] s) (fL_law_c1271 L xs k18 kc x3 x6 σ) σ 1271 [(0, some (.ref b)), (1, some (.ref (ad 0))), (3, some (.int (qI x3))), (6, some (.int (qI x6)))] [] := by
  unfold fL_law_c1271
  refine r_qif (fun hkc => ?_)
  refine r_iconst (pc := 1271) cx dL_law_1271 ?_
  exact qS.sub (qsub_cons rfl (qsub_cons rfl (qsub_cons rfl (qsub_cons rfl (qsub_nil _))))) (tL_law_c1272 cx hX hB h66 h67 h68 hl hk18 _ _ _ _ _)
def fL_law_c1246 (L : Nat) (xs : Nat → Int32) (k18 : Nat → Int → Int → Int → qSt → Option Unit) (kc : Nat) (x2 : Int) (x3 : Int) (x6 : Int) (σ : qSt) : Option Unit :=
  (qif (kc + 2000 ≤ 400000) (if qI (qrem x6 24) = qI 23 then (if qI x2 = 0 then (fL_law_c1271 L xs k18 kc x3 x6 σ) else (qbd (fL_refuses σ) fun (r1261 : Int) (σ64 : qSt) => (if qI r1261 = 0 then (fL_law_c1271 L xs k18 (kc + 2000) x3 x6 σ64) else (fL_law_c1272 L xs k18 (kc + 2000) x3 x6 1 σ64)))) else (fL_law_c1273 L xs k18 kc x2 x3 x6 σ)))
set_option maxRecDepth 100000 in
set_option maxHeartbeats 4000000 in
theorem tL_law_c1246 {p : Program} {l : Launch} {e : Env} {s : State} {m : MethodId} {below : List Frame} {meth : Method} {c : Code} {g : qG} {w : qWd} {ad : Nat → Nat} {b L : Nat} {xs : Nat → Int32} (cx : qCx p s m meth c cL_law 22 RL (some .boolean) g s.heap.size) (hX : qScr b L xs s.heap.size s) (hB : qBC g ad w) (h66 : w 66 = none) (h67 : w 67 = none) (h68 : w 68 = none) (hl : l.stackTraces = false) {k18 : Nat → Int → Int → Int → qSt → Option Unit} (hk18 : ∀ (kc : Nat) (x2 : Int) (x3 : Int) (x6 : Int) (σ : qSt), qS p l e room_1 s m #[Value.ref b] below meth c 22 g s.heap.size w kc (21800 + 6 * kc) (fun _ => lw_Z below #[Value.ref b] s) (k18 kc x2 x3 x6 σ) σ 18 [(0, some (.ref b)), (1, some (.ref (ad 0))), (2, some (.int (qI x2))), (3, some (.int (qI x3))), (6, some (.int (qI x6)))] []) (kc : Nat) (x2 : Int) (x3 : Int) (x6 : Int) (σ : qSt) : qS p l e room_1 s m #[Value.ref b] below meth c 22 g s.heap.size w kc (21800 + 6 * kc) (fun _ => lw_Z below #[Value.ref b] s) (fL_law_c1246 L xs k18 kc x2 x3 x6 σ) σ 1246 [(0, some (.ref b)), (1, some (.ref (ad 0))), (2, some (.int (qI x2))), (3, some (.int (qI x3))), (6, some (.int (qI x6)))] [] := by
  unfold fL_law_c1246
  refine r_qif (fun hkc => ?_)
  refine r_iload (pc := 1246) cx dL_law_1246 rfl ?_
  refine r_bipush (pc := 1248) (v := 24) cx dL_law_1248 (by decide +kernel) ?_
  refine r_irem (pc := 1250) cx dL_law_1250 (by decide +kernel) ?_
  refine r_bipush (pc := 1251) (v := 23) cx dL_law_1251 (by decide +kernel) ?_
  refine r_icmp_ne (tgt := 1273) cx dL_law_1253 (by decide) ?_ ?_
  · exact qS.sub (qsub_cons rfl (qsub_cons rfl (qsub_cons rfl (qsub_cons rfl (qsub_cons rfl (qsub_nil _)))))) (tL_law_c1273 cx hX hB h66 h67 h68 hl hk18 _ _ _ _ _)
  · refine r_iload_n (pc := 1256) cx dL_law_1256 rfl ?_
    refine r_if_eq (tgt := 1271) cx dL_law_1257 (by decide) ?_ ?_
    · exact qS.sub (qsub_cons rfl (qsub_cons rfl (qsub_cons rfl (qsub_cons rfl (qsub_nil _))))) (tL_law_c1271 cx hX hB h66 h67 h68 hl hk18 _ _ _ _)
    · refine r_aload_n (pc := 1260) cx dL_law_1260 rfl ?_
      refine r_si (pc := 1261) (nb := 21800) (k := kc) (mc := 2000) (Mx := 400000) cx (tL_refuses hB h66 h67 h68 hl σ) qm_L_refuses qs_L_refuses wm_L_192 dL_law_1261 rfl rfl (Nat.le_of_ble_eq_true rfl) ⟨Nat.le_of_ble_eq_true rfl, Nat.le_of_ble_eq_true rfl⟩ ⟨Nat.le_of_ble_eq_true rfl, Nat.le_of_ble_eq_true rfl⟩ ⟨Nat.le_of_ble_eq_true rfl, Nat.le_of_ble_eq_true rfl⟩ (by omega) (fun r1261 σ64 => ?_)
      refine r_if_eq (tgt := 1271) cx dL_law_1264 (by decide) ?_ ?_
      · exact qS.sub (qsub_cons rfl (qsub_cons rfl (qsub_cons rfl (qsub_cons rfl (qsub_nil _))))) (tL_law_c1271 cx hX hB h66 h67 h68 hl hk18 _ _ _ _)
      · refine r_iconst (pc := 1267) cx dL_law_1267 ?_
        refine r_goto (pc := 1268) (tgt := 1272) cx dL_law_1268 (by decide) ?_
        exact qS.sub (qsub_cons rfl (qsub_cons rfl (qsub_cons rfl (qsub_cons rfl (qsub_nil _))))) (tL_law_c1272 cx hX hB h66 h67 h68 hl hk18 _ _ _ _ _)
def fL_law_c1245 (L : Nat) (xs : Nat → Int32) (k18 : Nat → Int → Int → Int → qSt → Option Unit) (kc : Nat) (x3 : Int) (x6 : Int) (s0 : Int) (σ : qSt) : Option Unit :=
  (qif (kc + 0 ≤ 400000) (fL_law_c1246 L xs k18 kc s0 x3 x6 σ))
set_option maxRecDepth 100000 in
set_option maxHeartbeats 4000000 in
theorem tL_law_c1245 {p : Program} {l : Launch} {e : Env} {s : State} {m : MethodId} {below : List Frame} {meth : Method} {c : Code} {g : qG} {w : qWd} {ad : Nat → Nat} {b L : Nat} {xs : Nat → Int32} (cx : qCx p s m meth c cL_law 22 RL (some .boolean) g s.heap.size) (hX : qScr b L xs s.heap.size s) (hB : qBC g ad w) (h66 : w 66 = none) (h67 : w 67 = none) (h68 : w 68 = none) (hl : l.stackTraces = false) {k18 : Nat → Int → Int → Int → qSt → Option Unit} (hk18 : ∀ (kc : Nat) (x2 : Int) (x3 : Int) (x6 : Int) (σ : qSt), qS p l e room_1 s m #[Value.ref b] below meth c 22 g s.heap.size w kc (21800 + 6 * kc) (fun _ => lw_Z below #[Value.ref b] s) (k18 kc x2 x3 x6 σ) σ 18 [(0, some (.ref b)), (1, some (.ref (ad 0))), (2, some (.int (qI x2))), (3, some (.int (qI x3))), (6, some (.int (qI x6)))] []) (kc : Nat) (x3 : Int) (x6 : Int) (s0 : Int) (σ : qSt) : qS p l e room_1 s m #[Value.ref b] below meth c 22 g s.heap.size w kc (21800 + 6 * kc) (fun _ => lw_Z below #[Value.ref b] s) (fL_law_c1245 L xs k18 kc x3 x6 s0 σ) σ 1245 [(0, some (.ref b)), (1, some (.ref (ad 0))), (3, some (.int (qI x3))), (6, some (.int (qI x6)))] [.int (qI s0)] := by
  unfold fL_law_c1245
  refine r_qif (fun hkc => ?_)
  refine r_istore_n (pc := 1245) cx dL_law_1245 (by decide) rfl ?_
  exact qS.sub (qsub_cons rfl (qsub_cons rfl (qsub_cons rfl (qsub_cons rfl (qsub_cons rfl (qsub_nil _)))))) (tL_law_c1246 cx hX hB h66 h67 h68 hl hk18 _ _ _ _ _)
def fL_law_c1244 (L : Nat) (xs : Nat → Int32) (k18 : Nat → Int → Int → Int → qSt → Option Unit) (kc : Nat) (x3 : Int) (x6 : Int) (σ : qSt) : Option Unit :=
  (qif (kc + 0 ≤ 400000) (fL_law_c1245 L xs k18 kc x3 x6 0 σ))
set_option maxRecDepth 100000 in
set_option maxHeartbeats 4000000 in
theorem tL_law_c1244 {p : Program} {l : Launch} {e : Env} {s : State} {m : MethodId} {below : List Frame} {meth : Method} {c : Code} {g : qG} {w : qWd} {ad : Nat → Nat} {b L : Nat} {xs : Nat → Int32} (cx : qCx p s m meth c cL_law 22 RL (some .boolean) g s.heap.size) (hX : qScr b L xs s.heap.size s) (hB : qBC g ad w) (h66 : w 66 = none) (h67 : w 67 = none) (h68 : w 68 = none) (hl : l.stackTraces = false) {k18 : Nat → Int → Int → Int → qSt → Option Unit} (hk18 : ∀ (kc : Nat) (x2 : Int) (x3 : Int) (x6 : Int) (σ : qSt), qS p l e room_1 s m #[Value.ref b] below meth c 22 g s.heap.size w kc (21800 + 6 * kc) (fun _ => lw_Z below #[Value.ref b] s) (k18 kc x2 x3 x6 σ) σ 18 [(0, some (.ref b)), (1, some (.ref (ad 0))), (2, some (.int (qI x2))), (3, some (.int (qI x3))), (6, some (.int (qI x6)))] []) (kc : Nat) (x3 : Int) (x6 : Int) (σ : qSt) : qS p l e room_1 s m #[Value.ref b] below meth c 22 g s.heap.size w kc (21800 + 6 * kc) (fun _ => lw_Z below #[Value.ref b] s) (fL_law_c1244 L xs k18 kc x3 x6 σ) σ 1244 [(0, some (.ref b)), (1, some (.ref (ad 0))), (3, some (.int (qI x3))), (6, some (.int (qI x6)))] [] := by
  unfold fL_law_c1244
  refine r_qif (fun hkc => ?_)
  refine r_iconst (pc := 1244) cx dL_law_1244 ?_
  exact qS.sub (qsub_cons rfl (qsub_cons rfl (qsub_cons rfl (qsub_cons rfl (qsub_nil _))))) (tL_law_c1245 cx hX hB h66 h67 h68 hl hk18 _ _ _ _ _)
def fL_law_c1219 (L : Nat) (xs : Nat → Int32) (k18 : Nat → Int → Int → Int → qSt → Option Unit) (kc : Nat) (x2 : Int) (x3 : Int) (x6 : Int) (σ : qSt) : Option Unit :=
  (qif (kc + 3000 ≤ 400000) (if qI (qrem x6 8) = qI 7 then (if qI x2 = 0 then (fL_law_c1244 L xs k18 kc x3 x6 σ) else (qbd (fL_sumsHold σ) fun (r1234 : Int) (σ62 : qSt) => (if qI r1234 = 0 then (fL_law_c1244 L xs k18 (kc + 3000) x3 x6 σ62) else (fL_law_c1245 L xs k18 (kc + 3000) x3 x6 1 σ62)))) else (fL_law_c1246 L xs k18 kc x2 x3 x6 σ)))
set_option maxRecDepth 100000 in
set_option maxHeartbeats 4000000 in
theorem tL_law_c1219 {p : Program} {l : Launch} {e : Env} {s : State} {m : MethodId} {below : List Frame} {meth : Method} {c : Code} {g : qG} {w : qWd} {ad : Nat → Nat} {b L : Nat} {xs : Nat → Int32} (cx : qCx p s m meth c cL_law 22 RL (some .boolean) g s.heap.size) (hX : qScr b L xs s.heap.size s) (hB : qBC g ad w) (h66 : w 66 = none) (h67 : w 67 = none) (h68 : w 68 = none) (hl : l.stackTraces = false) {k18 : Nat → Int → Int → Int → qSt → Option Unit} (hk18 : ∀ (kc : Nat) (x2 : Int) (x3 : Int) (x6 : Int) (σ : qSt), qS p l e room_1 s m #[Value.ref b] below meth c 22 g s.heap.size w kc (21800 + 6 * kc) (fun _ => lw_Z below #[Value.ref b] s) (k18 kc x2 x3 x6 σ) σ 18 [(0, some (.ref b)), (1, some (.ref (ad 0))), (2, some (.int (qI x2))), (3, some (.int (qI x3))), (6, some (.int (qI x6)))] []) (kc : Nat) (x2 : Int) (x3 : Int) (x6 : Int) (σ : qSt) : qS p l e room_1 s m #[Value.ref b] below meth c 22 g s.heap.size w kc (21800 + 6 * kc) (fun _ => lw_Z below #[Value.ref b] s) (fL_law_c1219 L xs k18 kc x2 x3 x6 σ) σ 1219 [(0, some (.ref b)), (1, some (.ref (ad 0))), (2, some (.int (qI x2))), (3, some (.int (qI x3))), (6, some (.int (qI x6)))] [] := by
  unfold fL_law_c1219
  refine r_qif (fun hkc => ?_)
  refine r_iload (pc := 1219) cx dL_law_1219 rfl ?_
  refine r_bipush (pc := 1221) (v := 8) cx dL_law_1221 (by decide +kernel) ?_
  refine r_irem (pc := 1223) cx dL_law_1223 (by decide +kernel) ?_
  refine r_bipush (pc := 1224) (v := 7) cx dL_law_1224 (by decide +kernel) ?_
  refine r_icmp_ne (tgt := 1246) cx dL_law_1226 (by decide) ?_ ?_
  · exact qS.sub (qsub_cons rfl (qsub_cons rfl (qsub_cons rfl (qsub_cons rfl (qsub_cons rfl (qsub_nil _)))))) (tL_law_c1246 cx hX hB h66 h67 h68 hl hk18 _ _ _ _ _)
  · refine r_iload_n (pc := 1229) cx dL_law_1229 rfl ?_
    refine r_if_eq (tgt := 1244) cx dL_law_1230 (by decide) ?_ ?_
    · exact qS.sub (qsub_cons rfl (qsub_cons rfl (qsub_cons rfl (qsub_cons rfl (qsub_nil _))))) (tL_law_c1244 cx hX hB h66 h67 h68 hl hk18 _ _ _ _)
    · refine r_aload_n (pc := 1233) cx dL_law_1233 rfl ?_
      refine r_si (pc := 1234) (nb := 21800) (k := kc) (mc := 3000) (Mx := 400000) cx (tL_sumsHold hB h66 h67 h68 hl σ) qm_L_sumsHold qs_L_sumsHold wm_L_188 dL_law_1234 rfl rfl (Nat.le_of_ble_eq_true rfl) ⟨Nat.le_of_ble_eq_true rfl, Nat.le_of_ble_eq_true rfl⟩ ⟨Nat.le_of_ble_eq_true rfl, Nat.le_of_ble_eq_true rfl⟩ ⟨Nat.le_of_ble_eq_true rfl, Nat.le_of_ble_eq_true rfl⟩ (by omega) (fun r1234 σ62 => ?_)
      refine r_if_eq (tgt := 1244) cx dL_law_1237 (by decide) ?_ ?_
      · exact qS.sub (qsub_cons rfl (qsub_cons rfl (qsub_cons rfl (qsub_cons rfl (qsub_nil _))))) (tL_law_c1244 cx hX hB h66 h67 h68 hl hk18 _ _ _ _)
      · refine r_iconst (pc := 1240) cx dL_law_1240 ?_
        refine r_goto (pc := 1241) (tgt := 1245) cx dL_law_1241 (by decide) ?_
        exact qS.sub (qsub_cons rfl (qsub_cons rfl (qsub_cons rfl (qsub_cons rfl (qsub_nil _))))) (tL_law_c1245 cx hX hB h66 h67 h68 hl hk18 _ _ _ _ _)
def fL_law_c1218 (L : Nat) (xs : Nat → Int32) (k18 : Nat → Int → Int → Int → qSt → Option Unit) (kc : Nat) (x3 : Int) (x6 : Int) (s0 : Int) (σ : qSt) : Option Unit :=
  (qif (kc + 0 ≤ 400000) (fL_law_c1219 L xs k18 kc s0 x3 x6 σ))
set_option maxRecDepth 100000 in
set_option maxHeartbeats 4000000 in
theorem tL_law_c1218 {p : Program} {l : Launch} {e : Env} {s : State} {m : MethodId} {below : List Frame} {meth : Method} {c : Code} {g : qG} {w : qWd} {ad : Nat → Nat} {b L : Nat} {xs : Nat → Int32} (cx : qCx p s m meth c cL_law 22 RL (some .boolean) g s.heap.size) (hX : qScr b L xs s.heap.size s) (hB : qBC g ad w) (h66 : w 66 = none) (h67 : w 67 = none) (h68 : w 68 = none) (hl : l.stackTraces = false) {k18 : Nat → Int → Int → Int → qSt → Option Unit} (hk18 : ∀ (kc : Nat) (x2 : Int) (x3 : Int) (x6 : Int) (σ : qSt), qS p l e room_1 s m #[Value.ref b] below meth c 22 g s.heap.size w kc (21800 + 6 * kc) (fun _ => lw_Z below #[Value.ref b] s) (k18 kc x2 x3 x6 σ) σ 18 [(0, some (.ref b)), (1, some (.ref (ad 0))), (2, some (.int (qI x2))), (3, some (.int (qI x3))), (6, some (.int (qI x6)))] []) (kc : Nat) (x3 : Int) (x6 : Int) (s0 : Int) (σ : qSt) : qS p l e room_1 s m #[Value.ref b] below meth c 22 g s.heap.size w kc (21800 + 6 * kc) (fun _ => lw_Z below #[Value.ref b] s) (fL_law_c1218 L xs k18 kc x3 x6 s0 σ) σ 1218 [(0, some (.ref b)), (1, some (.ref (ad 0))), (3, some (.int (qI x3))), (6, some (.int (qI x6)))] [.int (qI s0)] := by
  unfold fL_law_c1218
  refine r_qif (fun hkc => ?_)
  refine r_istore_n (pc := 1218) cx dL_law_1218 (by decide) rfl ?_
  exact qS.sub (qsub_cons rfl (qsub_cons rfl (qsub_cons rfl (qsub_cons rfl (qsub_cons rfl (qsub_nil _)))))) (tL_law_c1219 cx hX hB h66 h67 h68 hl hk18 _ _ _ _ _)
def fL_law_c1217 (L : Nat) (xs : Nat → Int32) (k18 : Nat → Int → Int → Int → qSt → Option Unit) (kc : Nat) (x3 : Int) (x6 : Int) (σ : qSt) : Option Unit :=
  (qif (kc + 0 ≤ 400000) (fL_law_c1218 L xs k18 kc x3 x6 0 σ))
set_option maxRecDepth 100000 in
set_option maxHeartbeats 4000000 in
theorem tL_law_c1217 {p : Program} {l : Launch} {e : Env} {s : State} {m : MethodId} {below : List Frame} {meth : Method} {c : Code} {g : qG} {w : qWd} {ad : Nat → Nat} {b L : Nat} {xs : Nat → Int32} (cx : qCx p s m meth c cL_law 22 RL (some .boolean) g s.heap.size) (hX : qScr b L xs s.heap.size s) (hB : qBC g ad w) (h66 : w 66 = none) (h67 : w 67 = none) (h68 : w 68 = none) (hl : l.stackTraces = false) {k18 : Nat → Int → Int → Int → qSt → Option Unit} (hk18 : ∀ (kc : Nat) (x2 : Int) (x3 : Int) (x6 : Int) (σ : qSt), qS p l e room_1 s m #[Value.ref b] below meth c 22 g s.heap.size w kc (21800 + 6 * kc) (fun _ => lw_Z below #[Value.ref b] s) (k18 kc x2 x3 x6 σ) σ 18 [(0, some (.ref b)), (1, some (.ref (ad 0))), (2, some (.int (qI x2))), (3, some (.int (qI x3))), (6, some (.int (qI x6)))] []) (kc : Nat) (x3 : Int) (x6 : Int) (σ : qSt) : qS p l e room_1 s m #[Value.ref b] below meth c 22 g s.heap.size w kc (21800 + 6 * kc) (fun _ => lw_Z below #[Value.ref b] s) (fL_law_c1217 L xs k18 kc x3 x6 σ) σ 1217 [(0, some (.ref b)), (1, some (.ref (ad 0))), (3, some (.int (qI x3))), (6, some (.int (qI x6)))] [] := by
  unfold fL_law_c1217
  refine r_qif (fun hkc => ?_)
  refine r_iconst (pc := 1217) cx dL_law_1217 ?_
  exact qS.sub (qsub_cons rfl (qsub_cons rfl (qsub_cons rfl (qsub_cons rfl (qsub_nil _))))) (tL_law_c1218 cx hX hB h66 h67 h68 hl hk18 _ _ _ _ _)
def fL_law_c1178 (L : Nat) (xs : Nat → Int32) (k18 : Nat → Int → Int → Int → qSt → Option Unit) (kc : Nat) (x2 : Int) (x3 : Int) (x6 : Int) (x7 : Int) (x8 : Int) (σ : qSt) : Option Unit :=
  (qif (kc + 360 ≤ 400000) (if qI x2 = 0 then (fL_law_c1217 L xs k18 kc x3 x6 σ) else (qbd (fL_asked (qdiv x7 8) (qdiv x8 8) σ) fun (r1193 : Int) (σ38 : qSt) => (if qI r1193 = 0 then (fL_law_c1217 L xs k18 (kc + 300) x3 x6 σ38) else (qbd (fL_betterHolds (qrem (qdiv x8 16) 4) σ38) fun (r1207 : Int) (σ39 : qSt) => (if qI r1207 = 0 then (fL_law_c1217 L xs k18 ((kc + 300) + 60) x3 x6 σ39) else (fL_law_c1218 L xs k18 ((kc + 300) + 60) x3 x6 1 σ39)))))))
set_option maxRecDepth 100000 in
set_option maxHeartbeats 4000000 in
theorem tL_law_c1178 {p : Program} {l : Launch} {e : Env} {s : State} {m : MethodId} {below : List Frame} {meth : Method} {c : Code} {g : qG} {w : qWd} {ad : Nat → Nat} {b L : Nat} {xs : Nat → Int32} (cx : qCx p s m meth c cL_law 22 RL (some .boolean) g s.heap.size) (hX : qScr b L xs s.heap.size s) (hB : qBC g ad w) (h66 : w 66 = none) (h67 : w 67 = none) (h68 : w 68 = none) (hl : l.stackTraces = false) {k18 : Nat → Int → Int → Int → qSt → Option Unit} (hk18 : ∀ (kc : Nat) (x2 : Int) (x3 : Int) (x6 : Int) (σ : qSt), qS p l e room_1 s m #[Value.ref b] below meth c 22 g s.heap.size w kc (21800 + 6 * kc) (fun _ => lw_Z below #[Value.ref b] s) (k18 kc x2 x3 x6 σ) σ 18 [(0, some (.ref b)), (1, some (.ref (ad 0))), (2, some (.int (qI x2))), (3, some (.int (qI x3))), (6, some (.int (qI x6)))] []) (kc : Nat) (x2 : Int) (x3 : Int) (x6 : Int) (x7 : Int) (x8 : Int) (σ : qSt) : qS p l e room_1 s m #[Value.ref b] below meth c 22 g s.heap.size w kc (21800 + 6 * kc) (fun _ => lw_Z below #[Value.ref b] s) (fL_law_c1178 L xs k18 kc x2 x3 x6 x7 x8 σ) σ 1178 [(0, some (.ref b)), (1, some (.ref (ad 0))), (2, some (.int (qI x2))), (3, some (.int (qI x3))), (6, some (.int (qI x6))), (7, some (.int (qI x7))), (8, some (.int (qI x8)))] [] := by
  unfold fL_law_c1178
  refine r_qif (fun hkc => ?_)
  refine r_iload_n (pc := 1178) cx dL_law_1178 rfl ?_
  refine r_if_eq (tgt := 1217) cx dL_law_1179 (by decide) ?_ ?_
  · exact qS.sub (qsub_cons rfl (qsub_cons rfl (qsub_cons rfl (qsub_cons rfl (qsub_nil _))))) (tL_law_c1217 cx hX hB h66 h67 h68 hl hk18 _ _ _ _)
  · refine r_aload_n (pc := 1182) cx dL_law_1182 rfl ?_
    refine r_iload (pc := 1183) cx dL_law_1183 rfl ?_
    refine r_bipush (pc := 1185) (v := 8) cx dL_law_1185 (by decide +kernel) ?_
    refine r_idiv (pc := 1187) cx dL_law_1187 (by decide +kernel) ?_
    refine r_iload (pc := 1188) cx dL_law_1188 rfl ?_
    refine r_bipush (pc := 1190) (v := 8) cx dL_law_1190 (by decide +kernel) ?_
    refine r_idiv (pc := 1192) cx dL_law_1192 (by decide +kernel) ?_
    refine r_si (pc := 1193) (nb := 21800) (k := kc) (mc := 300) (Mx := 400000) cx (tL_asked hB h66 h67 h68 hl (qdiv x7 8) (qdiv x8 8) σ) qm_L_asked qs_L_asked wm_L_180 dL_law_1193 rfl rfl (Nat.le_of_ble_eq_true rfl) ⟨Nat.le_of_ble_eq_true rfl, Nat.le_of_ble_eq_true rfl⟩ ⟨Nat.le_of_ble_eq_true rfl, Nat.le_of_ble_eq_true rfl⟩ ⟨Nat.le_of_ble_eq_true rfl, Nat.le_of_ble_eq_true rfl⟩ (by omega) (fun r1193 σ38 => ?_)
    refine r_if_eq (tgt := 1217) cx dL_law_1196 (by decide) ?_ ?_
    · exact qS.sub (qsub_cons rfl (qsub_cons rfl (qsub_cons rfl (qsub_cons rfl (qsub_nil _))))) (tL_law_c1217 cx hX hB h66 h67 h68 hl hk18 _ _ _ _)
    · refine r_aload_n (pc := 1199) cx dL_law_1199 rfl ?_
      refine r_iload (pc := 1200) cx dL_law_1200 rfl ?_
      refine r_bipush (pc := 1202) (v := 16) cx dL_law_1202 (by decide +kernel) ?_
      refine r_idiv (pc := 1204) cx dL_law_1204 (by decide +kernel) ?_
      refine r_iconst (pc := 1205) cx dL_law_1205 ?_
      refine r_irem (pc := 1206) cx dL_law_1206 (by decide +kernel) ?_
      refine r_si (pc := 1207) (nb := 21800) (k := (kc + 300)) (mc := 60) (Mx := 400000) cx (tL_betterHolds hB h66 h67 h68 hl (qrem (qdiv x8 16) 4) σ38) qm_L_betterHolds qs_L_betterHolds wm_L_184 dL_law_1207 rfl rfl (Nat.le_of_ble_eq_true rfl) ⟨Nat.le_of_ble_eq_true rfl, Nat.le_of_ble_eq_true rfl⟩ ⟨Nat.le_of_ble_eq_true rfl, Nat.le_of_ble_eq_true rfl⟩ ⟨Nat.le_of_ble_eq_true rfl, Nat.le_of_ble_eq_true rfl⟩ (by omega) (fun r1207 σ39 => ?_)
      refine r_if_eq (tgt := 1217) cx dL_law_1210 (by decide) ?_ ?_
      · exact qS.sub (qsub_cons rfl (qsub_cons rfl (qsub_cons rfl (qsub_cons rfl (qsub_nil _))))) (tL_law_c1217 cx hX hB h66 h67 h68 hl hk18 _ _ _ _)
      · refine r_iconst (pc := 1213) cx dL_law_1213 ?_
        refine r_goto (pc := 1214) (tgt := 1218) cx dL_law_1214 (by decide) ?_
        exact qS.sub (qsub_cons rfl (qsub_cons rfl (qsub_cons rfl (qsub_cons rfl (qsub_nil _))))) (tL_law_c1218 cx hX hB h66 h67 h68 hl hk18 _ _ _ _ _)
def fL_law_c1177 (L : Nat) (xs : Nat → Int32) (k18 : Nat → Int → Int → Int → qSt → Option Unit) (kc : Nat) (x3 : Int) (x6 : Int) (x7 : Int) (x8 : Int) (s0 : Int) (σ : qSt) : Option Unit :=
  (qif (kc + 0 ≤ 400000) (fL_law_c1178 L xs k18 kc s0 x3 x6 x7 x8 σ))
set_option maxRecDepth 100000 in
set_option maxHeartbeats 4000000 in
theorem tL_law_c1177 {p : Program} {l : Launch} {e : Env} {s : State} {m : MethodId} {below : List Frame} {meth : Method} {c : Code} {g : qG} {w : qWd} {ad : Nat → Nat} {b L : Nat} {xs : Nat → Int32} (cx : qCx p s m meth c cL_law 22 RL (some .boolean) g s.heap.size) (hX : qScr b L xs s.heap.size s) (hB : qBC g ad w) (h66 : w 66 = none) (h67 : w 67 = none) (h68 : w 68 = none) (hl : l.stackTraces = false) {k18 : Nat → Int → Int → Int → qSt → Option Unit} (hk18 : ∀ (kc : Nat) (x2 : Int) (x3 : Int) (x6 : Int) (σ : qSt), qS p l e room_1 s m #[Value.ref b] below meth c 22 g s.heap.size w kc (21800 + 6 * kc) (fun _ => lw_Z below #[Value.ref b] s) (k18 kc x2 x3 x6 σ) σ 18 [(0, some (.ref b)), (1, some (.ref (ad 0))), (2, some (.int (qI x2))), (3, some (.int (qI x3))), (6, some (.int (qI x6)))] []) (kc : Nat) (x3 : Int) (x6 : Int) (x7 : Int) (x8 : Int) (s0 : Int) (σ : qSt) : qS p l e room_1 s m #[Value.ref b] below meth c 22 g s.heap.size w kc (21800 + 6 * kc) (fun _ => lw_Z below #[Value.ref b] s) (fL_law_c1177 L xs k18 kc x3 x6 x7 x8 s0 σ) σ 1177 [(0, some (.ref b)), (1, some (.ref (ad 0))), (3, some (.int (qI x3))), (6, some (.int (qI x6))), (7, some (.int (qI x7))), (8, some (.int (qI x8)))] [.int (qI s0)] := by
  unfold fL_law_c1177
  refine r_qif (fun hkc => ?_)
  refine r_istore_n (pc := 1177) cx dL_law_1177 (by decide) rfl ?_
  exact qS.sub (qsub_cons rfl (qsub_cons rfl (qsub_cons rfl (qsub_cons rfl (qsub_cons rfl (qsub_cons rfl (qsub_cons rfl (qsub_nil _)))))))) (tL_law_c1178 cx hX hB h66 h67 h68 hl hk18 _ _ _ _ _ _ _)
def fL_law_c1168 (L : Nat) (xs : Nat → Int32) (k18 : Nat → Int → Int → Int → qSt → Option Unit) (kc : Nat) (x3 : Int) (x6 : Int) (x7 : Int) (x8 : Int) (s0 : Int) (s1 : Int) (σ : qSt) : Option Unit :=
  (qif (kc + 0 ≤ 400000) (if qI (qlcmp s1 s0) = 0 then (fL_law_c1177 L xs k18 kc x3 x6 x7 x8 1 σ) else (fL_law_c1177 L xs k18 kc x3 x6 x7 x8 0 σ)))
set_option maxRecDepth 100000 in
set_option maxHeartbeats 4000000 in
theorem tL_law_c1168 {p : Program} {l : Launch} {e : Env} {s : State} {m : MethodId} {below : List Frame} {meth : Method} {c : Code} {g : qG} {w : qWd} {ad : Nat → Nat} {b L : Nat} {xs : Nat → Int32} (cx : qCx p s m meth c cL_law 22 RL (some .boolean) g s.heap.size) (hX : qScr b L xs s.heap.size s) (hB : qBC g ad w) (h66 : w 66 = none) (h67 : w 67 = none) (h68 : w 68 = none) (hl : l.stackTraces = false) {k18 : Nat → Int → Int → Int → qSt → Option Unit} (hk18 : ∀ (kc : Nat) (x2 : Int) (x3 : Int) (x6 : Int) (σ : qSt), qS p l e room_1 s m #[Value.ref b] below meth c 22 g s.heap.size w kc (21800 + 6 * kc) (fun _ => lw_Z below #[Value.ref b] s) (k18 kc x2 x3 x6 σ) σ 18 [(0, some (.ref b)), (1, some (.ref (ad 0))), (2, some (.int (qI x2))), (3, some (.int (qI x3))), (6, some (.int (qI x6)))] []) (kc : Nat) (x3 : Int) (x6 : Int) (x7 : Int) (x8 : Int) (s0 : Int) (s1 : Int) (σ : qSt) : qS p l e room_1 s m #[Value.ref b] below meth c 22 g s.heap.size w kc (21800 + 6 * kc) (fun _ => lw_Z below #[Value.ref b] s) (fL_law_c1168 L xs k18 kc x3 x6 x7 x8 s0 s1 σ) σ 1168 [(0, some (.ref b)), (1, some (.ref (ad 0))), (3, some (.int (qI x3))), (6, some (.int (qI x6))), (7, some (.int (qI x7))), (8, some (.int (qI x8)))] [.long (qJ s0), .long (qJ s1)] := by
  unfold fL_law_c1168
  refine r_qif (fun hkc => ?_)
  refine r_lcmp (pc := 1168) cx dL_law_1168 ?_
  refine r_if_ne (tgt := 1176) cx dL_law_1169 (by decide) ?_ ?_
  · refine r_iconst (pc := 1176) cx dL_law_1176 ?_
    exact qS.sub (qsub_cons rfl (qsub_cons rfl (qsub_cons rfl (qsub_cons rfl (qsub_cons rfl (qsub_cons rfl (qsub_nil _))))))) (tL_law_c1177 cx hX hB h66 h67 h68 hl hk18 _ _ _ _ _ _ _)
  · refine r_iconst (pc := 1172) cx dL_law_1172 ?_
    refine r_goto (pc := 1173) (tgt := 1177) cx dL_law_1173 (by decide) ?_
    exact qS.sub (qsub_cons rfl (qsub_cons rfl (qsub_cons rfl (qsub_cons rfl (qsub_cons rfl (qsub_cons rfl (qsub_nil _))))))) (tL_law_c1177 cx hX hB h66 h67 h68 hl hk18 _ _ _ _ _ _ _)
def fL_law_c1118 (L : Nat) (xs : Nat → Int32) (k18 : Nat → Int → Int → Int → qSt → Option Unit) (kc : Nat) (x2 : Int) (x3 : Int) (x6 : Int) (x7 : Int) (x8 : Int) (x11 : Int) (σ : qSt) : Option Unit :=
  (qif (kc + 2 ≤ 400000) (if qI (qlcmp x11 0) ≤ 0 then (fL_law_c1178 L xs k18 kc x2 x3 x6 x7 x8 σ) else (qb (1 + (qrem x8 9)) fun (y6 : Int) => (qbd (fL_sum 0 σ) fun (r1136 : Int) (σ7 : qSt) => (qbd (fL_back y6 σ7) fun (r1144 : Int) (σ8 : qSt) => (if 0 < qI (qlcmp (qi2l y6) x11) then (fL_law_c1168 L xs k18 ((kc + 1) + 1) x3 x6 x7 x8 (-9000000000000000003) r1144 σ8) else (fL_law_c1168 L xs k18 ((kc + 1) + 1) x3 x6 x7 x8 (r1136 - (qi2l y6)) r1144 σ8)))))))
set_option maxRecDepth 100000 in
set_option maxHeartbeats 4000000 in
theorem tL_law_c1118 {p : Program} {l : Launch} {e : Env} {s : State} {m : MethodId} {below : List Frame} {meth : Method} {c : Code} {g : qG} {w : qWd} {ad : Nat → Nat} {b L : Nat} {xs : Nat → Int32} (cx : qCx p s m meth c cL_law 22 RL (some .boolean) g s.heap.size) (hX : qScr b L xs s.heap.size s) (hB : qBC g ad w) (h66 : w 66 = none) (h67 : w 67 = none) (h68 : w 68 = none) (hl : l.stackTraces = false) {k18 : Nat → Int → Int → Int → qSt → Option Unit} (hk18 : ∀ (kc : Nat) (x2 : Int) (x3 : Int) (x6 : Int) (σ : qSt), qS p l e room_1 s m #[Value.ref b] below meth c 22 g s.heap.size w kc (21800 + 6 * kc) (fun _ => lw_Z below #[Value.ref b] s) (k18 kc x2 x3 x6 σ) σ 18 [(0, some (.ref b)), (1, some (.ref (ad 0))), (2, some (.int (qI x2))), (3, some (.int (qI x3))), (6, some (.int (qI x6)))] []) (kc : Nat) (x2 : Int) (x3 : Int) (x6 : Int) (x7 : Int) (x8 : Int) (x11 : Int) (σ : qSt) : qS p l e room_1 s m #[Value.ref b] below meth c 22 g s.heap.size w kc (21800 + 6 * kc) (fun _ => lw_Z below #[Value.ref b] s) (fL_law_c1118 L xs k18 kc x2 x3 x6 x7 x8 x11 σ) σ 1118 [(0, some (.ref b)), (1, some (.ref (ad 0))), (2, some (.int (qI x2))), (3, some (.int (qI x3))), (6, some (.int (qI x6))), (7, some (.int (qI x7))), (8, some (.int (qI x8))), (11, some (.long (qJ x11)))] [] := by
  unfold fL_law_c1118
  refine r_qif (fun hkc => ?_)
  refine r_lload (pc := 1118) cx dL_law_1118 rfl ?_
  refine r_lconst (pc := 1120) (z := 0) cx dL_law_1120 (by decide +kernel) ?_
  refine r_lcmp (pc := 1121) cx dL_law_1121 ?_
  refine r_if_le (tgt := 1178) cx dL_law_1122 (by decide) ?_ ?_
  · exact qS.sub (qsub_cons rfl (qsub_cons rfl (qsub_cons rfl (qsub_cons rfl (qsub_cons rfl (qsub_cons rfl (qsub_cons rfl (qsub_nil _)))))))) (tL_law_c1178 cx hX hB h66 h67 h68 hl hk18 _ _ _ _ _ _ _)
  · refine r_iconst (pc := 1125) cx dL_law_1125 ?_
    refine r_iload (pc := 1126) cx dL_law_1126 rfl ?_
    refine r_bipush (pc := 1128) (v := 9) cx dL_law_1128 (by decide +kernel) ?_
    refine r_irem (pc := 1130) cx dL_law_1130 (by decide +kernel) ?_
    refine r_iadd (pc := 1131) cx dL_law_1131 ?_
    refine r_nmi (fun y6 => ?_)
    refine r_istore (pc := 1132) cx dL_law_1132 (by decide) rfl ?_
    refine r_aload_n (pc := 1134) cx dL_law_1134 rfl ?_
    refine r_iconst (pc := 1135) cx dL_law_1135 ?_
    refine r_wj (pc := 1136) (nb := 21800) (k := kc) (mc := 1) (Mx := 400000) cx (tL_sum hB h66 h67 h68 hl 0 σ) qmh_L_sum wm_L_114 dL_law_1136 rfl rfl (Nat.le_of_ble_eq_true rfl) ⟨Nat.le_of_ble_eq_true rfl, Nat.le_of_ble_eq_true rfl⟩ ⟨Nat.le_of_ble_eq_true rfl, Nat.le_of_ble_eq_true rfl⟩ ⟨Nat.le_of_ble_eq_true rfl, Nat.le_of_ble_eq_true rfl⟩ (by omega) (fun r1136 σ7 => ?_)
    refine r_lstore (pc := 1139) cx dL_law_1139 (by decide) rfl ?_
    refine r_aload_n (pc := 1141) cx dL_law_1141 rfl ?_
    refine r_iload (pc := 1142) cx dL_law_1142 rfl ?_
    refine r_wj (pc := 1144) (nb := 21800) (k := (kc + 1)) (mc := 1) (Mx := 400000) cx (tL_back hB h66 h67 h68 hl y6 σ7) qmh_L_back wm_L_163 dL_law_1144 rfl rfl (Nat.le_of_ble_eq_true rfl) ⟨Nat.le_of_ble_eq_true rfl, Nat.le_of_ble_eq_true rfl⟩ ⟨Nat.le_of_ble_eq_true rfl, Nat.le_of_ble_eq_true rfl⟩ ⟨Nat.le_of_ble_eq_true rfl, Nat.le_of_ble_eq_true rfl⟩ (by omega) (fun r1144 σ8 => ?_)
    refine r_iload (pc := 1147) cx dL_law_1147 rfl ?_
    refine r_i2l (pc := 1149) cx dL_law_1149 ?_
    refine r_lload (pc := 1150) cx dL_law_1150 rfl ?_
    refine r_lcmp (pc := 1152) cx dL_law_1152 ?_
    refine r_if_gt (tgt := 1165) cx dL_law_1153 (by decide) ?_ ?_
    · refine r_ldc2 (pc := 1165) (v := (-9000000000000000003)) cx dL_law_1165 wq_L_21 ?_
      exact qS.sub (qsub_cons rfl (qsub_cons rfl (qsub_cons rfl (qsub_cons rfl (qsub_cons rfl (qsub_cons rfl (qsub_nil _))))))) (tL_law_c1168 cx hX hB h66 h67 h68 hl hk18 _ _ _ _ _ _ _ _)
    · refine r_lload (pc := 1156) cx dL_law_1156 rfl ?_
      refine r_iload (pc := 1158) cx dL_law_1158 rfl ?_
      refine r_i2l (pc := 1160) cx dL_law_1160 ?_
      refine r_lsub (pc := 1161) cx dL_law_1161 ?_
      refine r_goto (pc := 1162) (tgt := 1168) cx dL_law_1162 (by decide) ?_
      exact qS.sub (qsub_cons rfl (qsub_cons rfl (qsub_cons rfl (qsub_cons rfl (qsub_cons rfl (qsub_cons rfl (qsub_nil _))))))) (tL_law_c1168 cx hX hB h66 h67 h68 hl hk18 _ _ _ _ _ _ _ _)
def fL_law_c1115 (L : Nat) (xs : Nat → Int32) (k18 : Nat → Int → Int → Int → qSt → Option Unit) (kc : Nat) (x2 : Int) (x3 : Int) (x6 : Int) (x7 : Int) (x8 : Int) (σ : qSt) : Option Unit :=
  (qif (kc + 0 ≤ 400000) (fL_law_c1178 L xs k18 kc x2 x3 x6 x7 x8 σ))
set_option maxRecDepth 100000 in
set_option maxHeartbeats 4000000 in
theorem tL_law_c1115 {p : Program} {l : Launch} {e : Env} {s : State} {m : MethodId} {below : List Frame} {meth : Method} {c : Code} {g : qG} {w : qWd} {ad : Nat → Nat} {b L : Nat} {xs : Nat → Int32} (cx : qCx p s m meth c cL_law 22 RL (some .boolean) g s.heap.size) (hX : qScr b L xs s.heap.size s) (hB : qBC g ad w) (h66 : w 66 = none) (h67 : w 67 = none) (h68 : w 68 = none) (hl : l.stackTraces = false) {k18 : Nat → Int → Int → Int → qSt → Option Unit} (hk18 : ∀ (kc : Nat) (x2 : Int) (x3 : Int) (x6 : Int) (σ : qSt), qS p l e room_1 s m #[Value.ref b] below meth c 22 g s.heap.size w kc (21800 + 6 * kc) (fun _ => lw_Z below #[Value.ref b] s) (k18 kc x2 x3 x6 σ) σ 18 [(0, some (.ref b)), (1, some (.ref (ad 0))), (2, some (.int (qI x2))), (3, some (.int (qI x3))), (6, some (.int (qI x6)))] []) (kc : Nat) (x2 : Int) (x3 : Int) (x6 : Int) (x7 : Int) (x8 : Int) (σ : qSt) : qS p l e room_1 s m #[Value.ref b] below meth c 22 g s.heap.size w kc (21800 + 6 * kc) (fun _ => lw_Z below #[Value.ref b] s) (fL_law_c1115 L xs k18 kc x2 x3 x6 x7 x8 σ) σ 1115 [(0, some (.ref b)), (1, some (.ref (ad 0))), (2, some (.int (qI x2))), (3, some (.int (qI x3))), (6, some (.int (qI x6))), (7, some (.int (qI x7))), (8, some (.int (qI x8)))] [] := by
  unfold fL_law_c1115
  refine r_qif (fun hkc => ?_)
  refine r_goto (pc := 1115) (tgt := 1178) cx dL_law_1115 (by decide) ?_
  exact qS.sub (qsub_cons rfl (qsub_cons rfl (qsub_cons rfl (qsub_cons rfl (qsub_cons rfl (qsub_cons rfl (qsub_cons rfl (qsub_nil _)))))))) (tL_law_c1178 cx hX hB h66 h67 h68 hl hk18 _ _ _ _ _ _ _)
def fL_law_c1114 (L : Nat) (xs : Nat → Int32) (k18 : Nat → Int → Int → Int → qSt → Option Unit) (kc : Nat) (x3 : Int) (x6 : Int) (x7 : Int) (x8 : Int) (s0 : Int) (σ : qSt) : Option Unit :=
  (qif (kc + 0 ≤ 400000) (fL_law_c1115 L xs k18 kc s0 x3 x6 x7 x8 σ))
set_option maxRecDepth 100000 in
set_option maxHeartbeats 4000000 in
theorem tL_law_c1114 {p : Program} {l : Launch} {e : Env} {s : State} {m : MethodId} {below : List Frame} {meth : Method} {c : Code} {g : qG} {w : qWd} {ad : Nat → Nat} {b L : Nat} {xs : Nat → Int32} (cx : qCx p s m meth c cL_law 22 RL (some .boolean) g s.heap.size) (hX : qScr b L xs s.heap.size s) (hB : qBC g ad w) (h66 : w 66 = none) (h67 : w 67 = none) (h68 : w 68 = none) (hl : l.stackTraces = false) {k18 : Nat → Int → Int → Int → qSt → Option Unit} (hk18 : ∀ (kc : Nat) (x2 : Int) (x3 : Int) (x6 : Int) (σ : qSt), qS p l e room_1 s m #[Value.ref b] below meth c 22 g s.heap.size w kc (21800 + 6 * kc) (fun _ => lw_Z below #[Value.ref b] s) (k18 kc x2 x3 x6 σ) σ 18 [(0, some (.ref b)), (1, some (.ref (ad 0))), (2, some (.int (qI x2))), (3, some (.int (qI x3))), (6, some (.int (qI x6)))] []) (kc : Nat) (x3 : Int) (x6 : Int) (x7 : Int) (x8 : Int) (s0 : Int) (σ : qSt) : qS p l e room_1 s m #[Value.ref b] below meth c 22 g s.heap.size w kc (21800 + 6 * kc) (fun _ => lw_Z below #[Value.ref b] s) (fL_law_c1114 L xs k18 kc x3 x6 x7 x8 s0 σ) σ 1114 [(0, some (.ref b)), (1, some (.ref (ad 0))), (3, some (.int (qI x3))), (6, some (.int (qI x6))), (7, some (.int (qI x7))), (8, some (.int (qI x8)))] [.int (qI s0)] := by
  unfold fL_law_c1114
  refine r_qif (fun hkc => ?_)
  refine r_istore_n (pc := 1114) cx dL_law_1114 (by decide) rfl ?_
  exact qS.sub (qsub_cons rfl (qsub_cons rfl (qsub_cons rfl (qsub_cons rfl (qsub_cons rfl (qsub_cons rfl (qsub_cons rfl (qsub_nil _)))))))) (tL_law_c1115 cx hX hB h66 h67 h68 hl hk18 _ _ _ _ _ _ _)
def fL_law_c1113 (L : Nat) (xs : Nat → Int32) (k18 : Nat → Int → Int → Int → qSt → Option Unit) (kc : Nat) (x3 : Int) (x6 : Int) (x7 : Int) (x8 : Int) (σ : qSt) : Option Unit :=
  (qif (kc + 0 ≤ 400000) (fL_law_c1114 L xs k18 kc x3 x6 x7 x8 0 σ))
set_option maxRecDepth 100000 in
set_option maxHeartbeats 4000000 in
theorem tL_law_c1113 {p : Program} {l : Launch} {e : Env} {s : State} {m : MethodId} {below : List Frame} {meth : Method} {c : Code} {g : qG} {w : qWd} {ad : Nat → Nat} {b L : Nat} {xs : Nat → Int32} (cx : qCx p s m meth c cL_law 22 RL (some .boolean) g s.heap.size) (hX : qScr b L xs s.heap.size s) (hB : qBC g ad w) (h66 : w 66 = none) (h67 : w 67 = none) (h68 : w 68 = none) (hl : l.stackTraces = false) {k18 : Nat → Int → Int → Int → qSt → Option Unit} (hk18 : ∀ (kc : Nat) (x2 : Int) (x3 : Int) (x6 : Int) (σ : qSt), qS p l e room_1 s m #[Value.ref b] below meth c 22 g s.heap.size w kc (21800 + 6 * kc) (fun _ => lw_Z below #[Value.ref b] s) (k18 kc x2 x3 x6 σ) σ 18 [(0, some (.ref b)), (1, some (.ref (ad 0))), (2, some (.int (qI x2))), (3, some (.int (qI x3))), (6, some (.int (qI x6)))] []) (kc : Nat) (x3 : Int) (x6 : Int) (x7 : Int) (x8 : Int) (σ : qSt) : qS p l e room_1 s m #[Value.ref b] below meth c 22 g s.heap.size w kc (21800 + 6 * kc) (fun _ => lw_Z below #[Value.ref b] s) (fL_law_c1113 L xs k18 kc x3 x6 x7 x8 σ) σ 1113 [(0, some (.ref b)), (1, some (.ref (ad 0))), (3, some (.int (qI x3))), (6, some (.int (qI x6))), (7, some (.int (qI x7))), (8, some (.int (qI x8)))] [] := by
  unfold fL_law_c1113
  refine r_qif (fun hkc => ?_)
  refine r_iconst (pc := 1113) cx dL_law_1113 ?_
  exact qS.sub (qsub_cons rfl (qsub_cons rfl (qsub_cons rfl (qsub_cons rfl (qsub_cons rfl (qsub_cons rfl (qsub_nil _))))))) (tL_law_c1114 cx hX hB h66 h67 h68 hl hk18 _ _ _ _ _ _ _)
def fL_law_c1089 (L : Nat) (xs : Nat → Int32) (k18 : Nat → Int → Int → Int → qSt → Option Unit) (kc : Nat) (x3 : Int) (x6 : Int) (x7 : Int) (x8 : Int) (s0 : Int) (σ : qSt) : Option Unit :=
  (qif (kc + 0 ≤ 400000) (fL_law_c1115 L xs k18 kc s0 x3 x6 x7 x8 σ))
set_option maxRecDepth 100000 in
set_option maxHeartbeats 4000000 in
theorem tL_law_c1089 {p : Program} {l : Launch} {e : Env} {s : State} {m : MethodId} {below : List Frame} {meth : Method} {c : Code} {g : qG} {w : qWd} {ad : Nat → Nat} {b L : Nat} {xs : Nat → Int32} (cx : qCx p s m meth c cL_law 22 RL (some .boolean) g s.heap.size) (hX : qScr b L xs s.heap.size s) (hB : qBC g ad w) (h66 : w 66 = none) (h67 : w 67 = none) (h68 : w 68 = none) (hl : l.stackTraces = false) {k18 : Nat → Int → Int → Int → qSt → Option Unit} (hk18 : ∀ (kc : Nat) (x2 : Int) (x3 : Int) (x6 : Int) (σ : qSt), qS p l e room_1 s m #[Value.ref b] below meth c 22 g s.heap.size w kc (21800 + 6 * kc) (fun _ => lw_Z below #[Value.ref b] s) (k18 kc x2 x3 x6 σ) σ 18 [(0, some (.ref b)), (1, some (.ref (ad 0))), (2, some (.int (qI x2))), (3, some (.int (qI x3))), (6, some (.int (qI x6)))] []) (kc : Nat) (x3 : Int) (x6 : Int) (x7 : Int) (x8 : Int) (s0 : Int) (σ : qSt) : qS p l e room_1 s m #[Value.ref b] below meth c 22 g s.heap.size w kc (21800 + 6 * kc) (fun _ => lw_Z below #[Value.ref b] s) (fL_law_c1089 L xs k18 kc x3 x6 x7 x8 s0 σ) σ 1089 [(0, some (.ref b)), (1, some (.ref (ad 0))), (3, some (.int (qI x3))), (6, some (.int (qI x6))), (7, some (.int (qI x7))), (8, some (.int (qI x8)))] [.int (qI s0)] := by
  unfold fL_law_c1089
  refine r_qif (fun hkc => ?_)
  refine r_istore_n (pc := 1089) cx dL_law_1089 (by decide) rfl ?_
  refine r_goto (pc := 1090) (tgt := 1115) cx dL_law_1090 (by decide) ?_
  exact qS.sub (qsub_cons rfl (qsub_cons rfl (qsub_cons rfl (qsub_cons rfl (qsub_cons rfl (qsub_cons rfl (qsub_cons rfl (qsub_nil _)))))))) (tL_law_c1115 cx hX hB h66 h67 h68 hl hk18 _ _ _ _ _ _ _)
def fL_law_c1088 (L : Nat) (xs : Nat → Int32) (k18 : Nat → Int → Int → Int → qSt → Option Unit) (kc : Nat) (x3 : Int) (x6 : Int) (x7 : Int) (x8 : Int) (σ : qSt) : Option Unit :=
  (qif (kc + 0 ≤ 400000) (fL_law_c1089 L xs k18 kc x3 x6 x7 x8 0 σ))
set_option maxRecDepth 100000 in
set_option maxHeartbeats 4000000 in
theorem tL_law_c1088 {p : Program} {l : Launch} {e : Env} {s : State} {m : MethodId} {below : List Frame} {meth : Method} {c : Code} {g : qG} {w : qWd} {ad : Nat → Nat} {b L : Nat} {xs : Nat → Int32} (cx : qCx p s m meth c cL_law 22 RL (some .boolean) g s.heap.size) (hX : qScr b L xs s.heap.size s) (hB : qBC g ad w) (h66 : w 66 = none) (h67 : w 67 = none) (h68 : w 68 = none) (hl : l.stackTraces = false) {k18 : Nat → Int → Int → Int → qSt → Option Unit} (hk18 : ∀ (kc : Nat) (x2 : Int) (x3 : Int) (x6 : Int) (σ : qSt), qS p l e room_1 s m #[Value.ref b] below meth c 22 g s.heap.size w kc (21800 + 6 * kc) (fun _ => lw_Z below #[Value.ref b] s) (k18 kc x2 x3 x6 σ) σ 18 [(0, some (.ref b)), (1, some (.ref (ad 0))), (2, some (.int (qI x2))), (3, some (.int (qI x3))), (6, some (.int (qI x6)))] []) (kc : Nat) (x3 : Int) (x6 : Int) (x7 : Int) (x8 : Int) (σ : qSt) : qS p l e room_1 s m #[Value.ref b] below meth c 22 g s.heap.size w kc (21800 + 6 * kc) (fun _ => lw_Z below #[Value.ref b] s) (fL_law_c1088 L xs k18 kc x3 x6 x7 x8 σ) σ 1088 [(0, some (.ref b)), (1, some (.ref (ad 0))), (3, some (.int (qI x3))), (6, some (.int (qI x6))), (7, some (.int (qI x7))), (8, some (.int (qI x8)))] [] := by
  unfold fL_law_c1088
  refine r_qif (fun hkc => ?_)
  refine r_iconst (pc := 1088) cx dL_law_1088 ?_
  exact qS.sub (qsub_cons rfl (qsub_cons rfl (qsub_cons rfl (qsub_cons rfl (qsub_cons rfl (qsub_cons rfl (qsub_nil _))))))) (tL_law_c1089 cx hX hB h66 h67 h68 hl hk18 _ _ _ _ _ _ _)
def fL_law_c1063 (L : Nat) (xs : Nat → Int32) (k18 : Nat → Int → Int → Int → qSt → Option Unit) (kc : Nat) (x3 : Int) (x6 : Int) (x7 : Int) (x8 : Int) (x15 : Int) (x18 : Int) (s0 : Int) (σ : qSt) : Option Unit :=
  (qif (kc + 1 ≤ 400000) (if qI s0 = 0 then (fL_law_c1088 L xs k18 kc x3 x6 x7 x8 σ) else (qbd (fL_step x15 σ) fun (r1071 : Int) (σ63 : qSt) => (if qI (qlcmp r1071 (x18 + (qi2l x15))) = 0 then (fL_law_c1089 L xs k18 (kc + 1) x3 x6 x7 x8 1 σ63) else (fL_law_c1088 L xs k18 (kc + 1) x3 x6 x7 x8 σ63)))))
set_option maxRecDepth 100000 in
set_option maxHeartbeats 4000000 in
theorem tL_law_c1063 {p : Program} {l : Launch} {e : Env} {s : State} {m : MethodId} {below : List Frame} {meth : Method} {c : Code} {g : qG} {w : qWd} {ad : Nat → Nat} {b L : Nat} {xs : Nat → Int32} (cx : qCx p s m meth c cL_law 22 RL (some .boolean) g s.heap.size) (hX : qScr b L xs s.heap.size s) (hB : qBC g ad w) (h66 : w 66 = none) (h67 : w 67 = none) (h68 : w 68 = none) (hl : l.stackTraces = false) {k18 : Nat → Int → Int → Int → qSt → Option Unit} (hk18 : ∀ (kc : Nat) (x2 : Int) (x3 : Int) (x6 : Int) (σ : qSt), qS p l e room_1 s m #[Value.ref b] below meth c 22 g s.heap.size w kc (21800 + 6 * kc) (fun _ => lw_Z below #[Value.ref b] s) (k18 kc x2 x3 x6 σ) σ 18 [(0, some (.ref b)), (1, some (.ref (ad 0))), (2, some (.int (qI x2))), (3, some (.int (qI x3))), (6, some (.int (qI x6)))] []) (kc : Nat) (x3 : Int) (x6 : Int) (x7 : Int) (x8 : Int) (x15 : Int) (x18 : Int) (s0 : Int) (σ : qSt) : qS p l e room_1 s m #[Value.ref b] below meth c 22 g s.heap.size w kc (21800 + 6 * kc) (fun _ => lw_Z below #[Value.ref b] s) (fL_law_c1063 L xs k18 kc x3 x6 x7 x8 x15 x18 s0 σ) σ 1063 [(0, some (.ref b)), (1, some (.ref (ad 0))), (3, some (.int (qI x3))), (6, some (.int (qI x6))), (7, some (.int (qI x7))), (8, some (.int (qI x8))), (15, some (.int (qI x15))), (18, some (.long (qJ x18)))] [.int (qI s0)] := by
  unfold fL_law_c1063
  refine r_qif (fun hkc => ?_)
  refine r_istore_n (pc := 1063) cx dL_law_1063 (by decide) rfl ?_
  refine r_iload_n (pc := 1064) cx dL_law_1064 rfl ?_
  refine r_if_eq (tgt := 1088) cx dL_law_1065 (by decide) ?_ ?_
  · exact qS.sub (qsub_cons rfl (qsub_cons rfl (qsub_cons rfl (qsub_cons rfl (qsub_cons rfl (qsub_cons rfl (qsub_nil _))))))) (tL_law_c1088 cx hX hB h66 h67 h68 hl hk18 _ _ _ _ _ _)
  · refine r_aload_n (pc := 1068) cx dL_law_1068 rfl ?_
    refine r_iload (pc := 1069) cx dL_law_1069 rfl ?_
    refine r_wj (pc := 1071) (nb := 21800) (k := kc) (mc := 1) (Mx := 400000) cx (tL_step hB h66 h67 h68 hl x15 σ) qmh_L_step wm_L_161 dL_law_1071 rfl rfl (Nat.le_of_ble_eq_true rfl) ⟨Nat.le_of_ble_eq_true rfl, Nat.le_of_ble_eq_true rfl⟩ ⟨Nat.le_of_ble_eq_true rfl, Nat.le_of_ble_eq_true rfl⟩ ⟨Nat.le_of_ble_eq_true rfl, Nat.le_of_ble_eq_true rfl⟩ (by omega) (fun r1071 σ63 => ?_)
    refine r_lload (pc := 1074) cx dL_law_1074 rfl ?_
    refine r_iload (pc := 1076) cx dL_law_1076 rfl ?_
    refine r_i2l (pc := 1078) cx dL_law_1078 ?_
    refine r_ladd (pc := 1079) cx dL_law_1079 ?_
    refine r_lcmp (pc := 1080) cx dL_law_1080 ?_
    refine r_if_ne (tgt := 1088) cx dL_law_1081 (by decide) ?_ ?_
    · exact qS.sub (qsub_cons rfl (qsub_cons rfl (qsub_cons rfl (qsub_cons rfl (qsub_cons rfl (qsub_cons rfl (qsub_nil _))))))) (tL_law_c1088 cx hX hB h66 h67 h68 hl hk18 _ _ _ _ _ _)
    · refine r_iconst (pc := 1084) cx dL_law_1084 ?_
      refine r_goto (pc := 1085) (tgt := 1089) cx dL_law_1085 (by decide) ?_
      exact qS.sub (qsub_cons rfl (qsub_cons rfl (qsub_cons rfl (qsub_cons rfl (qsub_cons rfl (qsub_cons rfl (qsub_nil _))))))) (tL_law_c1089 cx hX hB h66 h67 h68 hl hk18 _ _ _ _ _ _ _)
def fL_law_c1062 (L : Nat) (xs : Nat → Int32) (k18 : Nat → Int → Int → Int → qSt → Option Unit) (kc : Nat) (x3 : Int) (x6 : Int) (x7 : Int) (x8 : Int) (x15 : Int) (x18 : Int) (σ : qSt) : Option Unit :=
  (qif (kc + 0 ≤ 400000) (fL_law_c1063 L xs k18 kc x3 x6 x7 x8 x15 x18 0 σ))
set_option maxRecDepth 100000 in
set_option maxHeartbeats 4000000 in
theorem tL_law_c1062 {p : Program} {l : Launch} {e : Env} {s : State} {m : MethodId} {below : List Frame} {meth : Method} {c : Code} {g : qG} {w : qWd} {ad : Nat → Nat} {b L : Nat} {xs : Nat → Int32} (cx : qCx p s m meth c cL_law 22 RL (some .boolean) g s.heap.size) (hX : qScr b L xs s.heap.size s) (hB : qBC g ad w) (h66 : w 66 = none) (h67 : w 67 = none) (h68 : w 68 = none) (hl : l.stackTraces = false) {k18 : Nat → Int → Int → Int → qSt → Option Unit} (hk18 : ∀ (kc : Nat) (x2 : Int) (x3 : Int) (x6 : Int) (σ : qSt), qS p l e room_1 s m #[Value.ref b] below meth c 22 g s.heap.size w kc (21800 + 6 * kc) (fun _ => lw_Z below #[Value.ref b] s) (k18 kc x2 x3 x6 σ) σ 18 [(0, some (.ref b)), (1, some (.ref (ad 0))), (2, some (.int (qI x2))), (3, some (.int (qI x3))), (6, some (.int (qI x6)))] []) (kc : Nat) (x3 : Int) (x6 : Int) (x7 : Int) (x8 : Int) (x15 : Int) (x18 : Int) (σ : qSt) : qS p l e room_1 s m #[Value.ref b] below meth c 22 g s.heap.size w kc (21800 + 6 * kc) (fun _ => lw_Z below #[Value.ref b] s) (fL_law_c1062 L xs k18 kc x3 x6 x7 x8 x15 x18 σ) σ 1062 [(0, some (.ref b)), (1, some (.ref (ad 0))), (3, some (.int (qI x3))), (6, some (.int (qI x6))), (7, some (.int (qI x7))), (8, some (.int (qI x8))), (15, some (.int (qI x15))), (18, some (.long (qJ x18)))] [] := by
  unfold fL_law_c1062
  refine r_qif (fun hkc => ?_)
  refine r_iconst (pc := 1062) cx dL_law_1062 ?_
  exact qS.sub (qsub_cons rfl (qsub_cons rfl (qsub_cons rfl (qsub_cons rfl (qsub_cons rfl (qsub_cons rfl (qsub_cons rfl (qsub_cons rfl (qsub_nil _))))))))) (tL_law_c1063 cx hX hB h66 h67 h68 hl hk18 _ _ _ _ _ _ _ _ _)
def fL_law_c999 (L : Nat) (xs : Nat → Int32) (k18 : Nat → Int → Int → Int → qSt → Option Unit) (kc : Nat) (x3 : Int) (x6 : Int) (x7 : Int) (x8 : Int) (x11 : Int) (x15 : Int) (x16 : Int) (x18 : Int) (x20 : Int) (s0 : Int) (σ : qSt) : Option Unit :=
  (qif (kc + 704 ≤ 400000) (qbd (fL_sum 1 σ) fun (r1002 : Int) (σ53 : qSt) => (if qI (qlcmp r1002 0) ≤ 0 then (if qI s0 = 0 then (fL_law_c1113 L xs k18 (kc + 1) x3 x6 x7 x8 σ53) else (qbd (fL_back 1 σ53) fun (r1099 : Int) (σ54 : qSt) => (if qI (qlcmp r1099 (-9000000000000000003)) = 0 then (fL_law_c1114 L xs k18 ((kc + 1) + 1) x3 x6 x7 x8 1 σ54) else (fL_law_c1113 L xs k18 ((kc + 1) + 1) x3 x6 x7 x8 σ54)))) else (if qI s0 = 0 then (fL_law_c1062 L xs k18 (kc + 1) x3 x6 x7 x8 x15 x18 σ53) else (qbd (fL_sum 2 σ53) fun (r1016 : Int) (σ55 : qSt) => (if qI (qlcmp r1016 x20) = 0 then (qbd (fL_back x15 σ55) fun (r1028 : Int) (σ56 : qSt) => (if qI (qlcmp r1028 x18) = 0 then (qbd (fL_mark σ56) fun (r1038 : Int) (σ57 : qSt) => (if qI (qlcmp r1038 x16) = 0 then (qbd (fL_sum 1 σ57) fun (r1049 : Int) (σ58 : qSt) => (if qI (qlcmp r1049 x11) = 0 then (fL_law_c1063 L xs k18 (((((kc + 1) + 1) + 1) + 700) + 1) x3 x6 x7 x8 x15 x18 1 σ58) else (fL_law_c1062 L xs k18 (((((kc + 1) + 1) + 1) + 700) + 1) x3 x6 x7 x8 x15 x18 σ58))) else (fL_law_c1062 L xs k18 ((((kc + 1) + 1) + 1) + 700) x3 x6 x7 x8 x15 x18 σ57))) else (fL_law_c1062 L xs k18 (((kc + 1) + 1) + 1) x3 x6 x7 x8 x15 x18 σ56))) else (fL_law_c1062 L xs k18 ((kc + 1) + 1) x3 x6 x7 x8 x15 x18 σ55)))))))
set_option maxRecDepth 100000 in
set_option maxHeartbeats 4000000 in
theorem tL_law_c999 {p : Program} {l : Launch} {e : Env} {s : State} {m : MethodId} {below : List Frame} {meth : Method} {c : Code} {g : qG} {w : qWd} {ad : Nat → Nat} {b L : Nat} {xs : Nat → Int32} (cx : qCx p s m meth c cL_law 22 RL (some .boolean) g s.heap.size) (hX : qScr b L xs s.heap.size s) (hB : qBC g ad w) (h66 : w 66 = none) (h67 : w 67 = none) (h68 : w 68 = none) (hl : l.stackTraces = false) {k18 : Nat → Int → Int → Int → qSt → Option Unit} (hk18 : ∀ (kc : Nat) (x2 : Int) (x3 : Int) (x6 : Int) (σ : qSt), qS p l e room_1 s m #[Value.ref b] below meth c 22 g s.heap.size w kc (21800 + 6 * kc) (fun _ => lw_Z below #[Value.ref b] s) (k18 kc x2 x3 x6 σ) σ 18 [(0, some (.ref b)), (1, some (.ref (ad 0))), (2, some (.int (qI x2))), (3, some (.int (qI x3))), (6, some (.int (qI x6)))] []) (kc : Nat) (x3 : Int) (x6 : Int) (x7 : Int) (x8 : Int) (x11 : Int) (x15 : Int) (x16 : Int) (x18 : Int) (x20 : Int) (s0 : Int) (σ : qSt) : qS p l e room_1 s m #[Value.ref b] below meth c 22 g s.heap.size w kc (21800 + 6 * kc) (fun _ => lw_Z below #[Value.ref b] s) (fL_law_c999 L xs k18 kc x3 x6 x7 x8 x11 x15 x16 x18 x20 s0 σ) σ 999 [(0, some (.ref b)), (1, some (.ref (ad 0))), (3, some (.int (qI x3))), (6, some (.int (qI x6))), (7, some (.int (qI x7))), (8, some (.int (qI x8))), (11, some (.long (qJ x11))), (15, some (.int (qI x15))), (16, some (.long (qJ x16))), (18, some (.long (qJ x18))), (20, some (.long (qJ x20)))] [.int (qI s0)] := by
  unfold fL_law_c999
  refine r_qif (fun hkc => ?_)
  refine r_istore_n (pc := 999) cx dL_law_999 (by decide) rfl ?_
  refine r_aload_n (pc := 1000) cx dL_law_1000 rfl ?_
  refine r_iconst (pc := 1001) cx dL_law_1001 ?_
  refine r_wj (pc := 1002) (nb := 21800) (k := kc) (mc := 1) (Mx := 400000) cx (tL_sum hB h66 h67 h68 hl 1 σ) qmh_L_sum wm_L_114 dL_law_1002 rfl rfl (Nat.le_of_ble_eq_true rfl) ⟨Nat.le_of_ble_eq_true rfl, Nat.le_of_ble_eq_true rfl⟩ ⟨Nat.le_of_ble_eq_true rfl, Nat.le_of_ble_eq_true rfl⟩ ⟨Nat.le_of_ble_eq_true rfl, Nat.le_of_ble_eq_true rfl⟩ (by omega) (fun r1002 σ53 => ?_)
  refine r_lconst (pc := 1005) (z := 0) cx dL_law_1005 (by decide +kernel) ?_
  refine r_lcmp (pc := 1006) cx dL_law_1006 ?_
  refine r_if_le (tgt := 1093) cx dL_law_1007 (by decide) ?_ ?_
  · refine r_iload_n (pc := 1093) cx dL_law_1093 rfl ?_
    refine r_if_eq (tgt := 1113) cx dL_law_1094 (by decide) ?_ ?_
    · exact qS.sub (qsub_cons rfl (qsub_cons rfl (qsub_cons rfl (qsub_cons rfl (qsub_cons rfl (qsub_cons rfl (qsub_nil _))))))) (tL_law_c1113 cx hX hB h66 h67 h68 hl hk18 _ _ _ _ _ _)
    · refine r_aload_n (pc := 1097) cx dL_law_1097 rfl ?_
      refine r_iconst (pc := 1098) cx dL_law_1098 ?_
      refine r_wj (pc := 1099) (nb := 21800) (k := (kc + 1)) (mc := 1) (Mx := 400000) cx (tL_back hB h66 h67 h68 hl 1 σ53) qmh_L_back wm_L_163 dL_law_1099 rfl rfl (Nat.le_of_ble_eq_true rfl) ⟨Nat.le_of_ble_eq_true rfl, Nat.le_of_ble_eq_true rfl⟩ ⟨Nat.le_of_ble_eq_true rfl, Nat.le_of_ble_eq_true rfl⟩ ⟨Nat.le_of_ble_eq_true rfl, Nat.le_of_ble_eq_true rfl⟩ (by omega) (fun r1099 σ54 => ?_)
      refine r_ldc2 (pc := 1102) (v := (-9000000000000000003)) cx dL_law_1102 wq_L_21 ?_
      refine r_lcmp (pc := 1105) cx dL_law_1105 ?_
      refine r_if_ne (tgt := 1113) cx dL_law_1106 (by decide) ?_ ?_
      · exact qS.sub (qsub_cons rfl (qsub_cons rfl (qsub_cons rfl (qsub_cons rfl (qsub_cons rfl (qsub_cons rfl (qsub_nil _))))))) (tL_law_c1113 cx hX hB h66 h67 h68 hl hk18 _ _ _ _ _ _)
      · refine r_iconst (pc := 1109) cx dL_law_1109 ?_
        refine r_goto (pc := 1110) (tgt := 1114) cx dL_law_1110 (by decide) ?_
        exact qS.sub (qsub_cons rfl (qsub_cons rfl (qsub_cons rfl (qsub_cons rfl (qsub_cons rfl (qsub_cons rfl (qsub_nil _))))))) (tL_law_c1114 cx hX hB h66 h67 h68 hl hk18 _ _ _ _ _ _ _)
  · refine r_iload_n (pc := 1010) cx dL_law_1010 rfl ?_
    refine r_if_eq (tgt := 1062) cx dL_law_1011 (by decide) ?_ ?_
    · exact qS.sub (qsub_cons rfl (qsub_cons rfl (qsub_cons rfl (qsub_cons rfl (qsub_cons rfl (qsub_cons rfl (qsub_cons rfl (qsub_cons rfl (qsub_nil _))))))))) (tL_law_c1062 cx hX hB h66 h67 h68 hl hk18 _ _ _ _ _ _ _ _)
    · refine r_aload_n (pc := 1014) cx dL_law_1014 rfl ?_
      refine r_iconst (pc := 1015) cx dL_law_1015 ?_
      refine r_wj (pc := 1016) (nb := 21800) (k := (kc + 1)) (mc := 1) (Mx := 400000) cx (tL_sum hB h66 h67 h68 hl 2 σ53) qmh_L_sum wm_L_114 dL_law_1016 rfl rfl (Nat.le_of_ble_eq_true rfl) ⟨Nat.le_of_ble_eq_true rfl, Nat.le_of_ble_eq_true rfl⟩ ⟨Nat.le_of_ble_eq_true rfl, Nat.le_of_ble_eq_true rfl⟩ ⟨Nat.le_of_ble_eq_true rfl, Nat.le_of_ble_eq_true rfl⟩ (by omega) (fun r1016 σ55 => ?_)
      refine r_lload (pc := 1019) cx dL_law_1019 rfl ?_
      refine r_lcmp (pc := 1021) cx dL_law_1021 ?_
      refine r_if_ne (tgt := 1062) cx dL_law_1022 (by decide) ?_ ?_
      · exact qS.sub (qsub_cons rfl (qsub_cons rfl (qsub_cons rfl (qsub_cons rfl (qsub_cons rfl (qsub_cons rfl (qsub_cons rfl (qsub_cons rfl (qsub_nil _))))))))) (tL_law_c1062 cx hX hB h66 h67 h68 hl hk18 _ _ _ _ _ _ _ _)
      · refine r_aload_n (pc := 1025) cx dL_law_1025 rfl ?_
        refine r_iload (pc := 1026) cx dL_law_1026 rfl ?_
        refine r_wj (pc := 1028) (nb := 21800) (k := ((kc + 1) + 1)) (mc := 1) (Mx := 400000) cx (tL_back hB h66 h67 h68 hl x15 σ55) qmh_L_back wm_L_163 dL_law_1028 rfl rfl (Nat.le_of_ble_eq_true rfl) ⟨Nat.le_of_ble_eq_true rfl, Nat.le_of_ble_eq_true rfl⟩ ⟨Nat.le_of_ble_eq_true rfl, Nat.le_of_ble_eq_true rfl⟩ ⟨Nat.le_of_ble_eq_true rfl, Nat.le_of_ble_eq_true rfl⟩ (by omega) (fun r1028 σ56 => ?_)
        refine r_lload (pc := 1031) cx dL_law_1031 rfl ?_
        refine r_lcmp (pc := 1033) cx dL_law_1033 ?_
        refine r_if_ne (tgt := 1062) cx dL_law_1034 (by decide) ?_ ?_
        · exact qS.sub (qsub_cons rfl (qsub_cons rfl (qsub_cons rfl (qsub_cons rfl (qsub_cons rfl (qsub_cons rfl (qsub_cons rfl (qsub_cons rfl (qsub_nil _))))))))) (tL_law_c1062 cx hX hB h66 h67 h68 hl hk18 _ _ _ _ _ _ _ _)
        · refine r_aload_n (pc := 1037) cx dL_law_1037 rfl ?_
          refine r_sj (pc := 1038) (nb := 21800) (k := (((kc + 1) + 1) + 1)) (mc := 700) (Mx := 400000) cx (tL_mark hB h66 h67 h68 hl σ56) qm_L_mark qs_L_mark wm_L_140 dL_law_1038 rfl rfl (Nat.le_of_ble_eq_true rfl) ⟨Nat.le_of_ble_eq_true rfl, Nat.le_of_ble_eq_true rfl⟩ ⟨Nat.le_of_ble_eq_true rfl, Nat.le_of_ble_eq_true rfl⟩ ⟨Nat.le_of_ble_eq_true rfl, Nat.le_of_ble_eq_true rfl⟩ (by omega) (fun r1038 σ57 => ?_)
          refine r_lload (pc := 1041) cx dL_law_1041 rfl ?_
          refine r_lcmp (pc := 1043) cx dL_law_1043 ?_
          refine r_if_ne (tgt := 1062) cx dL_law_1044 (by decide) ?_ ?_
          · exact qS.sub (qsub_cons rfl (qsub_cons rfl (qsub_cons rfl (qsub_cons rfl (qsub_cons rfl (qsub_cons rfl (qsub_cons rfl (qsub_cons rfl (qsub_nil _))))))))) (tL_law_c1062 cx hX hB h66 h67 h68 hl hk18 _ _ _ _ _ _ _ _)
          · refine r_aload_n (pc := 1047) cx dL_law_1047 rfl ?_
            refine r_iconst (pc := 1048) cx dL_law_1048 ?_
            refine r_wj (pc := 1049) (nb := 21800) (k := ((((kc + 1) + 1) + 1) + 700)) (mc := 1) (Mx := 400000) cx (tL_sum hB h66 h67 h68 hl 1 σ57) qmh_L_sum wm_L_114 dL_law_1049 rfl rfl (Nat.le_of_ble_eq_true rfl) ⟨Nat.le_of_ble_eq_true rfl, Nat.le_of_ble_eq_true rfl⟩ ⟨Nat.le_of_ble_eq_true rfl, Nat.le_of_ble_eq_true rfl⟩ ⟨Nat.le_of_ble_eq_true rfl, Nat.le_of_ble_eq_true rfl⟩ (by omega) (fun r1049 σ58 => ?_)
            refine r_lload (pc := 1052) cx dL_law_1052 rfl ?_
            refine r_lcmp (pc := 1054) cx dL_law_1054 ?_
            refine r_if_ne (tgt := 1062) cx dL_law_1055 (by decide) ?_ ?_
            · exact qS.sub (qsub_cons rfl (qsub_cons rfl (qsub_cons rfl (qsub_cons rfl (qsub_cons rfl (qsub_cons rfl (qsub_cons rfl (qsub_cons rfl (qsub_nil _))))))))) (tL_law_c1062 cx hX hB h66 h67 h68 hl hk18 _ _ _ _ _ _ _ _)
            · refine r_iconst (pc := 1058) cx dL_law_1058 ?_
              refine r_goto (pc := 1059) (tgt := 1063) cx dL_law_1059 (by decide) ?_
              exact qS.sub (qsub_cons rfl (qsub_cons rfl (qsub_cons rfl (qsub_cons rfl (qsub_cons rfl (qsub_cons rfl (qsub_cons rfl (qsub_cons rfl (qsub_nil _))))))))) (tL_law_c1063 cx hX hB h66 h67 h68 hl hk18 _ _ _ _ _ _ _ _ _)
def fL_law_c998 (L : Nat) (xs : Nat → Int32) (k18 : Nat → Int → Int → Int → qSt → Option Unit) (kc : Nat) (x3 : Int) (x6 : Int) (x7 : Int) (x8 : Int) (x11 : Int) (x15 : Int) (x16 : Int) (x18 : Int) (x20 : Int) (σ : qSt) : Option Unit :=
  (qif (kc + 0 ≤ 400000) (fL_law_c999 L xs k18 kc x3 x6 x7 x8 x11 x15 x16 x18 x20 0 σ))
set_option maxRecDepth 100000 in
set_option maxHeartbeats 4000000 in
theorem tL_law_c998 {p : Program} {l : Launch} {e : Env} {s : State} {m : MethodId} {below : List Frame} {meth : Method} {c : Code} {g : qG} {w : qWd} {ad : Nat → Nat} {b L : Nat} {xs : Nat → Int32} (cx : qCx p s m meth c cL_law 22 RL (some .boolean) g s.heap.size) (hX : qScr b L xs s.heap.size s) (hB : qBC g ad w) (h66 : w 66 = none) (h67 : w 67 = none) (h68 : w 68 = none) (hl : l.stackTraces = false) {k18 : Nat → Int → Int → Int → qSt → Option Unit} (hk18 : ∀ (kc : Nat) (x2 : Int) (x3 : Int) (x6 : Int) (σ : qSt), qS p l e room_1 s m #[Value.ref b] below meth c 22 g s.heap.size w kc (21800 + 6 * kc) (fun _ => lw_Z below #[Value.ref b] s) (k18 kc x2 x3 x6 σ) σ 18 [(0, some (.ref b)), (1, some (.ref (ad 0))), (2, some (.int (qI x2))), (3, some (.int (qI x3))), (6, some (.int (qI x6)))] []) (kc : Nat) (x3 : Int) (x6 : Int) (x7 : Int) (x8 : Int) (x11 : Int) (x15 : Int) (x16 : Int) (x18 : Int) (x20 : Int) (σ : qSt) : qS p l e room_1 s m #[Value.ref b] below meth c 22 g s.heap.size w kc (21800 + 6 * kc) (fun _ => lw_Z below #[Value.ref b] s) (fL_law_c998 L xs k18 kc x3 x6 x7 x8 x11 x15 x16 x18 x20 σ) σ 998 [(0, some (.ref b)), (1, some (.ref (ad 0))), (3, some (.int (qI x3))), (6, some (.int (qI x6))), (7, some (.int (qI x7))), (8, some (.int (qI x8))), (11, some (.long (qJ x11))), (15, some (.int (qI x15))), (16, some (.long (qJ x16))), (18, some (.long (qJ x18))), (20, some (.long (qJ x20)))] [] := by
  unfold fL_law_c998
  refine r_qif (fun hkc => ?_)
  refine r_iconst (pc := 998) cx dL_law_998 ?_
  exact qS.sub (qsub_cons rfl (qsub_cons rfl (qsub_cons rfl (qsub_cons rfl (qsub_cons rfl (qsub_cons rfl (qsub_cons rfl (qsub_cons rfl (qsub_cons rfl (qsub_cons rfl (qsub_cons rfl (qsub_nil _)))))))))))) (tL_law_c999 cx hX hB h66 h67 h68 hl hk18 _ _ _ _ _ _ _ _ _ _ _ _)
def fL_law_c994 (L : Nat) (xs : Nat → Int32) (k18 : Nat → Int → Int → Int → qSt → Option Unit) (kc : Nat) (x3 : Int) (x6 : Int) (x7 : Int) (x8 : Int) (x11 : Int) (x15 : Int) (x16 : Int) (x18 : Int) (x20 : Int) (σ : qSt) : Option Unit :=
  (qif (kc + 0 ≤ 400000) (fL_law_c999 L xs k18 kc x3 x6 x7 x8 x11 x15 x16 x18 x20 1 σ))
set_option maxRecDepth 100000 in
set_option maxHeartbeats 4000000 in
theorem tL_law_c994 {p : Program} {l : Launch} {e : Env} {s : State} {m : MethodId} {below : List Frame} {meth : Method} {c : Code} {g : qG} {w : qWd} {ad : Nat → Nat} {b L : Nat} {xs : Nat → Int32} (cx : qCx p s m meth c cL_law 22 RL (some .boolean) g s.heap.size) (hX : qScr b L xs s.heap.size s) (hB : qBC g ad w) (h66 : w 66 = none) (h67 : w 67 = none) (h68 : w 68 = none) (hl : l.stackTraces = false) {k18 : Nat → Int → Int → Int → qSt → Option Unit} (hk18 : ∀ (kc : Nat) (x2 : Int) (x3 : Int) (x6 : Int) (σ : qSt), qS p l e room_1 s m #[Value.ref b] below meth c 22 g s.heap.size w kc (21800 + 6 * kc) (fun _ => lw_Z below #[Value.ref b] s) (k18 kc x2 x3 x6 σ) σ 18 [(0, some (.ref b)), (1, some (.ref (ad 0))), (2, some (.int (qI x2))), (3, some (.int (qI x3))), (6, some (.int (qI x6)))] []) (kc : Nat) (x3 : Int) (x6 : Int) (x7 : Int) (x8 : Int) (x11 : Int) (x15 : Int) (x16 : Int) (x18 : Int) (x20 : Int) (σ : qSt) : qS p l e room_1 s m #[Value.ref b] below meth c 22 g s.heap.size w kc (21800 + 6 * kc) (fun _ => lw_Z below #[Value.ref b] s) (fL_law_c994 L xs k18 kc x3 x6 x7 x8 x11 x15 x16 x18 x20 σ) σ 994 [(0, some (.ref b)), (1, some (.ref (ad 0))), (3, some (.int (qI x3))), (6, some (.int (qI x6))), (7, some (.int (qI x7))), (8, some (.int (qI x8))), (11, some (.long (qJ x11))), (15, some (.int (qI x15))), (16, some (.long (qJ x16))), (18, some (.long (qJ x18))), (20, some (.long (qJ x20)))] [] := by
  unfold fL_law_c994
  refine r_qif (fun hkc => ?_)
  refine r_iconst (pc := 994) cx dL_law_994 ?_
  refine r_goto (pc := 995) (tgt := 999) cx dL_law_995 (by decide) ?_
  exact qS.sub (qsub_cons rfl (qsub_cons rfl (qsub_cons rfl (qsub_cons rfl (qsub_cons rfl (qsub_cons rfl (qsub_cons rfl (qsub_cons rfl (qsub_cons rfl (qsub_cons rfl (qsub_cons rfl (qsub_nil _)))))))))))) (tL_law_c999 cx hX hB h66 h67 h68 hl hk18 _ _ _ _ _ _ _ _ _ _ _ _)
def fL_law_c924 (L : Nat) (xs : Nat → Int32) (k18 : Nat → Int → Int → Int → qSt → Option Unit) (kc : Nat) (x3 : Int) (x6 : Int) (x7 : Int) (x8 : Int) (x11 : Int) (σ : qSt) : Option Unit :=
  (qif (kc + 705 ≤ 400000) (qb (1 + (qrem x8 6)) fun (y9 : Int) => (qbd (fL_mark σ) fun (r934 : Int) (σ10 : qSt) => (qbd (fL_sum 0 σ10) fun (r941 : Int) (σ11 : qSt) => (qbd (fL_sum 2 σ11) fun (r948 : Int) (σ12 : qSt) => (qbd (fL_step y9 σ12) fun (r956 : Int) (σ13 : qSt) => (if qI (qlcmp r956 (r941 + (qi2l y9))) = 0 then (qbd (fL_sum 1 σ13) fun (r971 : Int) (σ14 : qSt) => (if qI (qlcmp r971 (x11 + (qi2l y9))) = 0 then (fL_law_c994 L xs k18 (((((kc + 700) + 1) + 1) + 1) + 1) x3 x6 x7 x8 x11 y9 r934 r941 r948 σ14) else (qbd (fL_sum 1 σ14) fun (r986 : Int) (σ15 : qSt) => (if qI (qlcmp r986 0) = 0 then (fL_law_c994 L xs k18 ((((((kc + 700) + 1) + 1) + 1) + 1) + 1) x3 x6 x7 x8 x11 y9 r934 r941 r948 σ15) else (fL_law_c998 L xs k18 ((((((kc + 700) + 1) + 1) + 1) + 1) + 1) x3 x6 x7 x8 x11 y9 r934 r941 r948 σ15))))) else (fL_law_c998 L xs k18 ((((kc + 700) + 1) + 1) + 1) x3 x6 x7 x8 x11 y9 r934 r941 r948 σ13))))))))
set_option maxRecDepth 100000 in
set_option maxHeartbeats 4000000 in
theorem tL_law_c924 {p : Program} {l : Launch} {e : Env} {s : State} {m : MethodId} {below : List Frame} {meth : Method} {c : Code} {g : qG} {w : qWd} {ad : Nat → Nat} {b L : Nat} {xs : Nat → Int32} (cx : qCx p s m meth c cL_law 22 RL (some .boolean) g s.heap.size) (hX : qScr b L xs s.heap.size s) (hB : qBC g ad w) (h66 : w 66 = none) (h67 : w 67 = none) (h68 : w 68 = none) (hl : l.stackTraces = false) {k18 : Nat → Int → Int → Int → qSt → Option Unit} (hk18 : ∀ (kc : Nat) (x2 : Int) (x3 : Int) (x6 : Int) (σ : qSt), qS p l e room_1 s m #[Value.ref b] below meth c 22 g s.heap.size w kc (21800 + 6 * kc) (fun _ => lw_Z below #[Value.ref b] s) (k18 kc x2 x3 x6 σ) σ 18 [(0, some (.ref b)), (1, some (.ref (ad 0))), (2, some (.int (qI x2))), (3, some (.int (qI x3))), (6, some (.int (qI x6)))] []) (kc : Nat) (x3 : Int) (x6 : Int) (x7 : Int) (x8 : Int) (x11 : Int) (σ : qSt) : qS p l e room_1 s m #[Value.ref b] below meth c 22 g s.heap.size w kc (21800 + 6 * kc) (fun _ => lw_Z below #[Value.ref b] s) (fL_law_c924 L xs k18 kc x3 x6 x7 x8 x11 σ) σ 924 [(0, some (.ref b)), (1, some (.ref (ad 0))), (3, some (.int (qI x3))), (6, some (.int (qI x6))), (7, some (.int (qI x7))), (8, some (.int (qI x8))), (11, some (.long (qJ x11)))] [] := by
  unfold fL_law_c924
  refine r_qif (fun hkc => ?_)
  refine r_iconst (pc := 924) cx dL_law_924 ?_
  refine r_iload (pc := 925) cx dL_law_925 rfl ?_
  refine r_bipush (pc := 927) (v := 6) cx dL_law_927 (by decide +kernel) ?_
  refine r_irem (pc := 929) cx dL_law_929 (by decide +kernel) ?_
  refine r_iadd (pc := 930) cx dL_law_930 ?_
  refine r_nmi (fun y9 => ?_)
  refine r_istore (pc := 931) cx dL_law_931 (by decide) rfl ?_
  refine r_aload_n (pc := 933) cx dL_law_933 rfl ?_
  refine r_sj (pc := 934) (nb := 21800) (k := kc) (mc := 700) (Mx := 400000) cx (tL_mark hB h66 h67 h68 hl σ) qm_L_mark qs_L_mark wm_L_140 dL_law_934 rfl rfl (Nat.le_of_ble_eq_true rfl) ⟨Nat.le_of_ble_eq_true rfl, Nat.le_of_ble_eq_true rfl⟩ ⟨Nat.le_of_ble_eq_true rfl, Nat.le_of_ble_eq_true rfl⟩ ⟨Nat.le_of_ble_eq_true rfl, Nat.le_of_ble_eq_true rfl⟩ (by omega) (fun r934 σ10 => ?_)
  refine r_lstore (pc := 937) cx dL_law_937 (by decide) rfl ?_
  refine r_aload_n (pc := 939) cx dL_law_939 rfl ?_
  refine r_iconst (pc := 940) cx dL_law_940 ?_
  refine r_wj (pc := 941) (nb := 21800) (k := (kc + 700)) (mc := 1) (Mx := 400000) cx (tL_sum hB h66 h67 h68 hl 0 σ10) qmh_L_sum wm_L_114 dL_law_941 rfl rfl (Nat.le_of_ble_eq_true rfl) ⟨Nat.le_of_ble_eq_true rfl, Nat.le_of_ble_eq_true rfl⟩ ⟨Nat.le_of_ble_eq_true rfl, Nat.le_of_ble_eq_true rfl⟩ ⟨Nat.le_of_ble_eq_true rfl, Nat.le_of_ble_eq_true rfl⟩ (by omega) (fun r941 σ11 => ?_)
  refine r_lstore (pc := 944) cx dL_law_944 (by decide) rfl ?_
  refine r_aload_n (pc := 946) cx dL_law_946 rfl ?_
  refine r_iconst (pc := 947) cx dL_law_947 ?_
  refine r_wj (pc := 948) (nb := 21800) (k := ((kc + 700) + 1)) (mc := 1) (Mx := 400000) cx (tL_sum hB h66 h67 h68 hl 2 σ11) qmh_L_sum wm_L_114 dL_law_948 rfl rfl (Nat.le_of_ble_eq_true rfl) ⟨Nat.le_of_ble_eq_true rfl, Nat.le_of_ble_eq_true rfl⟩ ⟨Nat.le_of_ble_eq_true rfl, Nat.le_of_ble_eq_true rfl⟩ ⟨Nat.le_of_ble_eq_true rfl, Nat.le_of_ble_eq_true rfl⟩ (by omega) (fun r948 σ12 => ?_)
  refine r_lstore (pc := 951) cx dL_law_951 (by decide) rfl ?_
  refine r_aload_n (pc := 953) cx dL_law_953 rfl ?_
  refine r_iload (pc := 954) cx dL_law_954 rfl ?_
  refine r_wj (pc := 956) (nb := 21800) (k := (((kc + 700) + 1) + 1)) (mc := 1) (Mx := 400000) cx (tL_step hB h66 h67 h68 hl y9 σ12) qmh_L_step wm_L_161 dL_law_956 rfl rfl (Nat.le_of_ble_eq_true rfl) ⟨Nat.le_of_ble_eq_true rfl, Nat.le_of_ble_eq_true rfl⟩ ⟨Nat.le_of_ble_eq_true rfl, Nat.le_of_ble_eq_true rfl⟩ ⟨Nat.le_of_ble_eq_true rfl, Nat.le_of_ble_eq_true rfl⟩ (by omega) (fun r956 σ13 => ?_)
  refine r_lload (pc := 959) cx dL_law_959 rfl ?_
  refine r_iload (pc := 961) cx dL_law_961 rfl ?_
  refine r_i2l (pc := 963) cx dL_law_963 ?_
  refine r_ladd (pc := 964) cx dL_law_964 ?_
  refine r_lcmp (pc := 965) cx dL_law_965 ?_
  refine r_if_ne (tgt := 998) cx dL_law_966 (by decide) ?_ ?_
  · exact qS.sub (qsub_cons rfl (qsub_cons rfl (qsub_cons rfl (qsub_cons rfl (qsub_cons rfl (qsub_cons rfl (qsub_cons rfl (qsub_cons rfl (qsub_cons rfl (qsub_cons rfl (qsub_cons rfl (qsub_nil _)))))))))))) (tL_law_c998 cx hX hB h66 h67 h68 hl hk18 _ _ _ _ _ _ _ _ _ _ _)
  · refine r_aload_n (pc := 969) cx dL_law_969 rfl ?_
    refine r_iconst (pc := 970) cx dL_law_970 ?_
    refine r_wj (pc := 971) (nb := 21800) (k := ((((kc + 700) + 1) + 1) + 1)) (mc := 1) (Mx := 400000) cx (tL_sum hB h66 h67 h68 hl 1 σ13) qmh_L_sum wm_L_114 dL_law_971 rfl rfl (Nat.le_of_ble_eq_true rfl) ⟨Nat.le_of_ble_eq_true rfl, Nat.le_of_ble_eq_true rfl⟩ ⟨Nat.le_of_ble_eq_true rfl, Nat.le_of_ble_eq_true rfl⟩ ⟨Nat.le_of_ble_eq_true rfl, Nat.le_of_ble_eq_true rfl⟩ (by omega) (fun r971 σ14 => ?_)
    refine r_lload (pc := 974) cx dL_law_974 rfl ?_
    refine r_iload (pc := 976) cx dL_law_976 rfl ?_
    refine r_i2l (pc := 978) cx dL_law_978 ?_
    refine r_ladd (pc := 979) cx dL_law_979 ?_
    refine r_lcmp (pc := 980) cx dL_law_980 ?_
    refine r_if_eq (tgt := 994) cx dL_law_981 (by decide) ?_ ?_
    · exact qS.sub (qsub_cons rfl (qsub_cons rfl (qsub_cons rfl (qsub_cons rfl (qsub_cons rfl (qsub_cons rfl (qsub_cons rfl (qsub_cons rfl (qsub_cons rfl (qsub_cons rfl (qsub_cons rfl (qsub_nil _)))))))))))) (tL_law_c994 cx hX hB h66 h67 h68 hl hk18 _ _ _ _ _ _ _ _ _ _ _)
    · refine r_aload_n (pc := 984) cx dL_law_984 rfl ?_
      refine r_iconst (pc := 985) cx dL_law_985 ?_
      refine r_wj (pc := 986) (nb := 21800) (k := (((((kc + 700) + 1) + 1) + 1) + 1)) (mc := 1) (Mx := 400000) cx (tL_sum hB h66 h67 h68 hl 1 σ14) qmh_L_sum wm_L_114 dL_law_986 rfl rfl (Nat.le_of_ble_eq_true rfl) ⟨Nat.le_of_ble_eq_true rfl, Nat.le_of_ble_eq_true rfl⟩ ⟨Nat.le_of_ble_eq_true rfl, Nat.le_of_ble_eq_true rfl⟩ ⟨Nat.le_of_ble_eq_true rfl, Nat.le_of_ble_eq_true rfl⟩ (by omega) (fun r986 σ15 => ?_)
      refine r_lconst (pc := 989) (z := 0) cx dL_law_989 (by decide +kernel) ?_
      refine r_lcmp (pc := 990) cx dL_law_990 ?_
      refine r_if_ne (tgt := 998) cx dL_law_991 (by decide) ?_ ?_
      · exact qS.sub (qsub_cons rfl (qsub_cons rfl (qsub_cons rfl (qsub_cons rfl (qsub_cons rfl (qsub_cons rfl (qsub_cons rfl (qsub_cons rfl (qsub_cons rfl (qsub_cons rfl (qsub_cons rfl (qsub_nil _)))))))))))) (tL_law_c998 cx hX hB h66 h67 h68 hl hk18 _ _ _ _ _ _ _ _ _ _ _)
      · exact qS.sub (qsub_cons rfl (qsub_cons rfl (qsub_cons rfl (qsub_cons rfl (qsub_cons rfl (qsub_cons rfl (qsub_cons rfl (qsub_cons rfl (qsub_cons rfl (qsub_cons rfl (qsub_cons rfl (qsub_nil _)))))))))))) (tL_law_c994 cx hX hB h66 h67 h68 hl hk18 _ _ _ _ _ _ _ _ _ _ _)
def fL_law_c913 (L : Nat) (xs : Nat → Int32) (k18 : Nat → Int → Int → Int → qSt → Option Unit) (kc : Nat) (x3 : Int) (x6 : Int) (x7 : Int) (x8 : Int) (s0 : Int) (σ : qSt) : Option Unit :=
  (qif (kc + 0 ≤ 400000) (fL_law_c1178 L xs k18 kc s0 x3 x6 x7 x8 σ))
set_option maxRecDepth 100000 in
set_option maxHeartbeats 4000000 in
theorem tL_law_c913 {p : Program} {l : Launch} {e : Env} {s : State} {m : MethodId} {below : List Frame} {meth : Method} {c : Code} {g : qG} {w : qWd} {ad : Nat → Nat} {b L : Nat} {xs : Nat → Int32} (cx : qCx p s m meth c cL_law 22 RL (some .boolean) g s.heap.size) (hX : qScr b L xs s.heap.size s) (hB : qBC g ad w) (h66 : w 66 = none) (h67 : w 67 = none) (h68 : w 68 = none) (hl : l.stackTraces = false) {k18 : Nat → Int → Int → Int → qSt → Option Unit} (hk18 : ∀ (kc : Nat) (x2 : Int) (x3 : Int) (x6 : Int) (σ : qSt), qS p l e room_1 s m #[Value.ref b] below meth c 22 g s.heap.size w kc (21800 + 6 * kc) (fun _ => lw_Z below #[Value.ref b] s) (k18 kc x2 x3 x6 σ) σ 18 [(0, some (.ref b)), (1, some (.ref (ad 0))), (2, some (.int (qI x2))), (3, some (.int (qI x3))), (6, some (.int (qI x6)))] []) (kc : Nat) (x3 : Int) (x6 : Int) (x7 : Int) (x8 : Int) (s0 : Int) (σ : qSt) : qS p l e room_1 s m #[Value.ref b] below meth c 22 g s.heap.size w kc (21800 + 6 * kc) (fun _ => lw_Z below #[Value.ref b] s) (fL_law_c913 L xs k18 kc x3 x6 x7 x8 s0 σ) σ 913 [(0, some (.ref b)), (1, some (.ref (ad 0))), (3, some (.int (qI x3))), (6, some (.int (qI x6))), (7, some (.int (qI x7))), (8, some (.int (qI x8)))] [.int (qI s0)] := by
  unfold fL_law_c913
  refine r_qif (fun hkc => ?_)
  refine r_istore_n (pc := 913) cx dL_law_913 (by decide) rfl ?_
  refine r_goto (pc := 914) (tgt := 1178) cx dL_law_914 (by decide) ?_
  exact qS.sub (qsub_cons rfl (qsub_cons rfl (qsub_cons rfl (qsub_cons rfl (qsub_cons rfl (qsub_cons rfl (qsub_cons rfl (qsub_nil _)))))))) (tL_law_c1178 cx hX hB h66 h67 h68 hl hk18 _ _ _ _ _ _ _)
def fL_law_c912 (L : Nat) (xs : Nat → Int32) (k18 : Nat → Int → Int → Int → qSt → Option Unit) (kc : Nat) (x3 : Int) (x6 : Int) (x7 : Int) (x8 : Int) (σ : qSt) : Option Unit :=
  (qif (kc + 0 ≤ 400000) (fL_law_c913 L xs k18 kc x3 x6 x7 x8 0 σ))
set_option maxRecDepth 100000 in
set_option maxHeartbeats 4000000 in
theorem tL_law_c912 {p : Program} {l : Launch} {e : Env} {s : State} {m : MethodId} {below : List Frame} {meth : Method} {c : Code} {g : qG} {w : qWd} {ad : Nat → Nat} {b L : Nat} {xs : Nat → Int32} (cx : qCx p s m meth c cL_law 22 RL (some .boolean) g s.heap.size) (hX : qScr b L xs s.heap.size s) (hB : qBC g ad w) (h66 : w 66 = none) (h67 : w 67 = none) (h68 : w 68 = none) (hl : l.stackTraces = false) {k18 : Nat → Int → Int → Int → qSt → Option Unit} (hk18 : ∀ (kc : Nat) (x2 : Int) (x3 : Int) (x6 : Int) (σ : qSt), qS p l e room_1 s m #[Value.ref b] below meth c 22 g s.heap.size w kc (21800 + 6 * kc) (fun _ => lw_Z below #[Value.ref b] s) (k18 kc x2 x3 x6 σ) σ 18 [(0, some (.ref b)), (1, some (.ref (ad 0))), (2, some (.int (qI x2))), (3, some (.int (qI x3))), (6, some (.int (qI x6)))] []) (kc : Nat) (x3 : Int) (x6 : Int) (x7 : Int) (x8 : Int) (σ : qSt) : qS p l e room_1 s m #[Value.ref b] below meth c 22 g s.heap.size w kc (21800 + 6 * kc) (fun _ => lw_Z below #[Value.ref b] s) (fL_law_c912 L xs k18 kc x3 x6 x7 x8 σ) σ 912 [(0, some (.ref b)), (1, some (.ref (ad 0))), (3, some (.int (qI x3))), (6, some (.int (qI x6))), (7, some (.int (qI x7))), (8, some (.int (qI x8)))] [] := by
  unfold fL_law_c912
  refine r_qif (fun hkc => ?_)
  refine r_iconst (pc := 912) cx dL_law_912 ?_
  exact qS.sub (qsub_cons rfl (qsub_cons rfl (qsub_cons rfl (qsub_cons rfl (qsub_cons rfl (qsub_cons rfl (qsub_nil _))))))) (tL_law_c913 cx hX hB h66 h67 h68 hl hk18 _ _ _ _ _ _ _)
def fL_law_c824 (L : Nat) (xs : Nat → Int32) (k18 : Nat → Int → Int → Int → qSt → Option Unit) (kc : Nat) (x3 : Int) (x6 : Int) (x7 : Int) (x8 : Int) (σ : qSt) : Option Unit :=
  (qif (kc + 5 ≤ 400000) (qbd (fL_bodyOf (qrem x8 4) 4 σ) fun (r830 : Int) (σ16 : qSt) => (qb ((qrem (qdiv x8 4) 11) - 5) fun (y17 : Int) => (qbd (fL_fault (qrem x8 4) y17 σ16) fun (r853 : Int) (σ18 : qSt) => (if qI (qlcmp r853 (-5)) < 0 then (fL_law_c912 L xs k18 ((kc + 1) + 1) x3 x6 x7 x8 σ18) else (qbd (fL_bodyOf (qrem x8 4) 4 σ18) fun (r869 : Int) (σ19 : qSt) => (qbd (fL_bodyOf (qrem x8 4) 2 σ19) fun (r878 : Int) (σ20 : qSt) => (qbd (fL_bodyOf (qrem x8 4) 1 σ20) fun (r890 : Int) (σ21 : qSt) => (if qI (qlcmp r869 (r878 + ((qi2l y17) * r890))) = 0 then (if qI (qlcmp r830 (-1000000)) < 0 then (fL_law_c912 L xs k18 (((((kc + 1) + 1) + 1) + 1) + 1) x3 x6 x7 x8 σ21) else (fL_law_c913 L xs k18 (((((kc + 1) + 1) + 1) + 1) + 1) x3 x6 x7 x8 1 σ21)) else (fL_law_c912 L xs k18 (((((kc + 1) + 1) + 1) + 1) + 1) x3 x6 x7 x8 σ21))))))))))
set_option maxRecDepth 100000 in
set_option maxHeartbeats 4000000 in
theorem tL_law_c824 {p : Program} {l : Launch} {e : Env} {s : State} {m : MethodId} {below : List Frame} {meth : Method} {c : Code} {g : qG} {w : qWd} {ad : Nat → Nat} {b L : Nat} {xs : Nat → Int32} (cx : qCx p s m meth c cL_law 22 RL (some .boolean) g s.heap.size) (hX : qScr b L xs s.heap.size s) (hB : qBC g ad w) (h66 : w 66 = none) (h67 : w 67 = none) (h68 : w 68 = none) (hl : l.stackTraces = false) {k18 : Nat → Int → Int → Int → qSt → Option Unit} (hk18 : ∀ (kc : Nat) (x2 : Int) (x3 : Int) (x6 : Int) (σ : qSt), qS p l e room_1 s m #[Value.ref b] below meth c 22 g s.heap.size w kc (21800 + 6 * kc) (fun _ => lw_Z below #[Value.ref b] s) (k18 kc x2 x3 x6 σ) σ 18 [(0, some (.ref b)), (1, some (.ref (ad 0))), (2, some (.int (qI x2))), (3, some (.int (qI x3))), (6, some (.int (qI x6)))] []) (kc : Nat) (x3 : Int) (x6 : Int) (x7 : Int) (x8 : Int) (σ : qSt) : qS p l e room_1 s m #[Value.ref b] below meth c 22 g s.heap.size w kc (21800 + 6 * kc) (fun _ => lw_Z below #[Value.ref b] s) (fL_law_c824 L xs k18 kc x3 x6 x7 x8 σ) σ 824 [(0, some (.ref b)), (1, some (.ref (ad 0))), (3, some (.int (qI x3))), (6, some (.int (qI x6))), (7, some (.int (qI x7))), (8, some (.int (qI x8)))] [] := by
  unfold fL_law_c824
  refine r_qif (fun hkc => ?_)
  refine r_aload_n (pc := 824) cx dL_law_824 rfl ?_
  refine r_iload (pc := 825) cx dL_law_825 rfl ?_
  refine r_iconst (pc := 827) cx dL_law_827 ?_
  refine r_irem (pc := 828) cx dL_law_828 (by decide +kernel) ?_
  refine r_iconst (pc := 829) cx dL_law_829 ?_
  refine r_wj (pc := 830) (nb := 21800) (k := kc) (mc := 1) (Mx := 400000) cx (tL_bodyOf hB h66 h67 h68 hl (qrem x8 4) 4 σ) qmh_L_bodyOf wm_L_110 dL_law_830 rfl rfl (Nat.le_of_ble_eq_true rfl) ⟨Nat.le_of_ble_eq_true rfl, Nat.le_of_ble_eq_true rfl⟩ ⟨Nat.le_of_ble_eq_true rfl, Nat.le_of_ble_eq_true rfl⟩ ⟨Nat.le_of_ble_eq_true rfl, Nat.le_of_ble_eq_true rfl⟩ (by omega) (fun r830 σ16 => ?_)
  refine r_lstore (pc := 833) cx dL_law_833 (by decide) rfl ?_
  refine r_iload (pc := 835) cx dL_law_835 rfl ?_
  refine r_iconst (pc := 837) cx dL_law_837 ?_
  refine r_idiv (pc := 838) cx dL_law_838 (by decide +kernel) ?_
  refine r_bipush (pc := 839) (v := 11) cx dL_law_839 (by decide +kernel) ?_
  refine r_irem (pc := 841) cx dL_law_841 (by decide +kernel) ?_
  refine r_iconst (pc := 842) cx dL_law_842 ?_
  refine r_isub (pc := 843) cx dL_law_843 ?_
  refine r_nmi (fun y17 => ?_)
  refine r_istore (pc := 844) cx dL_law_844 (by decide) rfl ?_
  refine r_aload_n (pc := 846) cx dL_law_846 rfl ?_
  refine r_iload (pc := 847) cx dL_law_847 rfl ?_
  refine r_iconst (pc := 849) cx dL_law_849 ?_
  refine r_irem (pc := 850) cx dL_law_850 (by decide +kernel) ?_
  refine r_iload (pc := 851) cx dL_law_851 rfl ?_
  refine r_wj (pc := 853) (nb := 21800) (k := (kc + 1)) (mc := 1) (Mx := 400000) cx (tL_fault hB h66 h67 h68 hl (qrem x8 4) y17 σ16) qmh_L_fault wm_L_156 dL_law_853 rfl rfl (Nat.le_of_ble_eq_true rfl) ⟨Nat.le_of_ble_eq_true rfl, Nat.le_of_ble_eq_true rfl⟩ ⟨Nat.le_of_ble_eq_true rfl, Nat.le_of_ble_eq_true rfl⟩ ⟨Nat.le_of_ble_eq_true rfl, Nat.le_of_ble_eq_true rfl⟩ (by omega) (fun r853 σ18 => ?_)
  refine r_ldc2 (pc := 856) (v := (-5)) cx dL_law_856 wq_L_176 ?_
  refine r_lcmp (pc := 859) cx dL_law_859 ?_
  refine r_if_lt (tgt := 912) cx dL_law_860 (by decide) ?_ ?_
  · exact qS.sub (qsub_cons rfl (qsub_cons rfl (qsub_cons rfl (qsub_cons rfl (qsub_cons rfl (qsub_cons rfl (qsub_nil _))))))) (tL_law_c912 cx hX hB h66 h67 h68 hl hk18 _ _ _ _ _ _)
  · refine r_aload_n (pc := 863) cx dL_law_863 rfl ?_
    refine r_iload (pc := 864) cx dL_law_864 rfl ?_
    refine r_iconst (pc := 866) cx dL_law_866 ?_
    refine r_irem (pc := 867) cx dL_law_867 (by decide +kernel) ?_
    refine r_iconst (pc := 868) cx dL_law_868 ?_
    refine r_wj (pc := 869) (nb := 21800) (k := ((kc + 1) + 1)) (mc := 1) (Mx := 400000) cx (tL_bodyOf hB h66 h67 h68 hl (qrem x8 4) 4 σ18) qmh_L_bodyOf wm_L_110 dL_law_869 rfl rfl (Nat.le_of_ble_eq_true rfl) ⟨Nat.le_of_ble_eq_true rfl, Nat.le_of_ble_eq_true rfl⟩ ⟨Nat.le_of_ble_eq_true rfl, Nat.le_of_ble_eq_true rfl⟩ ⟨Nat.le_of_ble_eq_true rfl, Nat.le_of_ble_eq_true rfl⟩ (by omega) (fun r869 σ19 => ?_)
    refine r_aload_n (pc := 872) cx dL_law_872 rfl ?_
    refine r_iload (pc := 873) cx dL_law_873 rfl ?_
    refine r_iconst (pc := 875) cx dL_law_875 ?_
    refine r_irem (pc := 876) cx dL_law_876 (by decide +kernel) ?_
    refine r_iconst (pc := 877) cx dL_law_877 ?_
    refine r_wj (pc := 878) (nb := 21800) (k := (((kc + 1) + 1) + 1)) (mc := 1) (Mx := 400000) cx (tL_bodyOf hB h66 h67 h68 hl (qrem x8 4) 2 σ19) qmh_L_bodyOf wm_L_110 dL_law_878 rfl rfl (Nat.le_of_ble_eq_true rfl) ⟨Nat.le_of_ble_eq_true rfl, Nat.le_of_ble_eq_true rfl⟩ ⟨Nat.le_of_ble_eq_true rfl, Nat.le_of_ble_eq_true rfl⟩ ⟨Nat.le_of_ble_eq_true rfl, Nat.le_of_ble_eq_true rfl⟩ (by omega) (fun r878 σ20 => ?_)
    refine r_iload (pc := 881) cx dL_law_881 rfl ?_
    refine r_i2l (pc := 883) cx dL_law_883 ?_
    refine r_aload_n (pc := 884) cx dL_law_884 rfl ?_
    refine r_iload (pc := 885) cx dL_law_885 rfl ?_
    refine r_iconst (pc := 887) cx dL_law_887 ?_
    refine r_irem (pc := 888) cx dL_law_888 (by decide +kernel) ?_
    refine r_iconst (pc := 889) cx dL_law_889 ?_
    refine r_wj (pc := 890) (nb := 21800) (k := ((((kc + 1) + 1) + 1) + 1)) (mc := 1) (Mx := 400000) cx (tL_bodyOf hB h66 h67 h68 hl (qrem x8 4) 1 σ20) qmh_L_bodyOf wm_L_110 dL_law_890 rfl rfl (Nat.le_of_ble_eq_true rfl) ⟨Nat.le_of_ble_eq_true rfl, Nat.le_of_ble_eq_true rfl⟩ ⟨Nat.le_of_ble_eq_true rfl, Nat.le_of_ble_eq_true rfl⟩ ⟨Nat.le_of_ble_eq_true rfl, Nat.le_of_ble_eq_true rfl⟩ (by omega) (fun r890 σ21 => ?_)
    refine r_lmul (pc := 893) cx dL_law_893 ?_
    refine r_ladd (pc := 894) cx dL_law_894 ?_
    refine r_lcmp (pc := 895) cx dL_law_895 ?_
    refine r_if_ne (tgt := 912) cx dL_law_896 (by decide) ?_ ?_
    · exact qS.sub (qsub_cons rfl (qsub_cons rfl (qsub_cons rfl (qsub_cons rfl (qsub_cons rfl (qsub_cons rfl (qsub_nil _))))))) (tL_law_c912 cx hX hB h66 h67 h68 hl hk18 _ _ _ _ _ _)
    · refine r_lload (pc := 899) cx dL_law_899 rfl ?_
      refine r_ldc2 (pc := 901) (v := (-1000000)) cx dL_law_901 wq_L_178 ?_
      refine r_lcmp (pc := 904) cx dL_law_904 ?_
      refine r_if_lt (tgt := 912) cx dL_law_905 (by decide) ?_ ?_
      · exact qS.sub (qsub_cons rfl (qsub_cons rfl (qsub_cons rfl (qsub_cons rfl (qsub_cons rfl (qsub_cons rfl (qsub_nil _))))))) (tL_law_c912 cx hX hB h66 h67 h68 hl hk18 _ _ _ _ _ _)
      · refine r_iconst (pc := 908) cx dL_law_908 ?_
        refine r_goto (pc := 909) (tgt := 913) cx dL_law_909 (by decide) ?_
        exact qS.sub (qsub_cons rfl (qsub_cons rfl (qsub_cons rfl (qsub_cons rfl (qsub_cons rfl (qsub_cons rfl (qsub_nil _))))))) (tL_law_c913 cx hX hB h66 h67 h68 hl hk18 _ _ _ _ _ _ _)
def fL_law_c813 (L : Nat) (xs : Nat → Int32) (k18 : Nat → Int → Int → Int → qSt → Option Unit) (kc : Nat) (x3 : Int) (x6 : Int) (x7 : Int) (x8 : Int) (s0 : Int) (σ : qSt) : Option Unit :=
  (qif (kc + 0 ≤ 400000) (fL_law_c1178 L xs k18 kc s0 x3 x6 x7 x8 σ))
set_option maxRecDepth 100000 in
set_option maxHeartbeats 4000000 in
theorem tL_law_c813 {p : Program} {l : Launch} {e : Env} {s : State} {m : MethodId} {below : List Frame} {meth : Method} {c : Code} {g : qG} {w : qWd} {ad : Nat → Nat} {b L : Nat} {xs : Nat → Int32} (cx : qCx p s m meth c cL_law 22 RL (some .boolean) g s.heap.size) (hX : qScr b L xs s.heap.size s) (hB : qBC g ad w) (h66 : w 66 = none) (h67 : w 67 = none) (h68 : w 68 = none) (hl : l.stackTraces = false) {k18 : Nat → Int → Int → Int → qSt → Option Unit} (hk18 : ∀ (kc : Nat) (x2 : Int) (x3 : Int) (x6 : Int) (σ : qSt), qS p l e room_1 s m #[Value.ref b] below meth c 22 g s.heap.size w kc (21800 + 6 * kc) (fun _ => lw_Z below #[Value.ref b] s) (k18 kc x2 x3 x6 σ) σ 18 [(0, some (.ref b)), (1, some (.ref (ad 0))), (2, some (.int (qI x2))), (3, some (.int (qI x3))), (6, some (.int (qI x6)))] []) (kc : Nat) (x3 : Int) (x6 : Int) (x7 : Int) (x8 : Int) (s0 : Int) (σ : qSt) : qS p l e room_1 s m #[Value.ref b] below meth c 22 g s.heap.size w kc (21800 + 6 * kc) (fun _ => lw_Z below #[Value.ref b] s) (fL_law_c813 L xs k18 kc x3 x6 x7 x8 s0 σ) σ 813 [(0, some (.ref b)), (1, some (.ref (ad 0))), (3, some (.int (qI x3))), (6, some (.int (qI x6))), (7, some (.int (qI x7))), (8, some (.int (qI x8)))] [.int (qI s0)] := by
  unfold fL_law_c813
  refine r_qif (fun hkc => ?_)
  refine r_istore_n (pc := 813) cx dL_law_813 (by decide) rfl ?_
  refine r_goto (pc := 814) (tgt := 1178) cx dL_law_814 (by decide) ?_
  exact qS.sub (qsub_cons rfl (qsub_cons rfl (qsub_cons rfl (qsub_cons rfl (qsub_cons rfl (qsub_cons rfl (qsub_cons rfl (qsub_nil _)))))))) (tL_law_c1178 cx hX hB h66 h67 h68 hl hk18 _ _ _ _ _ _ _)
def fL_law_c812 (L : Nat) (xs : Nat → Int32) (k18 : Nat → Int → Int → Int → qSt → Option Unit) (kc : Nat) (x3 : Int) (x6 : Int) (x7 : Int) (x8 : Int) (σ : qSt) : Option Unit :=
  (qif (kc + 0 ≤ 400000) (fL_law_c813 L xs k18 kc x3 x6 x7 x8 0 σ))
set_option maxRecDepth 100000 in
set_option maxHeartbeats 4000000 in
theorem tL_law_c812 {p : Program} {l : Launch} {e : Env} {s : State} {m : MethodId} {below : List Frame} {meth : Method} {c : Code} {g : qG} {w : qWd} {ad : Nat → Nat} {b L : Nat} {xs : Nat → Int32} (cx : qCx p s m meth c cL_law 22 RL (some .boolean) g s.heap.size) (hX : qScr b L xs s.heap.size s) (hB : qBC g ad w) (h66 : w 66 = none) (h67 : w 67 = none) (h68 : w 68 = none) (hl : l.stackTraces = false) {k18 : Nat → Int → Int → Int → qSt → Option Unit} (hk18 : ∀ (kc : Nat) (x2 : Int) (x3 : Int) (x6 : Int) (σ : qSt), qS p l e room_1 s m #[Value.ref b] below meth c 22 g s.heap.size w kc (21800 + 6 * kc) (fun _ => lw_Z below #[Value.ref b] s) (k18 kc x2 x3 x6 σ) σ 18 [(0, some (.ref b)), (1, some (.ref (ad 0))), (2, some (.int (qI x2))), (3, some (.int (qI x3))), (6, some (.int (qI x6)))] []) (kc : Nat) (x3 : Int) (x6 : Int) (x7 : Int) (x8 : Int) (σ : qSt) : qS p l e room_1 s m #[Value.ref b] below meth c 22 g s.heap.size w kc (21800 + 6 * kc) (fun _ => lw_Z below #[Value.ref b] s) (fL_law_c812 L xs k18 kc x3 x6 x7 x8 σ) σ 812 [(0, some (.ref b)), (1, some (.ref (ad 0))), (3, some (.int (qI x3))), (6, some (.int (qI x6))), (7, some (.int (qI x7))), (8, some (.int (qI x8)))] [] := by
  unfold fL_law_c812
  refine r_qif (fun hkc => ?_)
  refine r_iconst (pc := 812) cx dL_law_812 ?_
  exact qS.sub (qsub_cons rfl (qsub_cons rfl (qsub_cons rfl (qsub_cons rfl (qsub_cons rfl (qsub_cons rfl (qsub_nil _))))))) (tL_law_c813 cx hX hB h66 h67 h68 hl hk18 _ _ _ _ _ _ _)
def fL_law_c761 (L : Nat) (xs : Nat → Int32) (k18 : Nat → Int → Int → Int → qSt → Option Unit) (kc : Nat) (x3 : Int) (x6 : Int) (x7 : Int) (x8 : Int) (x11 : Int) (σ : qSt) : Option Unit :=
  (qif (kc + 4 ≤ 400000) (qbd (fL_sum 7 σ) fun (r764 : Int) (σ22 : qSt) => (qbd (fL_flow (1 + (qrem x8 9)) σ22) fun (r777 : Int) (σ23 : qSt) => (if qI (qlcmp r777 0) ≤ 0 then (fL_law_c812 L xs k18 ((kc + 1) + 1) x3 x6 x7 x8 σ23) else (qbd (fL_sum 7 σ23) fun (r788 : Int) (σ24 : qSt) => (if qI (qlcmp r788 r764) = 0 then (qbd (fL_sum 1 σ24) fun (r799 : Int) (σ25 : qSt) => (if qI (qlcmp r799 x11) = 0 then (fL_law_c813 L xs k18 ((((kc + 1) + 1) + 1) + 1) x3 x6 x7 x8 1 σ25) else (fL_law_c812 L xs k18 ((((kc + 1) + 1) + 1) + 1) x3 x6 x7 x8 σ25))) else (fL_law_c812 L xs k18 (((kc + 1) + 1) + 1) x3 x6 x7 x8 σ24)))))))
set_option maxRecDepth 100000 in
set_option maxHeartbeats 4000000 in
theorem tL_law_c761 {p : Program} {l : Launch} {e : Env} {s : State} {m : MethodId} {below : List Frame} {meth : Method} {c : Code} {g : qG} {w : qWd} {ad : Nat → Nat} {b L : Nat} {xs : Nat → Int32} (cx : qCx p s m meth c cL_law 22 RL (some .boolean) g s.heap.size) (hX : qScr b L xs s.heap.size s) (hB : qBC g ad w) (h66 : w 66 = none) (h67 : w 67 = none) (h68 : w 68 = none) (hl : l.stackTraces = false) {k18 : Nat → Int → Int → Int → qSt → Option Unit} (hk18 : ∀ (kc : Nat) (x2 : Int) (x3 : Int) (x6 : Int) (σ : qSt), qS p l e room_1 s m #[Value.ref b] below meth c 22 g s.heap.size w kc (21800 + 6 * kc) (fun _ => lw_Z below #[Value.ref b] s) (k18 kc x2 x3 x6 σ) σ 18 [(0, some (.ref b)), (1, some (.ref (ad 0))), (2, some (.int (qI x2))), (3, some (.int (qI x3))), (6, some (.int (qI x6)))] []) (kc : Nat) (x3 : Int) (x6 : Int) (x7 : Int) (x8 : Int) (x11 : Int) (σ : qSt) : qS p l e room_1 s m #[Value.ref b] below meth c 22 g s.heap.size w kc (21800 + 6 * kc) (fun _ => lw_Z below #[Value.ref b] s) (fL_law_c761 L xs k18 kc x3 x6 x7 x8 x11 σ) σ 761 [(0, some (.ref b)), (1, some (.ref (ad 0))), (3, some (.int (qI x3))), (6, some (.int (qI x6))), (7, some (.int (qI x7))), (8, some (.int (qI x8))), (11, some (.long (qJ x11)))] [] := by
  unfold fL_law_c761
  refine r_qif (fun hkc => ?_)
  refine r_aload_n (pc := 761) cx dL_law_761 rfl ?_
  refine r_bipush (pc := 762) (v := 7) cx dL_law_762 (by decide +kernel) ?_
  refine r_wj (pc := 764) (nb := 21800) (k := kc) (mc := 1) (Mx := 400000) cx (tL_sum hB h66 h67 h68 hl 7 σ) qmh_L_sum wm_L_114 dL_law_764 rfl rfl (Nat.le_of_ble_eq_true rfl) ⟨Nat.le_of_ble_eq_true rfl, Nat.le_of_ble_eq_true rfl⟩ ⟨Nat.le_of_ble_eq_true rfl, Nat.le_of_ble_eq_true rfl⟩ ⟨Nat.le_of_ble_eq_true rfl, Nat.le_of_ble_eq_true rfl⟩ (by omega) (fun r764 σ22 => ?_)
  refine r_lstore (pc := 767) cx dL_law_767 (by decide) rfl ?_
  refine r_aload_n (pc := 769) cx dL_law_769 rfl ?_
  refine r_iconst (pc := 770) cx dL_law_770 ?_
  refine r_iload (pc := 771) cx dL_law_771 rfl ?_
  refine r_bipush (pc := 773) (v := 9) cx dL_law_773 (by decide +kernel) ?_
  refine r_irem (pc := 775) cx dL_law_775 (by decide +kernel) ?_
  refine r_iadd (pc := 776) cx dL_law_776 ?_
  refine r_wj (pc := 777) (nb := 21800) (k := (kc + 1)) (mc := 1) (Mx := 400000) cx (tL_flow hB h66 h67 h68 hl (1 + (qrem x8 9)) σ22) qmh_L_flow wm_L_165 dL_law_777 rfl rfl (Nat.le_of_ble_eq_true rfl) ⟨Nat.le_of_ble_eq_true rfl, Nat.le_of_ble_eq_true rfl⟩ ⟨Nat.le_of_ble_eq_true rfl, Nat.le_of_ble_eq_true rfl⟩ ⟨Nat.le_of_ble_eq_true rfl, Nat.le_of_ble_eq_true rfl⟩ (by omega) (fun r777 σ23 => ?_)
  refine r_lconst (pc := 780) (z := 0) cx dL_law_780 (by decide +kernel) ?_
  refine r_lcmp (pc := 781) cx dL_law_781 ?_
  refine r_if_le (tgt := 812) cx dL_law_782 (by decide) ?_ ?_
  · exact qS.sub (qsub_cons rfl (qsub_cons rfl (qsub_cons rfl (qsub_cons rfl (qsub_cons rfl (qsub_cons rfl (qsub_nil _))))))) (tL_law_c812 cx hX hB h66 h67 h68 hl hk18 _ _ _ _ _ _)
  · refine r_aload_n (pc := 785) cx dL_law_785 rfl ?_
    refine r_bipush (pc := 786) (v := 7) cx dL_law_786 (by decide +kernel) ?_
    refine r_wj (pc := 788) (nb := 21800) (k := ((kc + 1) + 1)) (mc := 1) (Mx := 400000) cx (tL_sum hB h66 h67 h68 hl 7 σ23) qmh_L_sum wm_L_114 dL_law_788 rfl rfl (Nat.le_of_ble_eq_true rfl) ⟨Nat.le_of_ble_eq_true rfl, Nat.le_of_ble_eq_true rfl⟩ ⟨Nat.le_of_ble_eq_true rfl, Nat.le_of_ble_eq_true rfl⟩ ⟨Nat.le_of_ble_eq_true rfl, Nat.le_of_ble_eq_true rfl⟩ (by omega) (fun r788 σ24 => ?_)
    refine r_lload (pc := 791) cx dL_law_791 rfl ?_
    refine r_lcmp (pc := 793) cx dL_law_793 ?_
    refine r_if_ne (tgt := 812) cx dL_law_794 (by decide) ?_ ?_
    · exact qS.sub (qsub_cons rfl (qsub_cons rfl (qsub_cons rfl (qsub_cons rfl (qsub_cons rfl (qsub_cons rfl (qsub_nil _))))))) (tL_law_c812 cx hX hB h66 h67 h68 hl hk18 _ _ _ _ _ _)
    · refine r_aload_n (pc := 797) cx dL_law_797 rfl ?_
      refine r_iconst (pc := 798) cx dL_law_798 ?_
      refine r_wj (pc := 799) (nb := 21800) (k := (((kc + 1) + 1) + 1)) (mc := 1) (Mx := 400000) cx (tL_sum hB h66 h67 h68 hl 1 σ24) qmh_L_sum wm_L_114 dL_law_799 rfl rfl (Nat.le_of_ble_eq_true rfl) ⟨Nat.le_of_ble_eq_true rfl, Nat.le_of_ble_eq_true rfl⟩ ⟨Nat.le_of_ble_eq_true rfl, Nat.le_of_ble_eq_true rfl⟩ ⟨Nat.le_of_ble_eq_true rfl, Nat.le_of_ble_eq_true rfl⟩ (by omega) (fun r799 σ25 => ?_)
      refine r_lload (pc := 802) cx dL_law_802 rfl ?_
      refine r_lcmp (pc := 804) cx dL_law_804 ?_
      refine r_if_ne (tgt := 812) cx dL_law_805 (by decide) ?_ ?_
      · exact qS.sub (qsub_cons rfl (qsub_cons rfl (qsub_cons rfl (qsub_cons rfl (qsub_cons rfl (qsub_cons rfl (qsub_nil _))))))) (tL_law_c812 cx hX hB h66 h67 h68 hl hk18 _ _ _ _ _ _)
      · refine r_iconst (pc := 808) cx dL_law_808 ?_
        refine r_goto (pc := 809) (tgt := 813) cx dL_law_809 (by decide) ?_
        exact qS.sub (qsub_cons rfl (qsub_cons rfl (qsub_cons rfl (qsub_cons rfl (qsub_cons rfl (qsub_cons rfl (qsub_nil _))))))) (tL_law_c813 cx hX hB h66 h67 h68 hl hk18 _ _ _ _ _ _ _)
def fL_law_c750 (L : Nat) (xs : Nat → Int32) (k18 : Nat → Int → Int → Int → qSt → Option Unit) (kc : Nat) (x3 : Int) (x6 : Int) (x7 : Int) (x8 : Int) (s0 : Int) (σ : qSt) : Option Unit :=
  (qif (kc + 0 ≤ 400000) (fL_law_c1178 L xs k18 kc s0 x3 x6 x7 x8 σ))
set_option maxRecDepth 100000 in
set_option maxHeartbeats 4000000 in
theorem tL_law_c750 {p : Program} {l : Launch} {e : Env} {s : State} {m : MethodId} {below : List Frame} {meth : Method} {c : Code} {g : qG} {w : qWd} {ad : Nat → Nat} {b L : Nat} {xs : Nat → Int32} (cx : qCx p s m meth c cL_law 22 RL (some .boolean) g s.heap.size) (hX : qScr b L xs s.heap.size s) (hB : qBC g ad w) (h66 : w 66 = none) (h67 : w 67 = none) (h68 : w 68 = none) (hl : l.stackTraces = false) {k18 : Nat → Int → Int → Int → qSt → Option Unit} (hk18 : ∀ (kc : Nat) (x2 : Int) (x3 : Int) (x6 : Int) (σ : qSt), qS p l e room_1 s m #[Value.ref b] below meth c 22 g s.heap.size w kc (21800 + 6 * kc) (fun _ => lw_Z below #[Value.ref b] s) (k18 kc x2 x3 x6 σ) σ 18 [(0, some (.ref b)), (1, some (.ref (ad 0))), (2, some (.int (qI x2))), (3, some (.int (qI x3))), (6, some (.int (qI x6)))] []) (kc : Nat) (x3 : Int) (x6 : Int) (x7 : Int) (x8 : Int) (s0 : Int) (σ : qSt) : qS p l e room_1 s m #[Value.ref b] below meth c 22 g s.heap.size w kc (21800 + 6 * kc) (fun _ => lw_Z below #[Value.ref b] s) (fL_law_c750 L xs k18 kc x3 x6 x7 x8 s0 σ) σ 750 [(0, some (.ref b)), (1, some (.ref (ad 0))), (3, some (.int (qI x3))), (6, some (.int (qI x6))), (7, some (.int (qI x7))), (8, some (.int (qI x8)))] [.int (qI s0)] := by
  unfold fL_law_c750
  refine r_qif (fun hkc => ?_)
  refine r_istore_n (pc := 750) cx dL_law_750 (by decide) rfl ?_
  refine r_goto (pc := 751) (tgt := 1178) cx dL_law_751 (by decide) ?_
  exact qS.sub (qsub_cons rfl (qsub_cons rfl (qsub_cons rfl (qsub_cons rfl (qsub_cons rfl (qsub_cons rfl (qsub_cons rfl (qsub_nil _)))))))) (tL_law_c1178 cx hX hB h66 h67 h68 hl hk18 _ _ _ _ _ _ _)
def fL_law_c741 (L : Nat) (xs : Nat → Int32) (k18 : Nat → Int → Int → Int → qSt → Option Unit) (kc : Nat) (x3 : Int) (x6 : Int) (x7 : Int) (x8 : Int) (s0 : Int) (s1 : Int) (σ : qSt) : Option Unit :=
  (qif (kc + 0 ≤ 400000) (if qI (qlcmp s1 s0) = 0 then (fL_law_c750 L xs k18 kc x3 x6 x7 x8 1 σ) else (fL_law_c750 L xs k18 kc x3 x6 x7 x8 0 σ)))
set_option maxRecDepth 100000 in
set_option maxHeartbeats 4000000 in
theorem tL_law_c741 {p : Program} {l : Launch} {e : Env} {s : State} {m : MethodId} {below : List Frame} {meth : Method} {c : Code} {g : qG} {w : qWd} {ad : Nat → Nat} {b L : Nat} {xs : Nat → Int32} (cx : qCx p s m meth c cL_law 22 RL (some .boolean) g s.heap.size) (hX : qScr b L xs s.heap.size s) (hB : qBC g ad w) (h66 : w 66 = none) (h67 : w 67 = none) (h68 : w 68 = none) (hl : l.stackTraces = false) {k18 : Nat → Int → Int → Int → qSt → Option Unit} (hk18 : ∀ (kc : Nat) (x2 : Int) (x3 : Int) (x6 : Int) (σ : qSt), qS p l e room_1 s m #[Value.ref b] below meth c 22 g s.heap.size w kc (21800 + 6 * kc) (fun _ => lw_Z below #[Value.ref b] s) (k18 kc x2 x3 x6 σ) σ 18 [(0, some (.ref b)), (1, some (.ref (ad 0))), (2, some (.int (qI x2))), (3, some (.int (qI x3))), (6, some (.int (qI x6)))] []) (kc : Nat) (x3 : Int) (x6 : Int) (x7 : Int) (x8 : Int) (s0 : Int) (s1 : Int) (σ : qSt) : qS p l e room_1 s m #[Value.ref b] below meth c 22 g s.heap.size w kc (21800 + 6 * kc) (fun _ => lw_Z below #[Value.ref b] s) (fL_law_c741 L xs k18 kc x3 x6 x7 x8 s0 s1 σ) σ 741 [(0, some (.ref b)), (1, some (.ref (ad 0))), (3, some (.int (qI x3))), (6, some (.int (qI x6))), (7, some (.int (qI x7))), (8, some (.int (qI x8)))] [.long (qJ s0), .long (qJ s1)] := by
  unfold fL_law_c741
  refine r_qif (fun hkc => ?_)
  refine r_lcmp (pc := 741) cx dL_law_741 ?_
  refine r_if_ne (tgt := 749) cx dL_law_742 (by decide) ?_ ?_
  · refine r_iconst (pc := 749) cx dL_law_749 ?_
    exact qS.sub (qsub_cons rfl (qsub_cons rfl (qsub_cons rfl (qsub_cons rfl (qsub_cons rfl (qsub_cons rfl (qsub_nil _))))))) (tL_law_c750 cx hX hB h66 h67 h68 hl hk18 _ _ _ _ _ _ _)
  · refine r_iconst (pc := 745) cx dL_law_745 ?_
    refine r_goto (pc := 746) (tgt := 750) cx dL_law_746 (by decide) ?_
    exact qS.sub (qsub_cons rfl (qsub_cons rfl (qsub_cons rfl (qsub_cons rfl (qsub_cons rfl (qsub_cons rfl (qsub_nil _))))))) (tL_law_c750 cx hX hB h66 h67 h68 hl hk18 _ _ _ _ _ _ _)
def fL_law_c677 (L : Nat) (xs : Nat → Int32) (k18 : Nat → Int → Int → Int → qSt → Option Unit) (kc : Nat) (x3 : Int) (x6 : Int) (x7 : Int) (x8 : Int) (x10 : Int) (s0 : Int) (σ : qSt) : Option Unit :=
  (qif (kc + 2 ≤ 400000) (qbd (fL_cellOf x10 (4 + (qrem (qdiv x7 16) 4)) σ) fun (r691 : Int) (σ40 : qSt) => (qb (1 + (qrem (qdiv x8 96) 2000)) fun (y41 : Int) => (qbd (fL_bring x10 (qrem (qdiv x7 16) 4) y41 σ40) fun (r721 : Int) (σ42 : qSt) => (if qI s0 = 0 then (fL_law_c741 L xs k18 ((kc + 1) + 1) x3 x6 x7 x8 (-9000000000000000003) r721 σ42) else (fL_law_c741 L xs k18 ((kc + 1) + 1) x3 x6 x7 x8 (r691 + (qi2l y41)) r721 σ42))))))
set_option maxRecDepth 100000 in
set_option maxHeartbeats 4000000 in
theorem tL_law_c677 {p : Program} {l : Launch} {e : Env} {s : State} {m : MethodId} {below : List Frame} {meth : Method} {c : Code} {g : qG} {w : qWd} {ad : Nat → Nat} {b L : Nat} {xs : Nat → Int32} (cx : qCx p s m meth c cL_law 22 RL (some .boolean) g s.heap.size) (hX : qScr b L xs s.heap.size s) (hB : qBC g ad w) (h66 : w 66 = none) (h67 : w 67 = none) (h68 : w 68 = none) (hl : l.stackTraces = false) {k18 : Nat → Int → Int → Int → qSt → Option Unit} (hk18 : ∀ (kc : Nat) (x2 : Int) (x3 : Int) (x6 : Int) (σ : qSt), qS p l e room_1 s m #[Value.ref b] below meth c 22 g s.heap.size w kc (21800 + 6 * kc) (fun _ => lw_Z below #[Value.ref b] s) (k18 kc x2 x3 x6 σ) σ 18 [(0, some (.ref b)), (1, some (.ref (ad 0))), (2, some (.int (qI x2))), (3, some (.int (qI x3))), (6, some (.int (qI x6)))] []) (kc : Nat) (x3 : Int) (x6 : Int) (x7 : Int) (x8 : Int) (x10 : Int) (s0 : Int) (σ : qSt) : qS p l e room_1 s m #[Value.ref b] below meth c 22 g s.heap.size w kc (21800 + 6 * kc) (fun _ => lw_Z below #[Value.ref b] s) (fL_law_c677 L xs k18 kc x3 x6 x7 x8 x10 s0 σ) σ 677 [(0, some (.ref b)), (1, some (.ref (ad 0))), (3, some (.int (qI x3))), (6, some (.int (qI x6))), (7, some (.int (qI x7))), (8, some (.int (qI x8))), (10, some (.int (qI x10)))] [.int (qI s0)] := by
  unfold fL_law_c677
  refine r_qif (fun hkc => ?_)
  refine r_istore (pc := 677) cx dL_law_677 (by decide) rfl ?_
  refine r_aload_n (pc := 679) cx dL_law_679 rfl ?_
  refine r_iload (pc := 680) cx dL_law_680 rfl ?_
  refine r_iconst (pc := 682) cx dL_law_682 ?_
  refine r_iload (pc := 683) cx dL_law_683 rfl ?_
  refine r_bipush (pc := 685) (v := 16) cx dL_law_685 (by decide +kernel) ?_
  refine r_idiv (pc := 687) cx dL_law_687 (by decide +kernel) ?_
  refine r_iconst (pc := 688) cx dL_law_688 ?_
  refine r_irem (pc := 689) cx dL_law_689 (by decide +kernel) ?_
  refine r_iadd (pc := 690) cx dL_law_690 ?_
  refine r_wj (pc := 691) (nb := 21800) (k := kc) (mc := 1) (Mx := 400000) cx (tL_cellOf hB h66 h67 h68 hl x10 (4 + (qrem (qdiv x7 16) 4)) σ) qmh_L_cellOf wm_L_101 dL_law_691 rfl rfl (Nat.le_of_ble_eq_true rfl) ⟨Nat.le_of_ble_eq_true rfl, Nat.le_of_ble_eq_true rfl⟩ ⟨Nat.le_of_ble_eq_true rfl, Nat.le_of_ble_eq_true rfl⟩ ⟨Nat.le_of_ble_eq_true rfl, Nat.le_of_ble_eq_true rfl⟩ (by omega) (fun r691 σ40 => ?_)
  refine r_lstore (pc := 694) cx dL_law_694 (by decide) rfl ?_
  refine r_iconst (pc := 696) cx dL_law_696 ?_
  refine r_iload (pc := 697) cx dL_law_697 rfl ?_
  refine r_bipush (pc := 699) (v := 96) cx dL_law_699 (by decide +kernel) ?_
  refine r_idiv (pc := 701) cx dL_law_701 (by decide +kernel) ?_
  refine r_sipush (pc := 702) (v := 2000) cx dL_law_702 (by decide +kernel) ?_
  refine r_irem (pc := 705) cx dL_law_705 (by decide +kernel) ?_
  refine r_iadd (pc := 706) cx dL_law_706 ?_
  refine r_nmi (fun y41 => ?_)
  refine r_istore (pc := 707) cx dL_law_707 (by decide) rfl ?_
  refine r_aload_n (pc := 709) cx dL_law_709 rfl ?_
  refine r_iload (pc := 710) cx dL_law_710 rfl ?_
  refine r_iload (pc := 712) cx dL_law_712 rfl ?_
  refine r_bipush (pc := 714) (v := 16) cx dL_law_714 (by decide +kernel) ?_
  refine r_idiv (pc := 716) cx dL_law_716 (by decide +kernel) ?_
  refine r_iconst (pc := 717) cx dL_law_717 ?_
  refine r_irem (pc := 718) cx dL_law_718 (by decide +kernel) ?_
  refine r_iload (pc := 719) cx dL_law_719 rfl ?_
  refine r_wj (pc := 721) (nb := 21800) (k := (kc + 1)) (mc := 1) (Mx := 400000) cx (tL_bring hB h66 h67 h68 hl x10 (qrem (qdiv x7 16) 4) y41 σ40) qmh_L_bring wm_L_158 dL_law_721 rfl rfl (Nat.le_of_ble_eq_true rfl) ⟨Nat.le_of_ble_eq_true rfl, Nat.le_of_ble_eq_true rfl⟩ ⟨Nat.le_of_ble_eq_true rfl, Nat.le_of_ble_eq_true rfl⟩ ⟨Nat.le_of_ble_eq_true rfl, Nat.le_of_ble_eq_true rfl⟩ (by omega) (fun r721 σ42 => ?_)
  refine r_iload (pc := 724) cx dL_law_724 rfl ?_
  refine r_if_eq (tgt := 738) cx dL_law_726 (by decide) ?_ ?_
  · refine r_ldc2 (pc := 738) (v := (-9000000000000000003)) cx dL_law_738 wq_L_21 ?_
    exact qS.sub (qsub_cons rfl (qsub_cons rfl (qsub_cons rfl (qsub_cons rfl (qsub_cons rfl (qsub_cons rfl (qsub_nil _))))))) (tL_law_c741 cx hX hB h66 h67 h68 hl hk18 _ _ _ _ _ _ _ _)
  · refine r_lload (pc := 729) cx dL_law_729 rfl ?_
    refine r_iload (pc := 731) cx dL_law_731 rfl ?_
    refine r_i2l (pc := 733) cx dL_law_733 ?_
    refine r_ladd (pc := 734) cx dL_law_734 ?_
    refine r_goto (pc := 735) (tgt := 741) cx dL_law_735 (by decide) ?_
    exact qS.sub (qsub_cons rfl (qsub_cons rfl (qsub_cons rfl (qsub_cons rfl (qsub_cons rfl (qsub_cons rfl (qsub_nil _))))))) (tL_law_c741 cx hX hB h66 h67 h68 hl hk18 _ _ _ _ _ _ _ _)
def fL_law_c665 (L : Nat) (xs : Nat → Int32) (k18 : Nat → Int → Int → Int → qSt → Option Unit) (kc : Nat) (x3 : Int) (x6 : Int) (x7 : Int) (x8 : Int) (x10 : Int) (x13 : Int) (σ : qSt) : Option Unit :=
  (qif (kc + 0 ≤ 400000) (if qI (qlcmp x13 1) = 0 then (fL_law_c677 L xs k18 kc x3 x6 x7 x8 x10 0 σ) else (fL_law_c677 L xs k18 kc x3 x6 x7 x8 x10 1 σ)))
set_option maxRecDepth 100000 in
set_option maxHeartbeats 4000000 in
theorem tL_law_c665 {p : Program} {l : Launch} {e : Env} {s : State} {m : MethodId} {below : List Frame} {meth : Method} {c : Code} {g : qG} {w : qWd} {ad : Nat → Nat} {b L : Nat} {xs : Nat → Int32} (cx : qCx p s m meth c cL_law 22 RL (some .boolean) g s.heap.size) (hX : qScr b L xs s.heap.size s) (hB : qBC g ad w) (h66 : w 66 = none) (h67 : w 67 = none) (h68 : w 68 = none) (hl : l.stackTraces = false) {k18 : Nat → Int → Int → Int → qSt → Option Unit} (hk18 : ∀ (kc : Nat) (x2 : Int) (x3 : Int) (x6 : Int) (σ : qSt), qS p l e room_1 s m #[Value.ref b] below meth c 22 g s.heap.size w kc (21800 + 6 * kc) (fun _ => lw_Z below #[Value.ref b] s) (k18 kc x2 x3 x6 σ) σ 18 [(0, some (.ref b)), (1, some (.ref (ad 0))), (2, some (.int (qI x2))), (3, some (.int (qI x3))), (6, some (.int (qI x6)))] []) (kc : Nat) (x3 : Int) (x6 : Int) (x7 : Int) (x8 : Int) (x10 : Int) (x13 : Int) (σ : qSt) : qS p l e room_1 s m #[Value.ref b] below meth c 22 g s.heap.size w kc (21800 + 6 * kc) (fun _ => lw_Z below #[Value.ref b] s) (fL_law_c665 L xs k18 kc x3 x6 x7 x8 x10 x13 σ) σ 665 [(0, some (.ref b)), (1, some (.ref (ad 0))), (3, some (.int (qI x3))), (6, some (.int (qI x6))), (7, some (.int (qI x7))), (8, some (.int (qI x8))), (10, some (.int (qI x10))), (13, some (.long (qJ x13)))] [] := by
  unfold fL_law_c665
  refine r_qif (fun hkc => ?_)
  refine r_lload (pc := 665) cx dL_law_665 rfl ?_
  refine r_lconst (pc := 667) (z := 1) cx dL_law_667 (by decide +kernel) ?_
  refine r_lcmp (pc := 668) cx dL_law_668 ?_
  refine r_if_eq (tgt := 676) cx dL_law_669 (by decide) ?_ ?_
  · refine r_iconst (pc := 676) cx dL_law_676 ?_
    exact qS.sub (qsub_cons rfl (qsub_cons rfl (qsub_cons rfl (qsub_cons rfl (qsub_cons rfl (qsub_cons rfl (qsub_cons rfl (qsub_nil _)))))))) (tL_law_c677 cx hX hB h66 h67 h68 hl hk18 _ _ _ _ _ _ _ _)
  · refine r_iconst (pc := 672) cx dL_law_672 ?_
    refine r_goto (pc := 673) (tgt := 677) cx dL_law_673 (by decide) ?_
    exact qS.sub (qsub_cons rfl (qsub_cons rfl (qsub_cons rfl (qsub_cons rfl (qsub_cons rfl (qsub_cons rfl (qsub_cons rfl (qsub_nil _)))))))) (tL_law_c677 cx hX hB h66 h67 h68 hl hk18 _ _ _ _ _ _ _ _)
def fL_law_c653 (L : Nat) (xs : Nat → Int32) (k18 : Nat → Int → Int → Int → qSt → Option Unit) (kc : Nat) (x2 : Int) (x6 : Int) (x7 : Int) (x8 : Int) (s0 : Int) (s1 : Int) (σ : qSt) : Option Unit :=
  (qif (kc + 0 ≤ 400000) (qb (s1 + s0) fun (y65 : Int) => (fL_law_c1178 L xs k18 kc x2 y65 x6 x7 x8 σ)))
set_option maxRecDepth 100000 in
set_option maxHeartbeats 4000000 in
theorem tL_law_c653 {p : Program} {l : Launch} {e : Env} {s : State} {m : MethodId} {below : List Frame} {meth : Method} {c : Code} {g : qG} {w : qWd} {ad : Nat → Nat} {b L : Nat} {xs : Nat → Int32} (cx : qCx p s m meth c cL_law 22 RL (some .boolean) g s.heap.size) (hX : qScr b L xs s.heap.size s) (hB : qBC g ad w) (h66 : w 66 = none) (h67 : w 67 = none) (h68 : w 68 = none) (hl : l.stackTraces = false) {k18 : Nat → Int → Int → Int → qSt → Option Unit} (hk18 : ∀ (kc : Nat) (x2 : Int) (x3 : Int) (x6 : Int) (σ : qSt), qS p l e room_1 s m #[Value.ref b] below meth c 22 g s.heap.size w kc (21800 + 6 * kc) (fun _ => lw_Z below #[Value.ref b] s) (k18 kc x2 x3 x6 σ) σ 18 [(0, some (.ref b)), (1, some (.ref (ad 0))), (2, some (.int (qI x2))), (3, some (.int (qI x3))), (6, some (.int (qI x6)))] []) (kc : Nat) (x2 : Int) (x6 : Int) (x7 : Int) (x8 : Int) (s0 : Int) (s1 : Int) (σ : qSt) : qS p l e room_1 s m #[Value.ref b] below meth c 22 g s.heap.size w kc (21800 + 6 * kc) (fun _ => lw_Z below #[Value.ref b] s) (fL_law_c653 L xs k18 kc x2 x6 x7 x8 s0 s1 σ) σ 653 [(0, some (.ref b)), (1, some (.ref (ad 0))), (2, some (.int (qI x2))), (6, some (.int (qI x6))), (7, some (.int (qI x7))), (8, some (.int (qI x8)))] [.int (qI s0), .int (qI s1)] := by
  unfold fL_law_c653
  refine r_qif (fun hkc => ?_)
  refine r_iadd (pc := 653) cx dL_law_653 ?_
  refine r_nmi (fun y65 => ?_)
  refine r_istore_n (pc := 654) cx dL_law_654 (by decide) rfl ?_
  refine r_goto (pc := 655) (tgt := 1178) cx dL_law_655 (by decide) ?_
  exact qS.sub (qsub_cons rfl (qsub_cons rfl (qsub_cons rfl (qsub_cons rfl (qsub_cons rfl (qsub_cons rfl (qsub_cons rfl (qsub_nil _)))))))) (tL_law_c1178 cx hX hB h66 h67 h68 hl hk18 _ _ _ _ _ _ _)
def fL_law_c641 (L : Nat) (xs : Nat → Int32) (k18 : Nat → Int → Int → Int → qSt → Option Unit) (kc : Nat) (x3 : Int) (x6 : Int) (x7 : Int) (x8 : Int) (x15 : Int) (s0 : Int) (σ : qSt) : Option Unit :=
  (qif (kc + 0 ≤ 400000) (if qI x15 = 0 then (fL_law_c653 L xs k18 kc s0 x6 x7 x8 0 x3 σ) else (fL_law_c653 L xs k18 kc s0 x6 x7 x8 1 x3 σ)))
set_option maxRecDepth 100000 in
set_option maxHeartbeats 4000000 in
theorem tL_law_c641 {p : Program} {l : Launch} {e : Env} {s : State} {m : MethodId} {below : List Frame} {meth : Method} {c : Code} {g : qG} {w : qWd} {ad : Nat → Nat} {b L : Nat} {xs : Nat → Int32} (cx : qCx p s m meth c cL_law 22 RL (some .boolean) g s.heap.size) (hX : qScr b L xs s.heap.size s) (hB : qBC g ad w) (h66 : w 66 = none) (h67 : w 67 = none) (h68 : w 68 = none) (hl : l.stackTraces = false) {k18 : Nat → Int → Int → Int → qSt → Option Unit} (hk18 : ∀ (kc : Nat) (x2 : Int) (x3 : Int) (x6 : Int) (σ : qSt), qS p l e room_1 s m #[Value.ref b] below meth c 22 g s.heap.size w kc (21800 + 6 * kc) (fun _ => lw_Z below #[Value.ref b] s) (k18 kc x2 x3 x6 σ) σ 18 [(0, some (.ref b)), (1, some (.ref (ad 0))), (2, some (.int (qI x2))), (3, some (.int (qI x3))), (6, some (.int (qI x6)))] []) (kc : Nat) (x3 : Int) (x6 : Int) (x7 : Int) (x8 : Int) (x15 : Int) (s0 : Int) (σ : qSt) : qS p l e room_1 s m #[Value.ref b] below meth c 22 g s.heap.size w kc (21800 + 6 * kc) (fun _ => lw_Z below #[Value.ref b] s) (fL_law_c641 L xs k18 kc x3 x6 x7 x8 x15 s0 σ) σ 641 [(0, some (.ref b)), (1, some (.ref (ad 0))), (3, some (.int (qI x3))), (6, some (.int (qI x6))), (7, some (.int (qI x7))), (8, some (.int (qI x8))), (15, some (.int (qI x15)))] [.int (qI s0)] := by
  unfold fL_law_c641
  refine r_qif (fun hkc => ?_)
  refine r_istore_n (pc := 641) cx dL_law_641 (by decide) rfl ?_
  refine r_iload_n (pc := 642) cx dL_law_642 rfl ?_
  refine r_iload (pc := 643) cx dL_law_643 rfl ?_
  refine r_if_eq (tgt := 652) cx dL_law_645 (by decide) ?_ ?_
  · refine r_iconst (pc := 652) cx dL_law_652 ?_
    exact qS.sub (qsub_cons rfl (qsub_cons rfl (qsub_cons rfl (qsub_cons rfl (qsub_cons rfl (qsub_cons rfl (qsub_nil _))))))) (tL_law_c653 cx hX hB h66 h67 h68 hl hk18 _ _ _ _ _ _ _ _)
  · refine r_iconst (pc := 648) cx dL_law_648 ?_
    refine r_goto (pc := 649) (tgt := 653) cx dL_law_649 (by decide) ?_
    exact qS.sub (qsub_cons rfl (qsub_cons rfl (qsub_cons rfl (qsub_cons rfl (qsub_cons rfl (qsub_cons rfl (qsub_nil _))))))) (tL_law_c653 cx hX hB h66 h67 h68 hl hk18 _ _ _ _ _ _ _ _)
def fL_law_c632 (L : Nat) (xs : Nat → Int32) (k18 : Nat → Int → Int → Int → qSt → Option Unit) (kc : Nat) (x3 : Int) (x6 : Int) (x7 : Int) (x8 : Int) (x15 : Int) (s0 : Int) (s1 : Int) (σ : qSt) : Option Unit :=
  (qif (kc + 0 ≤ 400000) (if qI (qlcmp s1 s0) = 0 then (fL_law_c641 L xs k18 kc x3 x6 x7 x8 x15 1 σ) else (fL_law_c641 L xs k18 kc x3 x6 x7 x8 x15 0 σ)))
set_option maxRecDepth 100000 in
set_option maxHeartbeats 4000000 in
theorem tL_law_c632 {p : Program} {l : Launch} {e : Env} {s : State} {m : MethodId} {below : List Frame} {meth : Method} {c : Code} {g : qG} {w : qWd} {ad : Nat → Nat} {b L : Nat} {xs : Nat → Int32} (cx : qCx p s m meth c cL_law 22 RL (some .boolean) g s.heap.size) (hX : qScr b L xs s.heap.size s) (hB : qBC g ad w) (h66 : w 66 = none) (h67 : w 67 = none) (h68 : w 68 = none) (hl : l.stackTraces = false) {k18 : Nat → Int → Int → Int → qSt → Option Unit} (hk18 : ∀ (kc : Nat) (x2 : Int) (x3 : Int) (x6 : Int) (σ : qSt), qS p l e room_1 s m #[Value.ref b] below meth c 22 g s.heap.size w kc (21800 + 6 * kc) (fun _ => lw_Z below #[Value.ref b] s) (k18 kc x2 x3 x6 σ) σ 18 [(0, some (.ref b)), (1, some (.ref (ad 0))), (2, some (.int (qI x2))), (3, some (.int (qI x3))), (6, some (.int (qI x6)))] []) (kc : Nat) (x3 : Int) (x6 : Int) (x7 : Int) (x8 : Int) (x15 : Int) (s0 : Int) (s1 : Int) (σ : qSt) : qS p l e room_1 s m #[Value.ref b] below meth c 22 g s.heap.size w kc (21800 + 6 * kc) (fun _ => lw_Z below #[Value.ref b] s) (fL_law_c632 L xs k18 kc x3 x6 x7 x8 x15 s0 s1 σ) σ 632 [(0, some (.ref b)), (1, some (.ref (ad 0))), (3, some (.int (qI x3))), (6, some (.int (qI x6))), (7, some (.int (qI x7))), (8, some (.int (qI x8))), (15, some (.int (qI x15)))] [.long (qJ s0), .long (qJ s1)] := by
  unfold fL_law_c632
  refine r_qif (fun hkc => ?_)
  refine r_lcmp (pc := 632) cx dL_law_632 ?_
  refine r_if_ne (tgt := 640) cx dL_law_633 (by decide) ?_ ?_
  · refine r_iconst (pc := 640) cx dL_law_640 ?_
    exact qS.sub (qsub_cons rfl (qsub_cons rfl (qsub_cons rfl (qsub_cons rfl (qsub_cons rfl (qsub_cons rfl (qsub_cons rfl (qsub_nil _)))))))) (tL_law_c641 cx hX hB h66 h67 h68 hl hk18 _ _ _ _ _ _ _ _)
  · refine r_iconst (pc := 636) cx dL_law_636 ?_
    refine r_goto (pc := 637) (tgt := 641) cx dL_law_637 (by decide) ?_
    exact qS.sub (qsub_cons rfl (qsub_cons rfl (qsub_cons rfl (qsub_cons rfl (qsub_cons rfl (qsub_cons rfl (qsub_cons rfl (qsub_nil _)))))))) (tL_law_c641 cx hX hB h66 h67 h68 hl hk18 _ _ _ _ _ _ _ _)
def fL_law_c611 (L : Nat) (xs : Nat → Int32) (k18 : Nat → Int → Int → Int → qSt → Option Unit) (kc : Nat) (x3 : Int) (x6 : Int) (x7 : Int) (x8 : Int) (x10 : Int) (s0 : Int) (σ : qSt) : Option Unit :=
  (qif (kc + 1 ≤ 400000) (qbd (fL_probe x10 σ) fun (r616 : Int) (σ43 : qSt) => (if qI s0 = 0 then (fL_law_c632 L xs k18 (kc + 1) x3 x6 x7 x8 s0 (-9000000000000000003) r616 σ43) else (fL_law_c632 L xs k18 (kc + 1) x3 x6 x7 x8 s0 (qi2l x3) r616 σ43))))
set_option maxRecDepth 100000 in
set_option maxHeartbeats 4000000 in
theorem tL_law_c611 {p : Program} {l : Launch} {e : Env} {s : State} {m : MethodId} {below : List Frame} {meth : Method} {c : Code} {g : qG} {w : qWd} {ad : Nat → Nat} {b L : Nat} {xs : Nat → Int32} (cx : qCx p s m meth c cL_law 22 RL (some .boolean) g s.heap.size) (hX : qScr b L xs s.heap.size s) (hB : qBC g ad w) (h66 : w 66 = none) (h67 : w 67 = none) (h68 : w 68 = none) (hl : l.stackTraces = false) {k18 : Nat → Int → Int → Int → qSt → Option Unit} (hk18 : ∀ (kc : Nat) (x2 : Int) (x3 : Int) (x6 : Int) (σ : qSt), qS p l e room_1 s m #[Value.ref b] below meth c 22 g s.heap.size w kc (21800 + 6 * kc) (fun _ => lw_Z below #[Value.ref b] s) (k18 kc x2 x3 x6 σ) σ 18 [(0, some (.ref b)), (1, some (.ref (ad 0))), (2, some (.int (qI x2))), (3, some (.int (qI x3))), (6, some (.int (qI x6)))] []) (kc : Nat) (x3 : Int) (x6 : Int) (x7 : Int) (x8 : Int) (x10 : Int) (s0 : Int) (σ : qSt) : qS p l e room_1 s m #[Value.ref b] below meth c 22 g s.heap.size w kc (21800 + 6 * kc) (fun _ => lw_Z below #[Value.ref b] s) (fL_law_c611 L xs k18 kc x3 x6 x7 x8 x10 s0 σ) σ 611 [(0, some (.ref b)), (1, some (.ref (ad 0))), (3, some (.int (qI x3))), (6, some (.int (qI x6))), (7, some (.int (qI x7))), (8, some (.int (qI x8))), (10, some (.int (qI x10)))] [.int (qI s0)] := by
  unfold fL_law_c611
  refine r_qif (fun hkc => ?_)
  refine r_istore (pc := 611) cx dL_law_611 (by decide) rfl ?_
  refine r_aload_n (pc := 613) cx dL_law_613 rfl ?_
  refine r_iload (pc := 614) cx dL_law_614 rfl ?_
  refine r_wj (pc := 616) (nb := 21800) (k := kc) (mc := 1) (Mx := 400000) cx (tL_probe hB h66 h67 h68 hl x10 σ) qmh_L_probe wm_L_154 dL_law_616 rfl rfl (Nat.le_of_ble_eq_true rfl) ⟨Nat.le_of_ble_eq_true rfl, Nat.le_of_ble_eq_true rfl⟩ ⟨Nat.le_of_ble_eq_true rfl, Nat.le_of_ble_eq_true rfl⟩ ⟨Nat.le_of_ble_eq_true rfl, Nat.le_of_ble_eq_true rfl⟩ (by omega) (fun r616 σ43 => ?_)
  refine r_iload (pc := 619) cx dL_law_619 rfl ?_
  refine r_if_eq (tgt := 629) cx dL_law_621 (by decide) ?_ ?_
  · refine r_ldc2 (pc := 629) (v := (-9000000000000000003)) cx dL_law_629 wq_L_21 ?_
    exact qS.sub (qsub_cons rfl (qsub_cons rfl (qsub_cons rfl (qsub_cons rfl (qsub_cons rfl (qsub_cons rfl (qsub_cons rfl (qsub_nil _)))))))) (tL_law_c632 cx hX hB h66 h67 h68 hl hk18 _ _ _ _ _ _ _ _ _)
  · refine r_iload_n (pc := 624) cx dL_law_624 rfl ?_
    refine r_i2l (pc := 625) cx dL_law_625 ?_
    refine r_goto (pc := 626) (tgt := 632) cx dL_law_626 (by decide) ?_
    exact qS.sub (qsub_cons rfl (qsub_cons rfl (qsub_cons rfl (qsub_cons rfl (qsub_cons rfl (qsub_cons rfl (qsub_cons rfl (qsub_nil _)))))))) (tL_law_c632 cx hX hB h66 h67 h68 hl hk18 _ _ _ _ _ _ _ _ _)
def fL_law_c610 (L : Nat) (xs : Nat → Int32) (k18 : Nat → Int → Int → Int → qSt → Option Unit) (kc : Nat) (x3 : Int) (x6 : Int) (x7 : Int) (x8 : Int) (x10 : Int) (σ : qSt) : Option Unit :=
  (qif (kc + 0 ≤ 400000) (fL_law_c611 L xs k18 kc x3 x6 x7 x8 x10 0 σ))
set_option maxRecDepth 100000 in
set_option maxHeartbeats 4000000 in
theorem tL_law_c610 {p : Program} {l : Launch} {e : Env} {s : State} {m : MethodId} {below : List Frame} {meth : Method} {c : Code} {g : qG} {w : qWd} {ad : Nat → Nat} {b L : Nat} {xs : Nat → Int32} (cx : qCx p s m meth c cL_law 22 RL (some .boolean) g s.heap.size) (hX : qScr b L xs s.heap.size s) (hB : qBC g ad w) (h66 : w 66 = none) (h67 : w 67 = none) (h68 : w 68 = none) (hl : l.stackTraces = false) {k18 : Nat → Int → Int → Int → qSt → Option Unit} (hk18 : ∀ (kc : Nat) (x2 : Int) (x3 : Int) (x6 : Int) (σ : qSt), qS p l e room_1 s m #[Value.ref b] below meth c 22 g s.heap.size w kc (21800 + 6 * kc) (fun _ => lw_Z below #[Value.ref b] s) (k18 kc x2 x3 x6 σ) σ 18 [(0, some (.ref b)), (1, some (.ref (ad 0))), (2, some (.int (qI x2))), (3, some (.int (qI x3))), (6, some (.int (qI x6)))] []) (kc : Nat) (x3 : Int) (x6 : Int) (x7 : Int) (x8 : Int) (x10 : Int) (σ : qSt) : qS p l e room_1 s m #[Value.ref b] below meth c 22 g s.heap.size w kc (21800 + 6 * kc) (fun _ => lw_Z below #[Value.ref b] s) (fL_law_c610 L xs k18 kc x3 x6 x7 x8 x10 σ) σ 610 [(0, some (.ref b)), (1, some (.ref (ad 0))), (3, some (.int (qI x3))), (6, some (.int (qI x6))), (7, some (.int (qI x7))), (8, some (.int (qI x8))), (10, some (.int (qI x10)))] [] := by
  unfold fL_law_c610
  refine r_qif (fun hkc => ?_)
  refine r_iconst (pc := 610) cx dL_law_610 ?_
  exact qS.sub (qsub_cons rfl (qsub_cons rfl (qsub_cons rfl (qsub_cons rfl (qsub_cons rfl (qsub_cons rfl (qsub_cons rfl (qsub_nil _)))))))) (tL_law_c611 cx hX hB h66 h67 h68 hl hk18 _ _ _ _ _ _ _ _)
def fL_law_c594 (L : Nat) (xs : Nat → Int32) (k18 : Nat → Int → Int → Int → qSt → Option Unit) (kc : Nat) (x3 : Int) (x6 : Int) (x7 : Int) (x8 : Int) (x10 : Int) (x13 : Int) (σ : qSt) : Option Unit :=
  (qif (kc + 0 ≤ 400000) (if qI (qlcmp x13 1) = 0 then (fL_law_c610 L xs k18 kc x3 x6 x7 x8 x10 σ) else (if qI 4 ≤ qI x3 then (fL_law_c610 L xs k18 kc x3 x6 x7 x8 x10 σ) else (fL_law_c611 L xs k18 kc x3 x6 x7 x8 x10 1 σ))))
set_option maxRecDepth 100000 in
set_option maxHeartbeats 4000000 in
theorem tL_law_c594 {p : Program} {l : Launch} {e : Env} {s : State} {m : MethodId} {below : List Frame} {meth : Method} {c : Code} {g : qG} {w : qWd} {ad : Nat → Nat} {b L : Nat} {xs : Nat → Int32} (cx : qCx p s m meth c cL_law 22 RL (some .boolean) g s.heap.size) (hX : qScr b L xs s.heap.size s) (hB : qBC g ad w) (h66 : w 66 = none) (h67 : w 67 = none) (h68 : w 68 = none) (hl : l.stackTraces = false) {k18 : Nat → Int → Int → Int → qSt → Option Unit} (hk18 : ∀ (kc : Nat) (x2 : Int) (x3 : Int) (x6 : Int) (σ : qSt), qS p l e room_1 s m #[Value.ref b] below meth c 22 g s.heap.size w kc (21800 + 6 * kc) (fun _ => lw_Z below #[Value.ref b] s) (k18 kc x2 x3 x6 σ) σ 18 [(0, some (.ref b)), (1, some (.ref (ad 0))), (2, some (.int (qI x2))), (3, some (.int (qI x3))), (6, some (.int (qI x6)))] []) (kc : Nat) (x3 : Int) (x6 : Int) (x7 : Int) (x8 : Int) (x10 : Int) (x13 : Int) (σ : qSt) : qS p l e room_1 s m #[Value.ref b] below meth c 22 g s.heap.size w kc (21800 + 6 * kc) (fun _ => lw_Z below #[Value.ref b] s) (fL_law_c594 L xs k18 kc x3 x6 x7 x8 x10 x13 σ) σ 594 [(0, some (.ref b)), (1, some (.ref (ad 0))), (3, some (.int (qI x3))), (6, some (.int (qI x6))), (7, some (.int (qI x7))), (8, some (.int (qI x8))), (10, some (.int (qI x10))), (13, some (.long (qJ x13)))] [] := by
  unfold fL_law_c594
  refine r_qif (fun hkc => ?_)
  refine r_lload (pc := 594) cx dL_law_594 rfl ?_
  refine r_lconst (pc := 596) (z := 1) cx dL_law_596 (by decide +kernel) ?_
  refine r_lcmp (pc := 597) cx dL_law_597 ?_
  refine r_if_eq (tgt := 610) cx dL_law_598 (by decide) ?_ ?_
  · exact qS.sub (qsub_cons rfl (qsub_cons rfl (qsub_cons rfl (qsub_cons rfl (qsub_cons rfl (qsub_cons rfl (qsub_cons rfl (qsub_nil _)))))))) (tL_law_c610 cx hX hB h66 h67 h68 hl hk18 _ _ _ _ _ _ _)
  · refine r_iload_n (pc := 601) cx dL_law_601 rfl ?_
    refine r_iconst (pc := 602) cx dL_law_602 ?_
    refine r_icmp_ge (tgt := 610) cx dL_law_603 (by decide) ?_ ?_
    · exact qS.sub (qsub_cons rfl (qsub_cons rfl (qsub_cons rfl (qsub_cons rfl (qsub_cons rfl (qsub_cons rfl (qsub_cons rfl (qsub_nil _)))))))) (tL_law_c610 cx hX hB h66 h67 h68 hl hk18 _ _ _ _ _ _ _)
    · refine r_iconst (pc := 606) cx dL_law_606 ?_
      refine r_goto (pc := 607) (tgt := 611) cx dL_law_607 (by decide) ?_
      exact qS.sub (qsub_cons rfl (qsub_cons rfl (qsub_cons rfl (qsub_cons rfl (qsub_cons rfl (qsub_cons rfl (qsub_cons rfl (qsub_nil _)))))))) (tL_law_c611 cx hX hB h66 h67 h68 hl hk18 _ _ _ _ _ _ _ _)
def fL_law_c583 (L : Nat) (xs : Nat → Int32) (k18 : Nat → Int → Int → Int → qSt → Option Unit) (kc : Nat) (x3 : Int) (x6 : Int) (x7 : Int) (x8 : Int) (s0 : Int) (σ : qSt) : Option Unit :=
  (qif (kc + 0 ≤ 400000) (fL_law_c1178 L xs k18 kc s0 x3 x6 x7 x8 σ))
set_option maxRecDepth 100000 in
set_option maxHeartbeats 4000000 in
theorem tL_law_c583 {p : Program} {l : Launch} {e : Env} {s : State} {m : MethodId} {below : List Frame} {meth : Method} {c : Code} {g : qG} {w : qWd} {ad : Nat → Nat} {b L : Nat} {xs : Nat → Int32} (cx : qCx p s m meth c cL_law 22 RL (some .boolean) g s.heap.size) (hX : qScr b L xs s.heap.size s) (hB : qBC g ad w) (h66 : w 66 = none) (h67 : w 67 = none) (h68 : w 68 = none) (hl : l.stackTraces = false) {k18 : Nat → Int → Int → Int → qSt → Option Unit} (hk18 : ∀ (kc : Nat) (x2 : Int) (x3 : Int) (x6 : Int) (σ : qSt), qS p l e room_1 s m #[Value.ref b] below meth c 22 g s.heap.size w kc (21800 + 6 * kc) (fun _ => lw_Z below #[Value.ref b] s) (k18 kc x2 x3 x6 σ) σ 18 [(0, some (.ref b)), (1, some (.ref (ad 0))), (2, some (.int (qI x2))), (3, some (.int (qI x3))), (6, some (.int (qI x6)))] []) (kc : Nat) (x3 : Int) (x6 : Int) (x7 : Int) (x8 : Int) (s0 : Int) (σ : qSt) : qS p l e room_1 s m #[Value.ref b] below meth c 22 g s.heap.size w kc (21800 + 6 * kc) (fun _ => lw_Z below #[Value.ref b] s) (fL_law_c583 L xs k18 kc x3 x6 x7 x8 s0 σ) σ 583 [(0, some (.ref b)), (1, some (.ref (ad 0))), (3, some (.int (qI x3))), (6, some (.int (qI x6))), (7, some (.int (qI x7))), (8, some (.int (qI x8)))] [.int (qI s0)] := by
  unfold fL_law_c583
  refine r_qif (fun hkc => ?_)
  refine r_istore_n (pc := 583) cx dL_law_583 (by decide) rfl ?_
  refine r_goto (pc := 584) (tgt := 1178) cx dL_law_584 (by decide) ?_
  exact qS.sub (qsub_cons rfl (qsub_cons rfl (qsub_cons rfl (qsub_cons rfl (qsub_cons rfl (qsub_cons rfl (qsub_cons rfl (qsub_nil _)))))))) (tL_law_c1178 cx hX hB h66 h67 h68 hl hk18 _ _ _ _ _ _ _)
def fL_law_c582 (L : Nat) (xs : Nat → Int32) (k18 : Nat → Int → Int → Int → qSt → Option Unit) (kc : Nat) (x3 : Int) (x6 : Int) (x7 : Int) (x8 : Int) (σ : qSt) : Option Unit :=
  (qif (kc + 0 ≤ 400000) (fL_law_c583 L xs k18 kc x3 x6 x7 x8 0 σ))
set_option maxRecDepth 100000 in
set_option maxHeartbeats 4000000 in
theorem tL_law_c582 {p : Program} {l : Launch} {e : Env} {s : State} {m : MethodId} {below : List Frame} {meth : Method} {c : Code} {g : qG} {w : qWd} {ad : Nat → Nat} {b L : Nat} {xs : Nat → Int32} (cx : qCx p s m meth c cL_law 22 RL (some .boolean) g s.heap.size) (hX : qScr b L xs s.heap.size s) (hB : qBC g ad w) (h66 : w 66 = none) (h67 : w 67 = none) (h68 : w 68 = none) (hl : l.stackTraces = false) {k18 : Nat → Int → Int → Int → qSt → Option Unit} (hk18 : ∀ (kc : Nat) (x2 : Int) (x3 : Int) (x6 : Int) (σ : qSt), qS p l e room_1 s m #[Value.ref b] below meth c 22 g s.heap.size w kc (21800 + 6 * kc) (fun _ => lw_Z below #[Value.ref b] s) (k18 kc x2 x3 x6 σ) σ 18 [(0, some (.ref b)), (1, some (.ref (ad 0))), (2, some (.int (qI x2))), (3, some (.int (qI x3))), (6, some (.int (qI x6)))] []) (kc : Nat) (x3 : Int) (x6 : Int) (x7 : Int) (x8 : Int) (σ : qSt) : qS p l e room_1 s m #[Value.ref b] below meth c 22 g s.heap.size w kc (21800 + 6 * kc) (fun _ => lw_Z below #[Value.ref b] s) (fL_law_c582 L xs k18 kc x3 x6 x7 x8 σ) σ 582 [(0, some (.ref b)), (1, some (.ref (ad 0))), (3, some (.int (qI x3))), (6, some (.int (qI x6))), (7, some (.int (qI x7))), (8, some (.int (qI x8)))] [] := by
  unfold fL_law_c582
  refine r_qif (fun hkc => ?_)
  refine r_iconst (pc := 582) cx dL_law_582 ?_
  exact qS.sub (qsub_cons rfl (qsub_cons rfl (qsub_cons rfl (qsub_cons rfl (qsub_cons rfl (qsub_cons rfl (qsub_nil _))))))) (tL_law_c583 cx hX hB h66 h67 h68 hl hk18 _ _ _ _ _ _ _)
def fL_law_c538 (L : Nat) (xs : Nat → Int32) (k18 : Nat → Int → Int → Int → qSt → Option Unit) (kc : Nat) (x3 : Int) (x6 : Int) (x7 : Int) (x8 : Int) (x10 : Int) (σ : qSt) : Option Unit :=
  (qif (kc + 4 ≤ 400000) (qbd (fL_ink x10 σ) fun (r541 : Int) (σ26 : qSt) => (if qI (qlcmp r541 0) < 0 then (fL_law_c582 L xs k18 (kc + 1) x3 x6 x7 x8 σ26) else (qbd (fL_cellOf x10 3 σ26) fun (r553 : Int) (σ27 : qSt) => (qbd (fL_cellOf x10 2 σ27) fun (r560 : Int) (σ28 : qSt) => (if qI (qlcmp r553 r560) = 0 then (qbd (fL_ink x10 σ28) fun (r570 : Int) (σ29 : qSt) => (if qI (qlcmp r570 0) = 0 then (fL_law_c583 L xs k18 ((((kc + 1) + 1) + 1) + 1) x3 x6 x7 x8 1 σ29) else (fL_law_c582 L xs k18 ((((kc + 1) + 1) + 1) + 1) x3 x6 x7 x8 σ29))) else (fL_law_c582 L xs k18 (((kc + 1) + 1) + 1) x3 x6 x7 x8 σ28)))))))
set_option maxRecDepth 100000 in
set_option maxHeartbeats 4000000 in
theorem tL_law_c538 {p : Program} {l : Launch} {e : Env} {s : State} {m : MethodId} {below : List Frame} {meth : Method} {c : Code} {g : qG} {w : qWd} {ad : Nat → Nat} {b L : Nat} {xs : Nat → Int32} (cx : qCx p s m meth c cL_law 22 RL (some .boolean) g s.heap.size) (hX : qScr b L xs s.heap.size s) (hB : qBC g ad w) (h66 : w 66 = none) (h67 : w 67 = none) (h68 : w 68 = none) (hl : l.stackTraces = false) {k18 : Nat → Int → Int → Int → qSt → Option Unit} (hk18 : ∀ (kc : Nat) (x2 : Int) (x3 : Int) (x6 : Int) (σ : qSt), qS p l e room_1 s m #[Value.ref b] below meth c 22 g s.heap.size w kc (21800 + 6 * kc) (fun _ => lw_Z below #[Value.ref b] s) (k18 kc x2 x3 x6 σ) σ 18 [(0, some (.ref b)), (1, some (.ref (ad 0))), (2, some (.int (qI x2))), (3, some (.int (qI x3))), (6, some (.int (qI x6)))] []) (kc : Nat) (x3 : Int) (x6 : Int) (x7 : Int) (x8 : Int) (x10 : Int) (σ : qSt) : qS p l e room_1 s m #[Value.ref b] below meth c 22 g s.heap.size w kc (21800 + 6 * kc) (fun _ => lw_Z below #[Value.ref b] s) (fL_law_c538 L xs k18 kc x3 x6 x7 x8 x10 σ) σ 538 [(0, some (.ref b)), (1, some (.ref (ad 0))), (3, some (.int (qI x3))), (6, some (.int (qI x6))), (7, some (.int (qI x7))), (8, some (.int (qI x8))), (10, some (.int (qI x10)))] [] := by
  unfold fL_law_c538
  refine r_qif (fun hkc => ?_)
  refine r_aload_n (pc := 538) cx dL_law_538 rfl ?_
  refine r_iload (pc := 539) cx dL_law_539 rfl ?_
  refine r_wj (pc := 541) (nb := 21800) (k := kc) (mc := 1) (Mx := 400000) cx (tL_ink hB h66 h67 h68 hl x10 σ) qmh_L_ink wm_L_152 dL_law_541 rfl rfl (Nat.le_of_ble_eq_true rfl) ⟨Nat.le_of_ble_eq_true rfl, Nat.le_of_ble_eq_true rfl⟩ ⟨Nat.le_of_ble_eq_true rfl, Nat.le_of_ble_eq_true rfl⟩ ⟨Nat.le_of_ble_eq_true rfl, Nat.le_of_ble_eq_true rfl⟩ (by omega) (fun r541 σ26 => ?_)
  refine r_lconst (pc := 544) (z := 0) cx dL_law_544 (by decide +kernel) ?_
  refine r_lcmp (pc := 545) cx dL_law_545 ?_
  refine r_if_lt (tgt := 582) cx dL_law_546 (by decide) ?_ ?_
  · exact qS.sub (qsub_cons rfl (qsub_cons rfl (qsub_cons rfl (qsub_cons rfl (qsub_cons rfl (qsub_cons rfl (qsub_nil _))))))) (tL_law_c582 cx hX hB h66 h67 h68 hl hk18 _ _ _ _ _ _)
  · refine r_aload_n (pc := 549) cx dL_law_549 rfl ?_
    refine r_iload (pc := 550) cx dL_law_550 rfl ?_
    refine r_iconst (pc := 552) cx dL_law_552 ?_
    refine r_wj (pc := 553) (nb := 21800) (k := (kc + 1)) (mc := 1) (Mx := 400000) cx (tL_cellOf hB h66 h67 h68 hl x10 3 σ26) qmh_L_cellOf wm_L_101 dL_law_553 rfl rfl (Nat.le_of_ble_eq_true rfl) ⟨Nat.le_of_ble_eq_true rfl, Nat.le_of_ble_eq_true rfl⟩ ⟨Nat.le_of_ble_eq_true rfl, Nat.le_of_ble_eq_true rfl⟩ ⟨Nat.le_of_ble_eq_true rfl, Nat.le_of_ble_eq_true rfl⟩ (by omega) (fun r553 σ27 => ?_)
    refine r_aload_n (pc := 556) cx dL_law_556 rfl ?_
    refine r_iload (pc := 557) cx dL_law_557 rfl ?_
    refine r_iconst (pc := 559) cx dL_law_559 ?_
    refine r_wj (pc := 560) (nb := 21800) (k := ((kc + 1) + 1)) (mc := 1) (Mx := 400000) cx (tL_cellOf hB h66 h67 h68 hl x10 2 σ27) qmh_L_cellOf wm_L_101 dL_law_560 rfl rfl (Nat.le_of_ble_eq_true rfl) ⟨Nat.le_of_ble_eq_true rfl, Nat.le_of_ble_eq_true rfl⟩ ⟨Nat.le_of_ble_eq_true rfl, Nat.le_of_ble_eq_true rfl⟩ ⟨Nat.le_of_ble_eq_true rfl, Nat.le_of_ble_eq_true rfl⟩ (by omega) (fun r560 σ28 => ?_)
    refine r_lcmp (pc := 563) cx dL_law_563 ?_
    refine r_if_ne (tgt := 582) cx dL_law_564 (by decide) ?_ ?_
    · exact qS.sub (qsub_cons rfl (qsub_cons rfl (qsub_cons rfl (qsub_cons rfl (qsub_cons rfl (qsub_cons rfl (qsub_nil _))))))) (tL_law_c582 cx hX hB h66 h67 h68 hl hk18 _ _ _ _ _ _)
    · refine r_aload_n (pc := 567) cx dL_law_567 rfl ?_
      refine r_iload (pc := 568) cx dL_law_568 rfl ?_
      refine r_wj (pc := 570) (nb := 21800) (k := (((kc + 1) + 1) + 1)) (mc := 1) (Mx := 400000) cx (tL_ink hB h66 h67 h68 hl x10 σ28) qmh_L_ink wm_L_152 dL_law_570 rfl rfl (Nat.le_of_ble_eq_true rfl) ⟨Nat.le_of_ble_eq_true rfl, Nat.le_of_ble_eq_true rfl⟩ ⟨Nat.le_of_ble_eq_true rfl, Nat.le_of_ble_eq_true rfl⟩ ⟨Nat.le_of_ble_eq_true rfl, Nat.le_of_ble_eq_true rfl⟩ (by omega) (fun r570 σ29 => ?_)
      refine r_lconst (pc := 573) (z := 0) cx dL_law_573 (by decide +kernel) ?_
      refine r_lcmp (pc := 574) cx dL_law_574 ?_
      refine r_if_ne (tgt := 582) cx dL_law_575 (by decide) ?_ ?_
      · exact qS.sub (qsub_cons rfl (qsub_cons rfl (qsub_cons rfl (qsub_cons rfl (qsub_cons rfl (qsub_cons rfl (qsub_nil _))))))) (tL_law_c582 cx hX hB h66 h67 h68 hl hk18 _ _ _ _ _ _)
      · refine r_iconst (pc := 578) cx dL_law_578 ?_
        refine r_goto (pc := 579) (tgt := 583) cx dL_law_579 (by decide) ?_
        exact qS.sub (qsub_cons rfl (qsub_cons rfl (qsub_cons rfl (qsub_cons rfl (qsub_cons rfl (qsub_cons rfl (qsub_nil _))))))) (tL_law_c583 cx hX hB h66 h67 h68 hl hk18 _ _ _ _ _ _ _)
def fL_law_c528 (L : Nat) (xs : Nat → Int32) (k18 : Nat → Int → Int → Int → qSt → Option Unit) (kc : Nat) (x2 : Int) (x3 : Int) (x6 : Int) (x7 : Int) (x8 : Int) (σ : qSt) : Option Unit :=
  (qif (kc + 0 ≤ 400000) (fL_law_c1178 L xs k18 kc x2 x3 x6 x7 x8 σ))
set_option maxRecDepth 100000 in
set_option maxHeartbeats 4000000 in
theorem tL_law_c528 {p : Program} {l : Launch} {e : Env} {s : State} {m : MethodId} {below : List Frame} {meth : Method} {c : Code} {g : qG} {w : qWd} {ad : Nat → Nat} {b L : Nat} {xs : Nat → Int32} (cx : qCx p s m meth c cL_law 22 RL (some .boolean) g s.heap.size) (hX : qScr b L xs s.heap.size s) (hB : qBC g ad w) (h66 : w 66 = none) (h67 : w 67 = none) (h68 : w 68 = none) (hl : l.stackTraces = false) {k18 : Nat → Int → Int → Int → qSt → Option Unit} (hk18 : ∀ (kc : Nat) (x2 : Int) (x3 : Int) (x6 : Int) (σ : qSt), qS p l e room_1 s m #[Value.ref b] below meth c 22 g s.heap.size w kc (21800 + 6 * kc) (fun _ => lw_Z below #[Value.ref b] s) (k18 kc x2 x3 x6 σ) σ 18 [(0, some (.ref b)), (1, some (.ref (ad 0))), (2, some (.int (qI x2))), (3, some (.int (qI x3))), (6, some (.int (qI x6)))] []) (kc : Nat) (x2 : Int) (x3 : Int) (x6 : Int) (x7 : Int) (x8 : Int) (σ : qSt) : qS p l e room_1 s m #[Value.ref b] below meth c 22 g s.heap.size w kc (21800 + 6 * kc) (fun _ => lw_Z below #[Value.ref b] s) (fL_law_c528 L xs k18 kc x2 x3 x6 x7 x8 σ) σ 528 [(0, some (.ref b)), (1, some (.ref (ad 0))), (2, some (.int (qI x2))), (3, some (.int (qI x3))), (6, some (.int (qI x6))), (7, some (.int (qI x7))), (8, some (.int (qI x8)))] [] := by
  unfold fL_law_c528
  refine r_qif (fun hkc => ?_)
  refine r_goto (pc := 528) (tgt := 1178) cx dL_law_528 (by decide) ?_
  exact qS.sub (qsub_cons rfl (qsub_cons rfl (qsub_cons rfl (qsub_cons rfl (qsub_cons rfl (qsub_cons rfl (qsub_cons rfl (qsub_nil _)))))))) (tL_law_c1178 cx hX hB h66 h67 h68 hl hk18 _ _ _ _ _ _ _)
def fL_law_c521 (L : Nat) (xs : Nat → Int32) (k18 : Nat → Int → Int → Int → qSt → Option Unit) (k405 : Nat → Int → Int → Int → Int → Int → Int → Int → qSt → Option Unit) (kc : Nat) (x3 : Int) (x6 : Int) (x7 : Int) (x8 : Int) (x10 : Int) (x15 : Int) (s0 : Int) (σ : qSt) : Option Unit :=
  (qif (kc + 0 ≤ 400000) (k405 kc s0 x3 x6 x7 x8 x10 (x15 + 1) σ))
set_option maxRecDepth 100000 in
set_option maxHeartbeats 4000000 in
theorem tL_law_c521 {p : Program} {l : Launch} {e : Env} {s : State} {m : MethodId} {below : List Frame} {meth : Method} {c : Code} {g : qG} {w : qWd} {ad : Nat → Nat} {b L : Nat} {xs : Nat → Int32} (cx : qCx p s m meth c cL_law 22 RL (some .boolean) g s.heap.size) (hX : qScr b L xs s.heap.size s) (hB : qBC g ad w) (h66 : w 66 = none) (h67 : w 67 = none) (h68 : w 68 = none) (hl : l.stackTraces = false) {k18 : Nat → Int → Int → Int → qSt → Option Unit} (hk18 : ∀ (kc : Nat) (x2 : Int) (x3 : Int) (x6 : Int) (σ : qSt), qS p l e room_1 s m #[Value.ref b] below meth c 22 g s.heap.size w kc (21800 + 6 * kc) (fun _ => lw_Z below #[Value.ref b] s) (k18 kc x2 x3 x6 σ) σ 18 [(0, some (.ref b)), (1, some (.ref (ad 0))), (2, some (.int (qI x2))), (3, some (.int (qI x3))), (6, some (.int (qI x6)))] []) {k405 : Nat → Int → Int → Int → Int → Int → Int → Int → qSt → Option Unit} (hk405 : ∀ (kc : Nat) (x2 : Int) (x3 : Int) (x6 : Int) (x7 : Int) (x8 : Int) (x10 : Int) (x15 : Int) (σ : qSt), qS p l e room_1 s m #[Value.ref b] below meth c 22 g s.heap.size w kc (21800 + 6 * kc) (fun _ => lw_Z below #[Value.ref b] s) (k405 kc x2 x3 x6 x7 x8 x10 x15 σ) σ 405 [(0, some (.ref b)), (1, some (.ref (ad 0))), (2, some (.int (qI x2))), (3, some (.int (qI x3))), (6, some (.int (qI x6))), (7, some (.int (qI x7))), (8, some (.int (qI x8))), (10, some (.int (qI x10))), (15, some (.int (qI x15)))] []) (kc : Nat) (x3 : Int) (x6 : Int) (x7 : Int) (x8 : Int) (x10 : Int) (x15 : Int) (s0 : Int) (σ : qSt) : qS p l e room_1 s m #[Value.ref b] below meth c 22 g s.heap.size w kc (21800 + 6 * kc) (fun _ => lw_Z below #[Value.ref b] s) (fL_law_c521 L xs k18 k405 kc x3 x6 x7 x8 x10 x15 s0 σ) σ 521 [(0, some (.ref b)), (1, some (.ref (ad 0))), (3, some (.int (qI x3))), (6, some (.int (qI x6))), (7, some (.int (qI x7))), (8, some (.int (qI x8))), (10, some (.int (qI x10))), (15, some (.int (qI x15)))] [.int (qI s0)] := by
  unfold fL_law_c521
  refine r_qif (fun hkc => ?_)
  refine r_istore_n (pc := 521) cx dL_law_521 (by decide) rfl ?_
  refine r_iinc (pc := 522) cx dL_law_522 rfl (by decide) rfl ?_
  refine r_goto (pc := 525) (tgt := 405) cx dL_law_525 (by decide) ?_
  exact qS.sub (qsub_cons rfl (qsub_cons rfl (qsub_cons rfl (qsub_cons rfl (qsub_cons rfl (qsub_cons rfl (qsub_cons rfl (qsub_cons rfl (qsub_cons rfl (qsub_nil _)))))))))) (hk405 _ _ _ _ _ _ _ _ _)
def fL_law_c512 (L : Nat) (xs : Nat → Int32) (k18 : Nat → Int → Int → Int → qSt → Option Unit) (k405 : Nat → Int → Int → Int → Int → Int → Int → Int → qSt → Option Unit) (kc : Nat) (x3 : Int) (x6 : Int) (x7 : Int) (x8 : Int) (x10 : Int) (x15 : Int) (s0 : Int) (s1 : Int) (σ : qSt) : Option Unit :=
  (qif (kc + 0 ≤ 400000) (if qI (qlcmp s1 s0) = 0 then (fL_law_c521 L xs k18 k405 kc x3 x6 x7 x8 x10 x15 1 σ) else (fL_law_c521 L xs k18 k405 kc x3 x6 x7 x8 x10 x15 0 σ)))
set_option maxRecDepth 100000 in
set_option maxHeartbeats 4000000 in
theorem tL_law_c512 {p : Program} {l : Launch} {e : Env} {s : State} {m : MethodId} {below : List Frame} {meth : Method} {c : Code} {g : qG} {w : qWd} {ad : Nat → Nat} {b L : Nat} {xs : Nat → Int32} (cx : qCx p s m meth c cL_law 22 RL (some .boolean) g s.heap.size) (hX : qScr b L xs s.heap.size s) (hB : qBC g ad w) (h66 : w 66 = none) (h67 : w 67 = none) (h68 : w 68 = none) (hl : l.stackTraces = false) {k18 : Nat → Int → Int → Int → qSt → Option Unit} (hk18 : ∀ (kc : Nat) (x2 : Int) (x3 : Int) (x6 : Int) (σ : qSt), qS p l e room_1 s m #[Value.ref b] below meth c 22 g s.heap.size w kc (21800 + 6 * kc) (fun _ => lw_Z below #[Value.ref b] s) (k18 kc x2 x3 x6 σ) σ 18 [(0, some (.ref b)), (1, some (.ref (ad 0))), (2, some (.int (qI x2))), (3, some (.int (qI x3))), (6, some (.int (qI x6)))] []) {k405 : Nat → Int → Int → Int → Int → Int → Int → Int → qSt → Option Unit} (hk405 : ∀ (kc : Nat) (x2 : Int) (x3 : Int) (x6 : Int) (x7 : Int) (x8 : Int) (x10 : Int) (x15 : Int) (σ : qSt), qS p l e room_1 s m #[Value.ref b] below meth c 22 g s.heap.size w kc (21800 + 6 * kc) (fun _ => lw_Z below #[Value.ref b] s) (k405 kc x2 x3 x6 x7 x8 x10 x15 σ) σ 405 [(0, some (.ref b)), (1, some (.ref (ad 0))), (2, some (.int (qI x2))), (3, some (.int (qI x3))), (6, some (.int (qI x6))), (7, some (.int (qI x7))), (8, some (.int (qI x8))), (10, some (.int (qI x10))), (15, some (.int (qI x15)))] []) (kc : Nat) (x3 : Int) (x6 : Int) (x7 : Int) (x8 : Int) (x10 : Int) (x15 : Int) (s0 : Int) (s1 : Int) (σ : qSt) : qS p l e room_1 s m #[Value.ref b] below meth c 22 g s.heap.size w kc (21800 + 6 * kc) (fun _ => lw_Z below #[Value.ref b] s) (fL_law_c512 L xs k18 k405 kc x3 x6 x7 x8 x10 x15 s0 s1 σ) σ 512 [(0, some (.ref b)), (1, some (.ref (ad 0))), (3, some (.int (qI x3))), (6, some (.int (qI x6))), (7, some (.int (qI x7))), (8, some (.int (qI x8))), (10, some (.int (qI x10))), (15, some (.int (qI x15)))] [.long (qJ s0), .long (qJ s1)] := by
  unfold fL_law_c512
  refine r_qif (fun hkc => ?_)
  refine r_lcmp (pc := 512) cx dL_law_512 ?_
  refine r_if_ne (tgt := 520) cx dL_law_513 (by decide) ?_ ?_
  · refine r_iconst (pc := 520) cx dL_law_520 ?_
    exact qS.sub (qsub_cons rfl (qsub_cons rfl (qsub_cons rfl (qsub_cons rfl (qsub_cons rfl (qsub_cons rfl (qsub_cons rfl (qsub_cons rfl (qsub_nil _))))))))) (tL_law_c521 cx hX hB h66 h67 h68 hl hk18 hk405 _ _ _ _ _ _ _ _ _)
  · refine r_iconst (pc := 516) cx dL_law_516 ?_
    refine r_goto (pc := 517) (tgt := 521) cx dL_law_517 (by decide) ?_
    exact qS.sub (qsub_cons rfl (qsub_cons rfl (qsub_cons rfl (qsub_cons rfl (qsub_cons rfl (qsub_cons rfl (qsub_cons rfl (qsub_cons rfl (qsub_nil _))))))))) (tL_law_c521 cx hX hB h66 h67 h68 hl hk18 hk405 _ _ _ _ _ _ _ _ _)
def fL_law_c474 (L : Nat) (xs : Nat → Int32) (k18 : Nat → Int → Int → Int → qSt → Option Unit) (k405 : Nat → Int → Int → Int → Int → Int → Int → Int → qSt → Option Unit) (kc : Nat) (x3 : Int) (x6 : Int) (x7 : Int) (x8 : Int) (x10 : Int) (x15 : Int) (x16 : Int) (x17 : Int) (s0 : Int) (σ : qSt) : Option Unit :=
  (qif (kc + 2 ≤ 400000) (qbd (fL_cellOf x16 2 σ) fun (r480 : Int) (σ59 : qSt) => (qbd (fL_particle x16 x17 σ59) fun (r490 : Int) (σ60 : qSt) => (if qI s0 = 0 then (fL_law_c512 L xs k18 k405 ((kc + 1) + 1) x3 x6 x7 x8 x10 x15 (-9000000000000000003) r490 σ60) else (fL_law_c512 L xs k18 k405 ((kc + 1) + 1) x3 x6 x7 x8 x10 x15 (r480 + (qi2l (qshl 1 x17))) r490 σ60)))))
set_option maxRecDepth 100000 in
set_option maxHeartbeats 4000000 in
theorem tL_law_c474 {p : Program} {l : Launch} {e : Env} {s : State} {m : MethodId} {below : List Frame} {meth : Method} {c : Code} {g : qG} {w : qWd} {ad : Nat → Nat} {b L : Nat} {xs : Nat → Int32} (cx : qCx p s m meth c cL_law 22 RL (some .boolean) g s.heap.size) (hX : qScr b L xs s.heap.size s) (hB : qBC g ad w) (h66 : w 66 = none) (h67 : w 67 = none) (h68 : w 68 = none) (hl : l.stackTraces = false) {k18 : Nat → Int → Int → Int → qSt → Option Unit} (hk18 : ∀ (kc : Nat) (x2 : Int) (x3 : Int) (x6 : Int) (σ : qSt), qS p l e room_1 s m #[Value.ref b] below meth c 22 g s.heap.size w kc (21800 + 6 * kc) (fun _ => lw_Z below #[Value.ref b] s) (k18 kc x2 x3 x6 σ) σ 18 [(0, some (.ref b)), (1, some (.ref (ad 0))), (2, some (.int (qI x2))), (3, some (.int (qI x3))), (6, some (.int (qI x6)))] []) {k405 : Nat → Int → Int → Int → Int → Int → Int → Int → qSt → Option Unit} (hk405 : ∀ (kc : Nat) (x2 : Int) (x3 : Int) (x6 : Int) (x7 : Int) (x8 : Int) (x10 : Int) (x15 : Int) (σ : qSt), qS p l e room_1 s m #[Value.ref b] below meth c 22 g s.heap.size w kc (21800 + 6 * kc) (fun _ => lw_Z below #[Value.ref b] s) (k405 kc x2 x3 x6 x7 x8 x10 x15 σ) σ 405 [(0, some (.ref b)), (1, some (.ref (ad 0))), (2, some (.int (qI x2))), (3, some (.int (qI x3))), (6, some (.int (qI x6))), (7, some (.int (qI x7))), (8, some (.int (qI x8))), (10, some (.int (qI x10))), (15, some (.int (qI x15)))] []) (kc : Nat) (x3 : Int) (x6 : Int) (x7 : Int) (x8 : Int) (x10 : Int) (x15 : Int) (x16 : Int) (x17 : Int) (s0 : Int) (σ : qSt) : qS p l e room_1 s m #[Value.ref b] below meth c 22 g s.heap.size w kc (21800 + 6 * kc) (fun _ => lw_Z below #[Value.ref b] s) (fL_law_c474 L xs k18 k405 kc x3 x6 x7 x8 x10 x15 x16 x17 s0 σ) σ 474 [(0, some (.ref b)), (1, some (.ref (ad 0))), (3, some (.int (qI x3))), (6, some (.int (qI x6))), (7, some (.int (qI x7))), (8, some (.int (qI x8))), (10, some (.int (qI x10))), (15, some (.int (qI x15))), (16, some (.int (qI x16))), (17, some (.int (qI x17)))] [.int (qI s0)] := by
  unfold fL_law_c474
  refine r_qif (fun hkc => ?_)
  refine r_istore (pc := 474) cx dL_law_474 (by decide) rfl ?_
  refine r_aload_n (pc := 476) cx dL_law_476 rfl ?_
  refine r_iload (pc := 477) cx dL_law_477 rfl ?_
  refine r_iconst (pc := 479) cx dL_law_479 ?_
  refine r_wj (pc := 480) (nb := 21800) (k := kc) (mc := 1) (Mx := 400000) cx (tL_cellOf hB h66 h67 h68 hl x16 2 σ) qmh_L_cellOf wm_L_101 dL_law_480 rfl rfl (Nat.le_of_ble_eq_true rfl) ⟨Nat.le_of_ble_eq_true rfl, Nat.le_of_ble_eq_true rfl⟩ ⟨Nat.le_of_ble_eq_true rfl, Nat.le_of_ble_eq_true rfl⟩ ⟨Nat.le_of_ble_eq_true rfl, Nat.le_of_ble_eq_true rfl⟩ (by omega) (fun r480 σ59 => ?_)
  refine r_lstore (pc := 483) cx dL_law_483 (by decide) rfl ?_
  refine r_aload_n (pc := 485) cx dL_law_485 rfl ?_
  refine r_iload (pc := 486) cx dL_law_486 rfl ?_
  refine r_iload (pc := 488) cx dL_law_488 rfl ?_
  refine r_wj (pc := 490) (nb := 21800) (k := (kc + 1)) (mc := 1) (Mx := 400000) cx (tL_particle hB h66 h67 h68 hl x16 x17 σ59) qmh_L_particle wm_L_150 dL_law_490 rfl rfl (Nat.le_of_ble_eq_true rfl) ⟨Nat.le_of_ble_eq_true rfl, Nat.le_of_ble_eq_true rfl⟩ ⟨Nat.le_of_ble_eq_true rfl, Nat.le_of_ble_eq_true rfl⟩ ⟨Nat.le_of_ble_eq_true rfl, Nat.le_of_ble_eq_true rfl⟩ (by omega) (fun r490 σ60 => ?_)
  refine r_iload (pc := 493) cx dL_law_493 rfl ?_
  refine r_if_eq (tgt := 509) cx dL_law_495 (by decide) ?_ ?_
  · refine r_ldc2 (pc := 509) (v := (-9000000000000000003)) cx dL_law_509 wq_L_21 ?_
    exact qS.sub (qsub_cons rfl (qsub_cons rfl (qsub_cons rfl (qsub_cons rfl (qsub_cons rfl (qsub_cons rfl (qsub_cons rfl (qsub_cons rfl (qsub_nil _))))))))) (tL_law_c512 cx hX hB h66 h67 h68 hl hk18 hk405 _ _ _ _ _ _ _ _ _ _)
  · refine r_lload (pc := 498) cx dL_law_498 rfl ?_
    refine r_iconst (pc := 500) cx dL_law_500 ?_
    refine r_iload (pc := 501) cx dL_law_501 rfl ?_
    refine r_ishl (pc := 503) cx dL_law_503 ?_
    refine r_i2l (pc := 504) cx dL_law_504 ?_
    refine r_ladd (pc := 505) cx dL_law_505 ?_
    refine r_goto (pc := 506) (tgt := 512) cx dL_law_506 (by decide) ?_
    exact qS.sub (qsub_cons rfl (qsub_cons rfl (qsub_cons rfl (qsub_cons rfl (qsub_cons rfl (qsub_cons rfl (qsub_cons rfl (qsub_cons rfl (qsub_nil _))))))))) (tL_law_c512 cx hX hB h66 h67 h68 hl hk18 hk405 _ _ _ _ _ _ _ _ _ _)
def fL_law_c473 (L : Nat) (xs : Nat → Int32) (k18 : Nat → Int → Int → Int → qSt → Option Unit) (k405 : Nat → Int → Int → Int → Int → Int → Int → Int → qSt → Option Unit) (kc : Nat) (x3 : Int) (x6 : Int) (x7 : Int) (x8 : Int) (x10 : Int) (x15 : Int) (x16 : Int) (x17 : Int) (σ : qSt) : Option Unit :=
  (qif (kc + 0 ≤ 400000) (fL_law_c474 L xs k18 k405 kc x3 x6 x7 x8 x10 x15 x16 x17 0 σ))
set_option maxRecDepth 100000 in
set_option maxHeartbeats 4000000 in
theorem tL_law_c473 {p : Program} {l : Launch} {e : Env} {s : State} {m : MethodId} {below : List Frame} {meth : Method} {c : Code} {g : qG} {w : qWd} {ad : Nat → Nat} {b L : Nat} {xs : Nat → Int32} (cx : qCx p s m meth c cL_law 22 RL (some .boolean) g s.heap.size) (hX : qScr b L xs s.heap.size s) (hB : qBC g ad w) (h66 : w 66 = none) (h67 : w 67 = none) (h68 : w 68 = none) (hl : l.stackTraces = false) {k18 : Nat → Int → Int → Int → qSt → Option Unit} (hk18 : ∀ (kc : Nat) (x2 : Int) (x3 : Int) (x6 : Int) (σ : qSt), qS p l e room_1 s m #[Value.ref b] below meth c 22 g s.heap.size w kc (21800 + 6 * kc) (fun _ => lw_Z below #[Value.ref b] s) (k18 kc x2 x3 x6 σ) σ 18 [(0, some (.ref b)), (1, some (.ref (ad 0))), (2, some (.int (qI x2))), (3, some (.int (qI x3))), (6, some (.int (qI x6)))] []) {k405 : Nat → Int → Int → Int → Int → Int → Int → Int → qSt → Option Unit} (hk405 : ∀ (kc : Nat) (x2 : Int) (x3 : Int) (x6 : Int) (x7 : Int) (x8 : Int) (x10 : Int) (x15 : Int) (σ : qSt), qS p l e room_1 s m #[Value.ref b] below meth c 22 g s.heap.size w kc (21800 + 6 * kc) (fun _ => lw_Z below #[Value.ref b] s) (k405 kc x2 x3 x6 x7 x8 x10 x15 σ) σ 405 [(0, some (.ref b)), (1, some (.ref (ad 0))), (2, some (.int (qI x2))), (3, some (.int (qI x3))), (6, some (.int (qI x6))), (7, some (.int (qI x7))), (8, some (.int (qI x8))), (10, some (.int (qI x10))), (15, some (.int (qI x15)))] []) (kc : Nat) (x3 : Int) (x6 : Int) (x7 : Int) (x8 : Int) (x10 : Int) (x15 : Int) (x16 : Int) (x17 : Int) (σ : qSt) : qS p l e room_1 s m #[Value.ref b] below meth c 22 g s.heap.size w kc (21800 + 6 * kc) (fun _ => lw_Z below #[Value.ref b] s) (fL_law_c473 L xs k18 k405 kc x3 x6 x7 x8 x10 x15 x16 x17 σ) σ 473 [(0, some (.ref b)), (1, some (.ref (ad 0))), (3, some (.int (qI x3))), (6, some (.int (qI x6))), (7, some (.int (qI x7))), (8, some (.int (qI x8))), (10, some (.int (qI x10))), (15, some (.int (qI x15))), (16, some (.int (qI x16))), (17, some (.int (qI x17)))] [] := by
  unfold fL_law_c473
  refine r_qif (fun hkc => ?_)
  refine r_iconst (pc := 473) cx dL_law_473 ?_
  exact qS.sub (qsub_cons rfl (qsub_cons rfl (qsub_cons rfl (qsub_cons rfl (qsub_cons rfl (qsub_cons rfl (qsub_cons rfl (qsub_cons rfl (qsub_cons rfl (qsub_cons rfl (qsub_nil _))))))))))) (tL_law_c474 cx hX hB h66 h67 h68 hl hk18 hk405 _ _ _ _ _ _ _ _ _ _ _)
def fL_law_c405 (L : Nat) (xs : Nat → Int32) (k18 : Nat → Int → Int → Int → qSt → Option Unit) : Nat → Nat → Int → Int → Int → Int → Int → Int → Int → qSt → Option Unit
  | 0, _, _, _, _, _, _, _, _, _ => none
  | f + 1, kc, x2, x3, x6, x7, x8, x10, x15, σ => (qif (kc + 2 ≤ 400000) (if qI 6 ≤ qI x15 then (fL_law_c528 L xs k18 kc x2 x3 x6 x7 x8 σ) else (if qI x2 = 0 then (fL_law_c528 L xs k18 kc x2 x3 x6 x7 x8 σ) else (qb (qrem (x10 + (17 * x15)) 96) fun (y44 : Int) => (qb (qrem ((qdiv x8 96) + x15) 4) fun (y45 : Int) => (qbd (fL_cellOf y44 0 σ) fun (r445 : Int) (σ46 : qSt) => (if qI (qlcmp r445 1) = 0 then (fL_law_c473 L xs k18 (fL_law_c405 L xs k18 f) (kc + 1) x3 x6 x7 x8 x10 x15 y44 y45 σ46) else (qbd (fL_cellOf y44 2 σ46) fun (r457 : Int) (σ47 : qSt) => (if qI (qand (qshr (ql2i r457) y45) 1) = 0 then (fL_law_c474 L xs k18 (fL_law_c405 L xs k18 f) ((kc + 1) + 1) x3 x6 x7 x8 x10 x15 y44 y45 1 σ47) else (fL_law_c473 L xs k18 (fL_law_c405 L xs k18 f) ((kc + 1) + 1) x3 x6 x7 x8 x10 x15 y44 y45 σ47))))))))))
set_option maxRecDepth 100000 in
set_option maxHeartbeats 4000000 in
theorem tL_law_c405 {p : Program} {l : Launch} {e : Env} {s : State} {m : MethodId} {below : List Frame} {meth : Method} {c : Code} {g : qG} {w : qWd} {ad : Nat → Nat} {b L : Nat} {xs : Nat → Int32} (cx : qCx p s m meth c cL_law 22 RL (some .boolean) g s.heap.size) (hX : qScr b L xs s.heap.size s) (hB : qBC g ad w) (h66 : w 66 = none) (h67 : w 67 = none) (h68 : w 68 = none) (hl : l.stackTraces = false) {k18 : Nat → Int → Int → Int → qSt → Option Unit} (hk18 : ∀ (kc : Nat) (x2 : Int) (x3 : Int) (x6 : Int) (σ : qSt), qS p l e room_1 s m #[Value.ref b] below meth c 22 g s.heap.size w kc (21800 + 6 * kc) (fun _ => lw_Z below #[Value.ref b] s) (k18 kc x2 x3 x6 σ) σ 18 [(0, some (.ref b)), (1, some (.ref (ad 0))), (2, some (.int (qI x2))), (3, some (.int (qI x3))), (6, some (.int (qI x6)))] []) : ∀ (f : Nat) (kc : Nat) (x2 : Int) (x3 : Int) (x6 : Int) (x7 : Int) (x8 : Int) (x10 : Int) (x15 : Int) (σ : qSt), qS p l e room_1 s m #[Value.ref b] below meth c 22 g s.heap.size w kc (21800 + 6 * kc) (fun _ => lw_Z below #[Value.ref b] s) (fL_law_c405 L xs k18 f kc x2 x3 x6 x7 x8 x10 x15 σ) σ 405 [(0, some (.ref b)), (1, some (.ref (ad 0))), (2, some (.int (qI x2))), (3, some (.int (qI x3))), (6, some (.int (qI x6))), (7, some (.int (qI x7))), (8, some (.int (qI x8))), (10, some (.int (qI x10))), (15, some (.int (qI x15)))] [] := by
  intro f
  induction f with
  | zero => exact fun _ _ _ _ _ _ _ _ _ => qS.fail
  | succ f ih =>
    intro kc x2 x3 x6 x7 x8 x10 x15 σ
    unfold fL_law_c405
    refine r_qif (fun hkc => ?_)
    refine r_iload (pc := 405) cx dL_law_405 rfl ?_
    refine r_bipush (pc := 407) (v := 6) cx dL_law_407 (by decide +kernel) ?_
    refine r_icmp_ge (tgt := 528) cx dL_law_409 (by decide) ?_ ?_
    · exact qS.sub (qsub_cons rfl (qsub_cons rfl (qsub_cons rfl (qsub_cons rfl (qsub_cons rfl (qsub_cons rfl (qsub_cons rfl (qsub_nil _)))))))) (tL_law_c528 cx hX hB h66 h67 h68 hl hk18 _ _ _ _ _ _ _)
    · refine r_iload_n (pc := 412) cx dL_law_412 rfl ?_
      refine r_if_eq (tgt := 528) cx dL_law_413 (by decide) ?_ ?_
      · exact qS.sub (qsub_cons rfl (qsub_cons rfl (qsub_cons rfl (qsub_cons rfl (qsub_cons rfl (qsub_cons rfl (qsub_cons rfl (qsub_nil _)))))))) (tL_law_c528 cx hX hB h66 h67 h68 hl hk18 _ _ _ _ _ _ _)
      · refine r_iload (pc := 416) cx dL_law_416 rfl ?_
        refine r_bipush (pc := 418) (v := 17) cx dL_law_418 (by decide +kernel) ?_
        refine r_iload (pc := 420) cx dL_law_420 rfl ?_
        refine r_imul (pc := 422) cx dL_law_422 ?_
        refine r_iadd (pc := 423) cx dL_law_423 ?_
        refine r_bipush (pc := 424) (v := 96) cx dL_law_424 (by decide +kernel) ?_
        refine r_irem (pc := 426) cx dL_law_426 (by decide +kernel) ?_
        refine r_nmi (fun y44 => ?_)
        refine r_istore (pc := 427) cx dL_law_427 (by decide) rfl ?_
        refine r_iload (pc := 429) cx dL_law_429 rfl ?_
        refine r_bipush (pc := 431) (v := 96) cx dL_law_431 (by decide +kernel) ?_
        refine r_idiv (pc := 433) cx dL_law_433 (by decide +kernel) ?_
        refine r_iload (pc := 434) cx dL_law_434 rfl ?_
        refine r_iadd (pc := 436) cx dL_law_436 ?_
        refine r_iconst (pc := 437) cx dL_law_437 ?_
        refine r_irem (pc := 438) cx dL_law_438 (by decide +kernel) ?_
        refine r_nmi (fun y45 => ?_)
        refine r_istore (pc := 439) cx dL_law_439 (by decide) rfl ?_
        refine r_aload_n (pc := 441) cx dL_law_441 rfl ?_
        refine r_iload (pc := 442) cx dL_law_442 rfl ?_
        refine r_iconst (pc := 444) cx dL_law_444 ?_
        refine r_wj (pc := 445) (nb := 21800) (k := kc) (mc := 1) (Mx := 400000) cx (tL_cellOf hB h66 h67 h68 hl y44 0 σ) qmh_L_cellOf wm_L_101 dL_law_445 rfl rfl (Nat.le_of_ble_eq_true rfl) ⟨Nat.le_of_ble_eq_true rfl, Nat.le_of_ble_eq_true rfl⟩ ⟨Nat.le_of_ble_eq_true rfl, Nat.le_of_ble_eq_true rfl⟩ ⟨Nat.le_of_ble_eq_true rfl, Nat.le_of_ble_eq_true rfl⟩ (by omega) (fun r445 σ46 => ?_)
        refine r_lconst (pc := 448) (z := 1) cx dL_law_448 (by decide +kernel) ?_
        refine r_lcmp (pc := 449) cx dL_law_449 ?_
        refine r_if_eq (tgt := 473) cx dL_law_450 (by decide) ?_ ?_
        · exact qS.sub (qsub_cons rfl (qsub_cons rfl (qsub_cons rfl (qsub_cons rfl (qsub_cons rfl (qsub_cons rfl (qsub_cons rfl (qsub_cons rfl (qsub_cons rfl (qsub_cons rfl (qsub_nil _))))))))))) (tL_law_c473 cx hX hB h66 h67 h68 hl hk18 ih _ _ _ _ _ _ _ _ _ _)
        · refine r_aload_n (pc := 453) cx dL_law_453 rfl ?_
          refine r_iload (pc := 454) cx dL_law_454 rfl ?_
          refine r_iconst (pc := 456) cx dL_law_456 ?_
          refine r_wj (pc := 457) (nb := 21800) (k := (kc + 1)) (mc := 1) (Mx := 400000) cx (tL_cellOf hB h66 h67 h68 hl y44 2 σ46) qmh_L_cellOf wm_L_101 dL_law_457 rfl rfl (Nat.le_of_ble_eq_true rfl) ⟨Nat.le_of_ble_eq_true rfl, Nat.le_of_ble_eq_true rfl⟩ ⟨Nat.le_of_ble_eq_true rfl, Nat.le_of_ble_eq_true rfl⟩ ⟨Nat.le_of_ble_eq_true rfl, Nat.le_of_ble_eq_true rfl⟩ (by omega) (fun r457 σ47 => ?_)
          refine r_l2i (pc := 460) cx dL_law_460 ?_
          refine r_iload (pc := 461) cx dL_law_461 rfl ?_
          refine r_ishr (pc := 463) cx dL_law_463 ?_
          refine r_iconst (pc := 464) cx dL_law_464 ?_
          refine r_iand (pc := 465) cx dL_law_465 ?_
          refine r_if_ne (tgt := 473) cx dL_law_466 (by decide) ?_ ?_
          · exact qS.sub (qsub_cons rfl (qsub_cons rfl (qsub_cons rfl (qsub_cons rfl (qsub_cons rfl (qsub_cons rfl (qsub_cons rfl (qsub_cons rfl (qsub_cons rfl (qsub_cons rfl (qsub_nil _))))))))))) (tL_law_c473 cx hX hB h66 h67 h68 hl hk18 ih _ _ _ _ _ _ _ _ _ _)
          · refine r_iconst (pc := 469) cx dL_law_469 ?_
            refine r_goto (pc := 470) (tgt := 474) cx dL_law_470 (by decide) ?_
            exact qS.sub (qsub_cons rfl (qsub_cons rfl (qsub_cons rfl (qsub_cons rfl (qsub_cons rfl (qsub_cons rfl (qsub_cons rfl (qsub_cons rfl (qsub_cons rfl (qsub_cons rfl (qsub_nil _))))))))))) (tL_law_c474 cx hX hB h66 h67 h68 hl hk18 ih _ _ _ _ _ _ _ _ _ _ _)
def fL_law_c402 (L : Nat) (xs : Nat → Int32) (k18 : Nat → Int → Int → Int → qSt → Option Unit) (kc : Nat) (x2 : Int) (x3 : Int) (x6 : Int) (x7 : Int) (x8 : Int) (x10 : Int) (σ : qSt) : Option Unit :=
  (qif (kc + 0 ≤ 400000) (fL_law_c405 L xs k18 qFU kc x2 x3 x6 x7 x8 x10 0 σ))
set_option maxRecDepth 100000 in
set_option maxHeartbeats 4000000 in
theorem tL_law_c402 {p : Program} {l : Launch} {e : Env} {s : State} {m : MethodId} {below : List Frame} {meth : Method} {c : Code} {g : qG} {w : qWd} {ad : Nat → Nat} {b L : Nat} {xs : Nat → Int32} (cx : qCx p s m meth c cL_law 22 RL (some .boolean) g s.heap.size) (hX : qScr b L xs s.heap.size s) (hB : qBC g ad w) (h66 : w 66 = none) (h67 : w 67 = none) (h68 : w 68 = none) (hl : l.stackTraces = false) {k18 : Nat → Int → Int → Int → qSt → Option Unit} (hk18 : ∀ (kc : Nat) (x2 : Int) (x3 : Int) (x6 : Int) (σ : qSt), qS p l e room_1 s m #[Value.ref b] below meth c 22 g s.heap.size w kc (21800 + 6 * kc) (fun _ => lw_Z below #[Value.ref b] s) (k18 kc x2 x3 x6 σ) σ 18 [(0, some (.ref b)), (1, some (.ref (ad 0))), (2, some (.int (qI x2))), (3, some (.int (qI x3))), (6, some (.int (qI x6)))] []) (kc : Nat) (x2 : Int) (x3 : Int) (x6 : Int) (x7 : Int) (x8 : Int) (x10 : Int) (σ : qSt) : qS p l e room_1 s m #[Value.ref b] below meth c 22 g s.heap.size w kc (21800 + 6 * kc) (fun _ => lw_Z below #[Value.ref b] s) (fL_law_c402 L xs k18 kc x2 x3 x6 x7 x8 x10 σ) σ 402 [(0, some (.ref b)), (1, some (.ref (ad 0))), (2, some (.int (qI x2))), (3, some (.int (qI x3))), (6, some (.int (qI x6))), (7, some (.int (qI x7))), (8, some (.int (qI x8))), (10, some (.int (qI x10)))] [] := by
  unfold fL_law_c402
  refine r_qif (fun hkc => ?_)
  refine r_iconst (pc := 402) cx dL_law_402 ?_
  refine r_istore (pc := 403) cx dL_law_403 (by decide) rfl ?_
  exact qS.sub (qsub_cons rfl (qsub_cons rfl (qsub_cons rfl (qsub_cons rfl (qsub_cons rfl (qsub_cons rfl (qsub_cons rfl (qsub_cons rfl (qsub_cons rfl (qsub_nil _)))))))))) (tL_law_c405 cx hX hB h66 h67 h68 hl hk18 _ _ _ _ _ _ _ _ _ _)
def fL_law_c391 (L : Nat) (xs : Nat → Int32) (k18 : Nat → Int → Int → Int → qSt → Option Unit) (kc : Nat) (x3 : Int) (x6 : Int) (x7 : Int) (x8 : Int) (s0 : Int) (σ : qSt) : Option Unit :=
  (qif (kc + 0 ≤ 400000) (fL_law_c1178 L xs k18 kc s0 x3 x6 x7 x8 σ))
set_option maxRecDepth 100000 in
set_option maxHeartbeats 4000000 in
theorem tL_law_c391 {p : Program} {l : Launch} {e : Env} {s : State} {m : MethodId} {below : List Frame} {meth : Method} {c : Code} {g : qG} {w : qWd} {ad : Nat → Nat} {b L : Nat} {xs : Nat → Int32} (cx : qCx p s m meth c cL_law 22 RL (some .boolean) g s.heap.size) (hX : qScr b L xs s.heap.size s) (hB : qBC g ad w) (h66 : w 66 = none) (h67 : w 67 = none) (h68 : w 68 = none) (hl : l.stackTraces = false) {k18 : Nat → Int → Int → Int → qSt → Option Unit} (hk18 : ∀ (kc : Nat) (x2 : Int) (x3 : Int) (x6 : Int) (σ : qSt), qS p l e room_1 s m #[Value.ref b] below meth c 22 g s.heap.size w kc (21800 + 6 * kc) (fun _ => lw_Z below #[Value.ref b] s) (k18 kc x2 x3 x6 σ) σ 18 [(0, some (.ref b)), (1, some (.ref (ad 0))), (2, some (.int (qI x2))), (3, some (.int (qI x3))), (6, some (.int (qI x6)))] []) (kc : Nat) (x3 : Int) (x6 : Int) (x7 : Int) (x8 : Int) (s0 : Int) (σ : qSt) : qS p l e room_1 s m #[Value.ref b] below meth c 22 g s.heap.size w kc (21800 + 6 * kc) (fun _ => lw_Z below #[Value.ref b] s) (fL_law_c391 L xs k18 kc x3 x6 x7 x8 s0 σ) σ 391 [(0, some (.ref b)), (1, some (.ref (ad 0))), (3, some (.int (qI x3))), (6, some (.int (qI x6))), (7, some (.int (qI x7))), (8, some (.int (qI x8)))] [.int (qI s0)] := by
  unfold fL_law_c391
  refine r_qif (fun hkc => ?_)
  refine r_istore_n (pc := 391) cx dL_law_391 (by decide) rfl ?_
  refine r_goto (pc := 392) (tgt := 1178) cx dL_law_392 (by decide) ?_
  exact qS.sub (qsub_cons rfl (qsub_cons rfl (qsub_cons rfl (qsub_cons rfl (qsub_cons rfl (qsub_cons rfl (qsub_cons rfl (qsub_nil _)))))))) (tL_law_c1178 cx hX hB h66 h67 h68 hl hk18 _ _ _ _ _ _ _)
def fL_law_c390 (L : Nat) (xs : Nat → Int32) (k18 : Nat → Int → Int → Int → qSt → Option Unit) (kc : Nat) (x3 : Int) (x6 : Int) (x7 : Int) (x8 : Int) (σ : qSt) : Option Unit :=
  (qif (kc + 0 ≤ 400000) (fL_law_c391 L xs k18 kc x3 x6 x7 x8 0 σ))
set_option maxRecDepth 100000 in
set_option maxHeartbeats 4000000 in
theorem tL_law_c390 {p : Program} {l : Launch} {e : Env} {s : State} {m : MethodId} {below : List Frame} {meth : Method} {c : Code} {g : qG} {w : qWd} {ad : Nat → Nat} {b L : Nat} {xs : Nat → Int32} (cx : qCx p s m meth c cL_law 22 RL (some .boolean) g s.heap.size) (hX : qScr b L xs s.heap.size s) (hB : qBC g ad w) (h66 : w 66 = none) (h67 : w 67 = none) (h68 : w 68 = none) (hl : l.stackTraces = false) {k18 : Nat → Int → Int → Int → qSt → Option Unit} (hk18 : ∀ (kc : Nat) (x2 : Int) (x3 : Int) (x6 : Int) (σ : qSt), qS p l e room_1 s m #[Value.ref b] below meth c 22 g s.heap.size w kc (21800 + 6 * kc) (fun _ => lw_Z below #[Value.ref b] s) (k18 kc x2 x3 x6 σ) σ 18 [(0, some (.ref b)), (1, some (.ref (ad 0))), (2, some (.int (qI x2))), (3, some (.int (qI x3))), (6, some (.int (qI x6)))] []) (kc : Nat) (x3 : Int) (x6 : Int) (x7 : Int) (x8 : Int) (σ : qSt) : qS p l e room_1 s m #[Value.ref b] below meth c 22 g s.heap.size w kc (21800 + 6 * kc) (fun _ => lw_Z below #[Value.ref b] s) (fL_law_c390 L xs k18 kc x3 x6 x7 x8 σ) σ 390 [(0, some (.ref b)), (1, some (.ref (ad 0))), (3, some (.int (qI x3))), (6, some (.int (qI x6))), (7, some (.int (qI x7))), (8, some (.int (qI x8)))] [] := by
  unfold fL_law_c390
  refine r_qif (fun hkc => ?_)
  refine r_iconst (pc := 390) cx dL_law_390 ?_
  exact qS.sub (qsub_cons rfl (qsub_cons rfl (qsub_cons rfl (qsub_cons rfl (qsub_cons rfl (qsub_cons rfl (qsub_nil _))))))) (tL_law_c391 cx hX hB h66 h67 h68 hl hk18 _ _ _ _ _ _ _)
def fL_law_c386 (L : Nat) (xs : Nat → Int32) (k18 : Nat → Int → Int → Int → qSt → Option Unit) (kc : Nat) (x3 : Int) (x6 : Int) (x7 : Int) (x8 : Int) (σ : qSt) : Option Unit :=
  (qif (kc + 0 ≤ 400000) (fL_law_c391 L xs k18 kc x3 x6 x7 x8 1 σ))
set_option maxRecDepth 100000 in
set_option maxHeartbeats 4000000 in
theorem tL_law_c386 {p : Program} {l : Launch} {e : Env} {s : State} {m : MethodId} {below : List Frame} {meth : Method} {c : Code} {g : qG} {w : qWd} {ad : Nat → Nat} {b L : Nat} {xs : Nat → Int32} (cx : qCx p s m meth c cL_law 22 RL (some .boolean) g s.heap.size) (hX : qScr b L xs s.heap.size s) (hB : qBC g ad w) (h66 : w 66 = none) (h67 : w 67 = none) (h68 : w 68 = none) (hl : l.stackTraces = false) {k18 : Nat → Int → Int → Int → qSt → Option Unit} (hk18 : ∀ (kc : Nat) (x2 : Int) (x3 : Int) (x6 : Int) (σ : qSt), qS p l e room_1 s m #[Value.ref b] below meth c 22 g s.heap.size w kc (21800 + 6 * kc) (fun _ => lw_Z below #[Value.ref b] s) (k18 kc x2 x3 x6 σ) σ 18 [(0, some (.ref b)), (1, some (.ref (ad 0))), (2, some (.int (qI x2))), (3, some (.int (qI x3))), (6, some (.int (qI x6)))] []) (kc : Nat) (x3 : Int) (x6 : Int) (x7 : Int) (x8 : Int) (σ : qSt) : qS p l e room_1 s m #[Value.ref b] below meth c 22 g s.heap.size w kc (21800 + 6 * kc) (fun _ => lw_Z below #[Value.ref b] s) (fL_law_c386 L xs k18 kc x3 x6 x7 x8 σ) σ 386 [(0, some (.ref b)), (1, some (.ref (ad 0))), (3, some (.int (qI x3))), (6, some (.int (qI x6))), (7, some (.int (qI x7))), (8, some (.int (qI x8)))] [] := by
  unfold fL_law_c386
  refine r_qif (fun hkc => ?_)
  refine r_iconst (pc := 386) cx dL_law_386 ?_
  refine r_goto (pc := 387) (tgt := 391) cx dL_law_387 (by decide) ?_
  exact qS.sub (qsub_cons rfl (qsub_cons rfl (qsub_cons rfl (qsub_cons rfl (qsub_cons rfl (qsub_cons rfl (qsub_nil _))))))) (tL_law_c391 cx hX hB h66 h67 h68 hl hk18 _ _ _ _ _ _ _)
def fL_law_c382 (L : Nat) (xs : Nat → Int32) (k18 : Nat → Int → Int → Int → qSt → Option Unit) (kc : Nat) (x3 : Int) (x6 : Int) (x7 : Int) (x8 : Int) (s0 : Int) (s1 : Int) (σ : qSt) : Option Unit :=
  (qif (kc + 0 ≤ 400000) (if qI (qlcmp s1 s0) = 0 then (fL_law_c386 L xs k18 kc x3 x6 x7 x8 σ) else (fL_law_c390 L xs k18 kc x3 x6 x7 x8 σ)))
set_option maxRecDepth 100000 in
set_option maxHeartbeats 4000000 in
theorem tL_law_c382 {p : Program} {l : Launch} {e : Env} {s : State} {m : MethodId} {below : List Frame} {meth : Method} {c : Code} {g : qG} {w : qWd} {ad : Nat → Nat} {b L : Nat} {xs : Nat → Int32} (cx : qCx p s m meth c cL_law 22 RL (some .boolean) g s.heap.size) (hX : qScr b L xs s.heap.size s) (hB : qBC g ad w) (h66 : w 66 = none) (h67 : w 67 = none) (h68 : w 68 = none) (hl : l.stackTraces = false) {k18 : Nat → Int → Int → Int → qSt → Option Unit} (hk18 : ∀ (kc : Nat) (x2 : Int) (x3 : Int) (x6 : Int) (σ : qSt), qS p l e room_1 s m #[Value.ref b] below meth c 22 g s.heap.size w kc (21800 + 6 * kc) (fun _ => lw_Z below #[Value.ref b] s) (k18 kc x2 x3 x6 σ) σ 18 [(0, some (.ref b)), (1, some (.ref (ad 0))), (2, some (.int (qI x2))), (3, some (.int (qI x3))), (6, some (.int (qI x6)))] []) (kc : Nat) (x3 : Int) (x6 : Int) (x7 : Int) (x8 : Int) (s0 : Int) (s1 : Int) (σ : qSt) : qS p l e room_1 s m #[Value.ref b] below meth c 22 g s.heap.size w kc (21800 + 6 * kc) (fun _ => lw_Z below #[Value.ref b] s) (fL_law_c382 L xs k18 kc x3 x6 x7 x8 s0 s1 σ) σ 382 [(0, some (.ref b)), (1, some (.ref (ad 0))), (3, some (.int (qI x3))), (6, some (.int (qI x6))), (7, some (.int (qI x7))), (8, some (.int (qI x8)))] [.long (qJ s0), .long (qJ s1)] := by
  unfold fL_law_c382
  refine r_qif (fun hkc => ?_)
  refine r_lcmp (pc := 382) cx dL_law_382 ?_
  refine r_if_ne (tgt := 390) cx dL_law_383 (by decide) ?_ ?_
  · exact qS.sub (qsub_cons rfl (qsub_cons rfl (qsub_cons rfl (qsub_cons rfl (qsub_cons rfl (qsub_cons rfl (qsub_nil _))))))) (tL_law_c390 cx hX hB h66 h67 h68 hl hk18 _ _ _ _ _ _)
  · exact qS.sub (qsub_cons rfl (qsub_cons rfl (qsub_cons rfl (qsub_cons rfl (qsub_cons rfl (qsub_cons rfl (qsub_nil _))))))) (tL_law_c386 cx hX hB h66 h67 h68 hl hk18 _ _ _ _ _ _)
def fL_law_c356 (L : Nat) (xs : Nat → Int32) (k18 : Nat → Int → Int → Int → qSt → Option Unit) (kc : Nat) (x3 : Int) (x6 : Int) (x7 : Int) (x8 : Int) (x10 : Int) (x13 : Int) (x15 : Int) (s0 : Int) (s1 : Int) (σ : qSt) : Option Unit :=
  (qif (kc + 1 ≤ 400000) (if qI (qlcmp s1 s0) = 0 then (qbd (fL_cellOf x10 0 σ) fun (r364 : Int) (σ61 : qSt) => (if qI (qlcmp x13 0) = 0 then (fL_law_c382 L xs k18 (kc + 1) x3 x6 x7 x8 (qi2l x15) r364 σ61) else (fL_law_c382 L xs k18 (kc + 1) x3 x6 x7 x8 x13 r364 σ61))) else (fL_law_c390 L xs k18 kc x3 x6 x7 x8 σ)))
set_option maxRecDepth 100000 in
set_option maxHeartbeats 4000000 in
theorem tL_law_c356 {p : Program} {l : Launch} {e : Env} {s : State} {m : MethodId} {below : List Frame} {meth : Method} {c : Code} {g : qG} {w : qWd} {ad : Nat → Nat} {b L : Nat} {xs : Nat → Int32} (cx : qCx p s m meth c cL_law 22 RL (some .boolean) g s.heap.size) (hX : qScr b L xs s.heap.size s) (hB : qBC g ad w) (h66 : w 66 = none) (h67 : w 67 = none) (h68 : w 68 = none) (hl : l.stackTraces = false) {k18 : Nat → Int → Int → Int → qSt → Option Unit} (hk18 : ∀ (kc : Nat) (x2 : Int) (x3 : Int) (x6 : Int) (σ : qSt), qS p l e room_1 s m #[Value.ref b] below meth c 22 g s.heap.size w kc (21800 + 6 * kc) (fun _ => lw_Z below #[Value.ref b] s) (k18 kc x2 x3 x6 σ) σ 18 [(0, some (.ref b)), (1, some (.ref (ad 0))), (2, some (.int (qI x2))), (3, some (.int (qI x3))), (6, some (.int (qI x6)))] []) (kc : Nat) (x3 : Int) (x6 : Int) (x7 : Int) (x8 : Int) (x10 : Int) (x13 : Int) (x15 : Int) (s0 : Int) (s1 : Int) (σ : qSt) : qS p l e room_1 s m #[Value.ref b] below meth c 22 g s.heap.size w kc (21800 + 6 * kc) (fun _ => lw_Z below #[Value.ref b] s) (fL_law_c356 L xs k18 kc x3 x6 x7 x8 x10 x13 x15 s0 s1 σ) σ 356 [(0, some (.ref b)), (1, some (.ref (ad 0))), (3, some (.int (qI x3))), (6, some (.int (qI x6))), (7, some (.int (qI x7))), (8, some (.int (qI x8))), (10, some (.int (qI x10))), (13, some (.long (qJ x13))), (15, some (.int (qI x15)))] [.long (qJ s0), .long (qJ s1)] := by
  unfold fL_law_c356
  refine r_qif (fun hkc => ?_)
  refine r_lcmp (pc := 356) cx dL_law_356 ?_
  refine r_if_ne (tgt := 390) cx dL_law_357 (by decide) ?_ ?_
  · exact qS.sub (qsub_cons rfl (qsub_cons rfl (qsub_cons rfl (qsub_cons rfl (qsub_cons rfl (qsub_cons rfl (qsub_nil _))))))) (tL_law_c390 cx hX hB h66 h67 h68 hl hk18 _ _ _ _ _ _)
  · refine r_aload_n (pc := 360) cx dL_law_360 rfl ?_
    refine r_iload (pc := 361) cx dL_law_361 rfl ?_
    refine r_iconst (pc := 363) cx dL_law_363 ?_
    refine r_wj (pc := 364) (nb := 21800) (k := kc) (mc := 1) (Mx := 400000) cx (tL_cellOf hB h66 h67 h68 hl x10 0 σ) qmh_L_cellOf wm_L_101 dL_law_364 rfl rfl (Nat.le_of_ble_eq_true rfl) ⟨Nat.le_of_ble_eq_true rfl, Nat.le_of_ble_eq_true rfl⟩ ⟨Nat.le_of_ble_eq_true rfl, Nat.le_of_ble_eq_true rfl⟩ ⟨Nat.le_of_ble_eq_true rfl, Nat.le_of_ble_eq_true rfl⟩ (by omega) (fun r364 σ61 => ?_)
    refine r_lload (pc := 367) cx dL_law_367 rfl ?_
    refine r_lconst (pc := 369) (z := 0) cx dL_law_369 (by decide +kernel) ?_
    refine r_lcmp (pc := 370) cx dL_law_370 ?_
    refine r_if_ne (tgt := 380) cx dL_law_371 (by decide) ?_ ?_
    · refine r_lload (pc := 380) cx dL_law_380 rfl ?_
      exact qS.sub (qsub_cons rfl (qsub_cons rfl (qsub_cons rfl (qsub_cons rfl (qsub_cons rfl (qsub_cons rfl (qsub_nil _))))))) (tL_law_c382 cx hX hB h66 h67 h68 hl hk18 _ _ _ _ _ _ _ _)
    · refine r_iload (pc := 374) cx dL_law_374 rfl ?_
      refine r_i2l (pc := 376) cx dL_law_376 ?_
      refine r_goto (pc := 377) (tgt := 382) cx dL_law_377 (by decide) ?_
      exact qS.sub (qsub_cons rfl (qsub_cons rfl (qsub_cons rfl (qsub_cons rfl (qsub_cons rfl (qsub_cons rfl (qsub_nil _))))))) (tL_law_c382 cx hX hB h66 h67 h68 hl hk18 _ _ _ _ _ _ _ _)
def fL_law_c321 (L : Nat) (xs : Nat → Int32) (k18 : Nat → Int → Int → Int → qSt → Option Unit) (kc : Nat) (x3 : Int) (x6 : Int) (x7 : Int) (x8 : Int) (x10 : Int) (x13 : Int) (s0 : Int) (σ : qSt) : Option Unit :=
  (qif (kc + 1 ≤ 400000) (if 0 < qI (qrem (qdiv x8 512) 3) then (fL_law_c386 L xs k18 kc x3 x6 x7 x8 σ) else (qbd (fL_open x10 s0 σ) fun (r339 : Int) (σ48 : qSt) => (if qI (qlcmp x13 0) = 0 then (fL_law_c356 L xs k18 (kc + 1) x3 x6 x7 x8 x10 x13 s0 0 r339 σ48) else (fL_law_c356 L xs k18 (kc + 1) x3 x6 x7 x8 x10 x13 s0 (-9000000000000000003) r339 σ48)))))
set_option maxRecDepth 100000 in
set_option maxHeartbeats 4000000 in
theorem tL_law_c321 {p : Program} {l : Launch} {e : Env} {s : State} {m : MethodId} {below : List Frame} {meth : Method} {c : Code} {g : qG} {w : qWd} {ad : Nat → Nat} {b L : Nat} {xs : Nat → Int32} (cx : qCx p s m meth c cL_law 22 RL (some .boolean) g s.heap.size) (hX : qScr b L xs s.heap.size s) (hB : qBC g ad w) (h66 : w 66 = none) (h67 : w 67 = none) (h68 : w 68 = none) (hl : l.stackTraces = false) {k18 : Nat → Int → Int → Int → qSt → Option Unit} (hk18 : ∀ (kc : Nat) (x2 : Int) (x3 : Int) (x6 : Int) (σ : qSt), qS p l e room_1 s m #[Value.ref b] below meth c 22 g s.heap.size w kc (21800 + 6 * kc) (fun _ => lw_Z below #[Value.ref b] s) (k18 kc x2 x3 x6 σ) σ 18 [(0, some (.ref b)), (1, some (.ref (ad 0))), (2, some (.int (qI x2))), (3, some (.int (qI x3))), (6, some (.int (qI x6)))] []) (kc : Nat) (x3 : Int) (x6 : Int) (x7 : Int) (x8 : Int) (x10 : Int) (x13 : Int) (s0 : Int) (σ : qSt) : qS p l e room_1 s m #[Value.ref b] below meth c 22 g s.heap.size w kc (21800 + 6 * kc) (fun _ => lw_Z below #[Value.ref b] s) (fL_law_c321 L xs k18 kc x3 x6 x7 x8 x10 x13 s0 σ) σ 321 [(0, some (.ref b)), (1, some (.ref (ad 0))), (3, some (.int (qI x3))), (6, some (.int (qI x6))), (7, some (.int (qI x7))), (8, some (.int (qI x8))), (10, some (.int (qI x10))), (13, some (.long (qJ x13)))] [.int (qI s0)] := by
  unfold fL_law_c321
  refine r_qif (fun hkc => ?_)
  refine r_istore (pc := 321) cx dL_law_321 (by decide) rfl ?_
  refine r_iload (pc := 323) cx dL_law_323 rfl ?_
  refine r_sipush (pc := 325) (v := 512) cx dL_law_325 (by decide +kernel) ?_
  refine r_idiv (pc := 328) cx dL_law_328 (by decide +kernel) ?_
  refine r_iconst (pc := 329) cx dL_law_329 ?_
  refine r_irem (pc := 330) cx dL_law_330 (by decide +kernel) ?_
  refine r_if_gt (tgt := 386) cx dL_law_331 (by decide) ?_ ?_
  · exact qS.sub (qsub_cons rfl (qsub_cons rfl (qsub_cons rfl (qsub_cons rfl (qsub_cons rfl (qsub_cons rfl (qsub_nil _))))))) (tL_law_c386 cx hX hB h66 h67 h68 hl hk18 _ _ _ _ _ _)
  · refine r_aload_n (pc := 334) cx dL_law_334 rfl ?_
    refine r_iload (pc := 335) cx dL_law_335 rfl ?_
    refine r_iload (pc := 337) cx dL_law_337 rfl ?_
    refine r_wj (pc := 339) (nb := 21800) (k := kc) (mc := 1) (Mx := 400000) cx (tL_open hB h66 h67 h68 hl x10 s0 σ) qmh_L_open wm_L_148 dL_law_339 rfl rfl (Nat.le_of_ble_eq_true rfl) ⟨Nat.le_of_ble_eq_true rfl, Nat.le_of_ble_eq_true rfl⟩ ⟨Nat.le_of_ble_eq_true rfl, Nat.le_of_ble_eq_true rfl⟩ ⟨Nat.le_of_ble_eq_true rfl, Nat.le_of_ble_eq_true rfl⟩ (by omega) (fun r339 σ48 => ?_)
    refine r_lload (pc := 342) cx dL_law_342 rfl ?_
    refine r_lconst (pc := 344) (z := 0) cx dL_law_344 (by decide +kernel) ?_
    refine r_lcmp (pc := 345) cx dL_law_345 ?_
    refine r_if_ne (tgt := 353) cx dL_law_346 (by decide) ?_ ?_
    · refine r_ldc2 (pc := 353) (v := (-9000000000000000003)) cx dL_law_353 wq_L_21 ?_
      exact qS.sub (qsub_cons rfl (qsub_cons rfl (qsub_cons rfl (qsub_cons rfl (qsub_cons rfl (qsub_cons rfl (qsub_cons rfl (qsub_cons rfl (qsub_cons rfl (qsub_nil _)))))))))) (tL_law_c356 cx hX hB h66 h67 h68 hl hk18 _ _ _ _ _ _ _ _ _ _ _)
    · refine r_lconst (pc := 349) (z := 0) cx dL_law_349 (by decide +kernel) ?_
      refine r_goto (pc := 350) (tgt := 356) cx dL_law_350 (by decide) ?_
      exact qS.sub (qsub_cons rfl (qsub_cons rfl (qsub_cons rfl (qsub_cons rfl (qsub_cons rfl (qsub_cons rfl (qsub_cons rfl (qsub_cons rfl (qsub_cons rfl (qsub_nil _)))))))))) (tL_law_c356 cx hX hB h66 h67 h68 hl hk18 _ _ _ _ _ _ _ _ _ _ _)
def fL_law_c306 (L : Nat) (xs : Nat → Int32) (k18 : Nat → Int → Int → Int → qSt → Option Unit) (kc : Nat) (x3 : Int) (x6 : Int) (x7 : Int) (x8 : Int) (x10 : Int) (x13 : Int) (σ : qSt) : Option Unit :=
  (qif (kc + 0 ≤ 400000) (if qI (qrem (qdiv x8 96) 5) = 0 then (fL_law_c321 L xs k18 kc x3 x6 x7 x8 x10 x13 2 σ) else (fL_law_c321 L xs k18 kc x3 x6 x7 x8 x10 x13 3 σ)))
set_option maxRecDepth 100000 in
set_option maxHeartbeats 4000000 in
theorem tL_law_c306 {p : Program} {l : Launch} {e : Env} {s : State} {m : MethodId} {below : List Frame} {meth : Method} {c : Code} {g : qG} {w : qWd} {ad : Nat → Nat} {b L : Nat} {xs : Nat → Int32} (cx : qCx p s m meth c cL_law 22 RL (some .boolean) g s.heap.size) (hX : qScr b L xs s.heap.size s) (hB : qBC g ad w) (h66 : w 66 = none) (h67 : w 67 = none) (h68 : w 68 = none) (hl : l.stackTraces = false) {k18 : Nat → Int → Int → Int → qSt → Option Unit} (hk18 : ∀ (kc : Nat) (x2 : Int) (x3 : Int) (x6 : Int) (σ : qSt), qS p l e room_1 s m #[Value.ref b] below meth c 22 g s.heap.size w kc (21800 + 6 * kc) (fun _ => lw_Z below #[Value.ref b] s) (k18 kc x2 x3 x6 σ) σ 18 [(0, some (.ref b)), (1, some (.ref (ad 0))), (2, some (.int (qI x2))), (3, some (.int (qI x3))), (6, some (.int (qI x6)))] []) (kc : Nat) (x3 : Int) (x6 : Int) (x7 : Int) (x8 : Int) (x10 : Int) (x13 : Int) (σ : qSt) : qS p l e room_1 s m #[Value.ref b] below meth c 22 g s.heap.size w kc (21800 + 6 * kc) (fun _ => lw_Z below #[Value.ref b] s) (fL_law_c306 L xs k18 kc x3 x6 x7 x8 x10 x13 σ) σ 306 [(0, some (.ref b)), (1, some (.ref (ad 0))), (3, some (.int (qI x3))), (6, some (.int (qI x6))), (7, some (.int (qI x7))), (8, some (.int (qI x8))), (10, some (.int (qI x10))), (13, some (.long (qJ x13)))] [] := by
  unfold fL_law_c306
  refine r_qif (fun hkc => ?_)
  refine r_iload (pc := 306) cx dL_law_306 rfl ?_
  refine r_bipush (pc := 308) (v := 96) cx dL_law_308 (by decide +kernel) ?_
  refine r_idiv (pc := 310) cx dL_law_310 (by decide +kernel) ?_
  refine r_iconst (pc := 311) cx dL_law_311 ?_
  refine r_irem (pc := 312) cx dL_law_312 (by decide +kernel) ?_
  refine r_if_ne (tgt := 320) cx dL_law_313 (by decide) ?_ ?_
  · refine r_iconst (pc := 320) cx dL_law_320 ?_
    exact qS.sub (qsub_cons rfl (qsub_cons rfl (qsub_cons rfl (qsub_cons rfl (qsub_cons rfl (qsub_cons rfl (qsub_cons rfl (qsub_cons rfl (qsub_nil _))))))))) (tL_law_c321 cx hX hB h66 h67 h68 hl hk18 _ _ _ _ _ _ _ _ _)
  · refine r_iconst (pc := 316) cx dL_law_316 ?_
    refine r_goto (pc := 317) (tgt := 321) cx dL_law_317 (by decide) ?_
    exact qS.sub (qsub_cons rfl (qsub_cons rfl (qsub_cons rfl (qsub_cons rfl (qsub_cons rfl (qsub_cons rfl (qsub_cons rfl (qsub_cons rfl (qsub_nil _))))))))) (tL_law_c321 cx hX hB h66 h67 h68 hl hk18 _ _ _ _ _ _ _ _ _)
def fL_law_c296 (L : Nat) (xs : Nat → Int32) (k18 : Nat → Int → Int → Int → qSt → Option Unit) (kc : Nat) (x3 : Int) (x6 : Int) (x7 : Int) (x8 : Int) (s0 : Int) (σ : qSt) : Option Unit :=
  (qif (kc + 0 ≤ 400000) (fL_law_c1178 L xs k18 kc s0 x3 x6 x7 x8 σ))
set_option maxRecDepth 100000 in
set_option maxHeartbeats 4000000 in
theorem tL_law_c296 {p : Program} {l : Launch} {e : Env} {s : State} {m : MethodId} {below : List Frame} {meth : Method} {c : Code} {g : qG} {w : qWd} {ad : Nat → Nat} {b L : Nat} {xs : Nat → Int32} (cx : qCx p s m meth c cL_law 22 RL (some .boolean) g s.heap.size) (hX : qScr b L xs s.heap.size s) (hB : qBC g ad w) (h66 : w 66 = none) (h67 : w 67 = none) (h68 : w 68 = none) (hl : l.stackTraces = false) {k18 : Nat → Int → Int → Int → qSt → Option Unit} (hk18 : ∀ (kc : Nat) (x2 : Int) (x3 : Int) (x6 : Int) (σ : qSt), qS p l e room_1 s m #[Value.ref b] below meth c 22 g s.heap.size w kc (21800 + 6 * kc) (fun _ => lw_Z below #[Value.ref b] s) (k18 kc x2 x3 x6 σ) σ 18 [(0, some (.ref b)), (1, some (.ref (ad 0))), (2, some (.int (qI x2))), (3, some (.int (qI x3))), (6, some (.int (qI x6)))] []) (kc : Nat) (x3 : Int) (x6 : Int) (x7 : Int) (x8 : Int) (s0 : Int) (σ : qSt) : qS p l e room_1 s m #[Value.ref b] below meth c 22 g s.heap.size w kc (21800 + 6 * kc) (fun _ => lw_Z below #[Value.ref b] s) (fL_law_c296 L xs k18 kc x3 x6 x7 x8 s0 σ) σ 296 [(0, some (.ref b)), (1, some (.ref (ad 0))), (3, some (.int (qI x3))), (6, some (.int (qI x6))), (7, some (.int (qI x7))), (8, some (.int (qI x8)))] [.int (qI s0)] := by
  unfold fL_law_c296
  refine r_qif (fun hkc => ?_)
  refine r_istore_n (pc := 296) cx dL_law_296 (by decide) rfl ?_
  refine r_goto (pc := 297) (tgt := 1178) cx dL_law_297 (by decide) ?_
  exact qS.sub (qsub_cons rfl (qsub_cons rfl (qsub_cons rfl (qsub_cons rfl (qsub_cons rfl (qsub_cons rfl (qsub_cons rfl (qsub_nil _)))))))) (tL_law_c1178 cx hX hB h66 h67 h68 hl hk18 _ _ _ _ _ _ _)
def fL_law_c295 (L : Nat) (xs : Nat → Int32) (k18 : Nat → Int → Int → Int → qSt → Option Unit) (kc : Nat) (x3 : Int) (x6 : Int) (x7 : Int) (x8 : Int) (σ : qSt) : Option Unit :=
  (qif (kc + 0 ≤ 400000) (fL_law_c296 L xs k18 kc x3 x6 x7 x8 0 σ))
set_option maxRecDepth 100000 in
set_option maxHeartbeats 4000000 in
theorem tL_law_c295 {p : Program} {l : Launch} {e : Env} {s : State} {m : MethodId} {below : List Frame} {meth : Method} {c : Code} {g : qG} {w : qWd} {ad : Nat → Nat} {b L : Nat} {xs : Nat → Int32} (cx : qCx p s m meth c cL_law 22 RL (some .boolean) g s.heap.size) (hX : qScr b L xs s.heap.size s) (hB : qBC g ad w) (h66 : w 66 = none) (h67 : w 67 = none) (h68 : w 68 = none) (hl : l.stackTraces = false) {k18 : Nat → Int → Int → Int → qSt → Option Unit} (hk18 : ∀ (kc : Nat) (x2 : Int) (x3 : Int) (x6 : Int) (σ : qSt), qS p l e room_1 s m #[Value.ref b] below meth c 22 g s.heap.size w kc (21800 + 6 * kc) (fun _ => lw_Z below #[Value.ref b] s) (k18 kc x2 x3 x6 σ) σ 18 [(0, some (.ref b)), (1, some (.ref (ad 0))), (2, some (.int (qI x2))), (3, some (.int (qI x3))), (6, some (.int (qI x6)))] []) (kc : Nat) (x3 : Int) (x6 : Int) (x7 : Int) (x8 : Int) (σ : qSt) : qS p l e room_1 s m #[Value.ref b] below meth c 22 g s.heap.size w kc (21800 + 6 * kc) (fun _ => lw_Z below #[Value.ref b] s) (fL_law_c295 L xs k18 kc x3 x6 x7 x8 σ) σ 295 [(0, some (.ref b)), (1, some (.ref (ad 0))), (3, some (.int (qI x3))), (6, some (.int (qI x6))), (7, some (.int (qI x7))), (8, some (.int (qI x8)))] [] := by
  unfold fL_law_c295
  refine r_qif (fun hkc => ?_)
  refine r_iconst (pc := 295) cx dL_law_295 ?_
  exact qS.sub (qsub_cons rfl (qsub_cons rfl (qsub_cons rfl (qsub_cons rfl (qsub_cons rfl (qsub_cons rfl (qsub_nil _))))))) (tL_law_c296 cx hX hB h66 h67 h68 hl hk18 _ _ _ _ _ _ _)
def fL_law_c257 (L : Nat) (xs : Nat → Int32) (k18 : Nat → Int → Int → Int → qSt → Option Unit) (kc : Nat) (x3 : Int) (x6 : Int) (x7 : Int) (x8 : Int) (x10 : Int) (x13 : Int) (σ : qSt) : Option Unit :=
  (qif (kc + 3 ≤ 400000) (qbd (fL_clear x10 σ) fun (r260 : Int) (σ30 : qSt) => (if qI (qlcmp r260 x13) = 0 then (qbd (fL_cellOf x10 0 σ30) fun (r273 : Int) (σ31 : qSt) => (if qI (qlcmp r273 0) = 0 then (qbd (fL_sum 1 σ31) fun (r283 : Int) (σ32 : qSt) => (if qI (qlcmp r283 0) = 0 then (fL_law_c296 L xs k18 (((kc + 1) + 1) + 1) x3 x6 x7 x8 1 σ32) else (fL_law_c295 L xs k18 (((kc + 1) + 1) + 1) x3 x6 x7 x8 σ32))) else (fL_law_c295 L xs k18 ((kc + 1) + 1) x3 x6 x7 x8 σ31))) else (fL_law_c295 L xs k18 (kc + 1) x3 x6 x7 x8 σ30))))
set_option maxRecDepth 100000 in
set_option maxHeartbeats 4000000 in
theorem tL_law_c257 {p : Program} {l : Launch} {e : Env} {s : State} {m : MethodId} {below : List Frame} {meth : Method} {c : Code} {g : qG} {w : qWd} {ad : Nat → Nat} {b L : Nat} {xs : Nat → Int32} (cx : qCx p s m meth c cL_law 22 RL (some .boolean) g s.heap.size) (hX : qScr b L xs s.heap.size s) (hB : qBC g ad w) (h66 : w 66 = none) (h67 : w 67 = none) (h68 : w 68 = none) (hl : l.stackTraces = false) {k18 : Nat → Int → Int → Int → qSt → Option Unit} (hk18 : ∀ (kc : Nat) (x2 : Int) (x3 : Int) (x6 : Int) (σ : qSt), qS p l e room_1 s m #[Value.ref b] below meth c 22 g s.heap.size w kc (21800 + 6 * kc) (fun _ => lw_Z below #[Value.ref b] s) (k18 kc x2 x3 x6 σ) σ 18 [(0, some (.ref b)), (1, some (.ref (ad 0))), (2, some (.int (qI x2))), (3, some (.int (qI x3))), (6, some (.int (qI x6)))] []) (kc : Nat) (x3 : Int) (x6 : Int) (x7 : Int) (x8 : Int) (x10 : Int) (x13 : Int) (σ : qSt) : qS p l e room_1 s m #[Value.ref b] below meth c 22 g s.heap.size w kc (21800 + 6 * kc) (fun _ => lw_Z below #[Value.ref b] s) (fL_law_c257 L xs k18 kc x3 x6 x7 x8 x10 x13 σ) σ 257 [(0, some (.ref b)), (1, some (.ref (ad 0))), (3, some (.int (qI x3))), (6, some (.int (qI x6))), (7, some (.int (qI x7))), (8, some (.int (qI x8))), (10, some (.int (qI x10))), (13, some (.long (qJ x13)))] [] := by
  unfold fL_law_c257
  refine r_qif (fun hkc => ?_)
  refine r_aload_n (pc := 257) cx dL_law_257 rfl ?_
  refine r_iload (pc := 258) cx dL_law_258 rfl ?_
  refine r_wj (pc := 260) (nb := 21800) (k := kc) (mc := 1) (Mx := 400000) cx (tL_clear hB h66 h67 h68 hl x10 σ) qmh_L_clear wm_L_146 dL_law_260 rfl rfl (Nat.le_of_ble_eq_true rfl) ⟨Nat.le_of_ble_eq_true rfl, Nat.le_of_ble_eq_true rfl⟩ ⟨Nat.le_of_ble_eq_true rfl, Nat.le_of_ble_eq_true rfl⟩ ⟨Nat.le_of_ble_eq_true rfl, Nat.le_of_ble_eq_true rfl⟩ (by omega) (fun r260 σ30 => ?_)
  refine r_lload (pc := 263) cx dL_law_263 rfl ?_
  refine r_lcmp (pc := 265) cx dL_law_265 ?_
  refine r_if_ne (tgt := 295) cx dL_law_266 (by decide) ?_ ?_
  · exact qS.sub (qsub_cons rfl (qsub_cons rfl (qsub_cons rfl (qsub_cons rfl (qsub_cons rfl (qsub_cons rfl (qsub_nil _))))))) (tL_law_c295 cx hX hB h66 h67 h68 hl hk18 _ _ _ _ _ _)
  · refine r_aload_n (pc := 269) cx dL_law_269 rfl ?_
    refine r_iload (pc := 270) cx dL_law_270 rfl ?_
    refine r_iconst (pc := 272) cx dL_law_272 ?_
    refine r_wj (pc := 273) (nb := 21800) (k := (kc + 1)) (mc := 1) (Mx := 400000) cx (tL_cellOf hB h66 h67 h68 hl x10 0 σ30) qmh_L_cellOf wm_L_101 dL_law_273 rfl rfl (Nat.le_of_ble_eq_true rfl) ⟨Nat.le_of_ble_eq_true rfl, Nat.le_of_ble_eq_true rfl⟩ ⟨Nat.le_of_ble_eq_true rfl, Nat.le_of_ble_eq_true rfl⟩ ⟨Nat.le_of_ble_eq_true rfl, Nat.le_of_ble_eq_true rfl⟩ (by omega) (fun r273 σ31 => ?_)
    refine r_lconst (pc := 276) (z := 0) cx dL_law_276 (by decide +kernel) ?_
    refine r_lcmp (pc := 277) cx dL_law_277 ?_
    refine r_if_ne (tgt := 295) cx dL_law_278 (by decide) ?_ ?_
    · exact qS.sub (qsub_cons rfl (qsub_cons rfl (qsub_cons rfl (qsub_cons rfl (qsub_cons rfl (qsub_cons rfl (qsub_nil _))))))) (tL_law_c295 cx hX hB h66 h67 h68 hl hk18 _ _ _ _ _ _)
    · refine r_aload_n (pc := 281) cx dL_law_281 rfl ?_
      refine r_iconst (pc := 282) cx dL_law_282 ?_
      refine r_wj (pc := 283) (nb := 21800) (k := ((kc + 1) + 1)) (mc := 1) (Mx := 400000) cx (tL_sum hB h66 h67 h68 hl 1 σ31) qmh_L_sum wm_L_114 dL_law_283 rfl rfl (Nat.le_of_ble_eq_true rfl) ⟨Nat.le_of_ble_eq_true rfl, Nat.le_of_ble_eq_true rfl⟩ ⟨Nat.le_of_ble_eq_true rfl, Nat.le_of_ble_eq_true rfl⟩ ⟨Nat.le_of_ble_eq_true rfl, Nat.le_of_ble_eq_true rfl⟩ (by omega) (fun r283 σ32 => ?_)
      refine r_lconst (pc := 286) (z := 0) cx dL_law_286 (by decide +kernel) ?_
      refine r_lcmp (pc := 287) cx dL_law_287 ?_
      refine r_if_ne (tgt := 295) cx dL_law_288 (by decide) ?_ ?_
      · exact qS.sub (qsub_cons rfl (qsub_cons rfl (qsub_cons rfl (qsub_cons rfl (qsub_cons rfl (qsub_cons rfl (qsub_nil _))))))) (tL_law_c295 cx hX hB h66 h67 h68 hl hk18 _ _ _ _ _ _)
      · refine r_iconst (pc := 291) cx dL_law_291 ?_
        refine r_goto (pc := 292) (tgt := 296) cx dL_law_292 (by decide) ?_
        exact qS.sub (qsub_cons rfl (qsub_cons rfl (qsub_cons rfl (qsub_cons rfl (qsub_cons rfl (qsub_cons rfl (qsub_nil _))))))) (tL_law_c296 cx hX hB h66 h67 h68 hl hk18 _ _ _ _ _ _ _)
def fL_law_c247 (L : Nat) (xs : Nat → Int32) (k18 : Nat → Int → Int → Int → qSt → Option Unit) (kc : Nat) (x3 : Int) (x6 : Int) (x7 : Int) (x8 : Int) (s0 : Int) (σ : qSt) : Option Unit :=
  (qif (kc + 0 ≤ 400000) (fL_law_c1178 L xs k18 kc s0 x3 x6 x7 x8 σ))
set_option maxRecDepth 100000 in
set_option maxHeartbeats 4000000 in
theorem tL_law_c247 {p : Program} {l : Launch} {e : Env} {s : State} {m : MethodId} {below : List Frame} {meth : Method} {c : Code} {g : qG} {w : qWd} {ad : Nat → Nat} {b L : Nat} {xs : Nat → Int32} (cx : qCx p s m meth c cL_law 22 RL (some .boolean) g s.heap.size) (hX : qScr b L xs s.heap.size s) (hB : qBC g ad w) (h66 : w 66 = none) (h67 : w 67 = none) (h68 : w 68 = none) (hl : l.stackTraces = false) {k18 : Nat → Int → Int → Int → qSt → Option Unit} (hk18 : ∀ (kc : Nat) (x2 : Int) (x3 : Int) (x6 : Int) (σ : qSt), qS p l e room_1 s m #[Value.ref b] below meth c 22 g s.heap.size w kc (21800 + 6 * kc) (fun _ => lw_Z below #[Value.ref b] s) (k18 kc x2 x3 x6 σ) σ 18 [(0, some (.ref b)), (1, some (.ref (ad 0))), (2, some (.int (qI x2))), (3, some (.int (qI x3))), (6, some (.int (qI x6)))] []) (kc : Nat) (x3 : Int) (x6 : Int) (x7 : Int) (x8 : Int) (s0 : Int) (σ : qSt) : qS p l e room_1 s m #[Value.ref b] below meth c 22 g s.heap.size w kc (21800 + 6 * kc) (fun _ => lw_Z below #[Value.ref b] s) (fL_law_c247 L xs k18 kc x3 x6 x7 x8 s0 σ) σ 247 [(0, some (.ref b)), (1, some (.ref (ad 0))), (3, some (.int (qI x3))), (6, some (.int (qI x6))), (7, some (.int (qI x7))), (8, some (.int (qI x8)))] [.int (qI s0)] := by
  unfold fL_law_c247
  refine r_qif (fun hkc => ?_)
  refine r_istore_n (pc := 247) cx dL_law_247 (by decide) rfl ?_
  refine r_goto (pc := 248) (tgt := 1178) cx dL_law_248 (by decide) ?_
  exact qS.sub (qsub_cons rfl (qsub_cons rfl (qsub_cons rfl (qsub_cons rfl (qsub_cons rfl (qsub_cons rfl (qsub_cons rfl (qsub_nil _)))))))) (tL_law_c1178 cx hX hB h66 h67 h68 hl hk18 _ _ _ _ _ _ _)
def fL_law_c246 (L : Nat) (xs : Nat → Int32) (k18 : Nat → Int → Int → Int → qSt → Option Unit) (kc : Nat) (x3 : Int) (x6 : Int) (x7 : Int) (x8 : Int) (σ : qSt) : Option Unit :=
  (qif (kc + 0 ≤ 400000) (fL_law_c247 L xs k18 kc x3 x6 x7 x8 0 σ))
set_option maxRecDepth 100000 in
set_option maxHeartbeats 4000000 in
theorem tL_law_c246 {p : Program} {l : Launch} {e : Env} {s : State} {m : MethodId} {below : List Frame} {meth : Method} {c : Code} {g : qG} {w : qWd} {ad : Nat → Nat} {b L : Nat} {xs : Nat → Int32} (cx : qCx p s m meth c cL_law 22 RL (some .boolean) g s.heap.size) (hX : qScr b L xs s.heap.size s) (hB : qBC g ad w) (h66 : w 66 = none) (h67 : w 67 = none) (h68 : w 68 = none) (hl : l.stackTraces = false) {k18 : Nat → Int → Int → Int → qSt → Option Unit} (hk18 : ∀ (kc : Nat) (x2 : Int) (x3 : Int) (x6 : Int) (σ : qSt), qS p l e room_1 s m #[Value.ref b] below meth c 22 g s.heap.size w kc (21800 + 6 * kc) (fun _ => lw_Z below #[Value.ref b] s) (k18 kc x2 x3 x6 σ) σ 18 [(0, some (.ref b)), (1, some (.ref (ad 0))), (2, some (.int (qI x2))), (3, some (.int (qI x3))), (6, some (.int (qI x6)))] []) (kc : Nat) (x3 : Int) (x6 : Int) (x7 : Int) (x8 : Int) (σ : qSt) : qS p l e room_1 s m #[Value.ref b] below meth c 22 g s.heap.size w kc (21800 + 6 * kc) (fun _ => lw_Z below #[Value.ref b] s) (fL_law_c246 L xs k18 kc x3 x6 x7 x8 σ) σ 246 [(0, some (.ref b)), (1, some (.ref (ad 0))), (3, some (.int (qI x3))), (6, some (.int (qI x6))), (7, some (.int (qI x7))), (8, some (.int (qI x8)))] [] := by
  unfold fL_law_c246
  refine r_qif (fun hkc => ?_)
  refine r_iconst (pc := 246) cx dL_law_246 ?_
  exact qS.sub (qsub_cons rfl (qsub_cons rfl (qsub_cons rfl (qsub_cons rfl (qsub_cons rfl (qsub_cons rfl (qsub_nil _))))))) (tL_law_c247 cx hX hB h66 h67 h68 hl hk18 _ _ _ _ _ _ _)
def fL_law_c242 (L : Nat) (xs : Nat → Int32) (k18 : Nat → Int → Int → Int → qSt → Option Unit) (kc : Nat) (x3 : Int) (x6 : Int) (x7 : Int) (x8 : Int) (σ : qSt) : Option Unit :=
  (qif (kc + 0 ≤ 400000) (fL_law_c247 L xs k18 kc x3 x6 x7 x8 1 σ))
set_option maxRecDepth 100000 in
set_option maxHeartbeats 4000000 in
theorem tL_law_c242 {p : Program} {l : Launch} {e : Env} {s : State} {m : MethodId} {below : List Frame} {meth : Method} {c : Code} {g : qG} {w : qWd} {ad : Nat → Nat} {b L : Nat} {xs : Nat → Int32} (cx : qCx p s m meth c cL_law 22 RL (some .boolean) g s.heap.size) (hX : qScr b L xs s.heap.size s) (hB : qBC g ad w) (h66 : w 66 = none) (h67 : w 67 = none) (h68 : w 68 = none) (hl : l.stackTraces = false) {k18 : Nat → Int → Int → Int → qSt → Option Unit} (hk18 : ∀ (kc : Nat) (x2 : Int) (x3 : Int) (x6 : Int) (σ : qSt), qS p l e room_1 s m #[Value.ref b] below meth c 22 g s.heap.size w kc (21800 + 6 * kc) (fun _ => lw_Z below #[Value.ref b] s) (k18 kc x2 x3 x6 σ) σ 18 [(0, some (.ref b)), (1, some (.ref (ad 0))), (2, some (.int (qI x2))), (3, some (.int (qI x3))), (6, some (.int (qI x6)))] []) (kc : Nat) (x3 : Int) (x6 : Int) (x7 : Int) (x8 : Int) (σ : qSt) : qS p l e room_1 s m #[Value.ref b] below meth c 22 g s.heap.size w kc (21800 + 6 * kc) (fun _ => lw_Z below #[Value.ref b] s) (fL_law_c242 L xs k18 kc x3 x6 x7 x8 σ) σ 242 [(0, some (.ref b)), (1, some (.ref (ad 0))), (3, some (.int (qI x3))), (6, some (.int (qI x6))), (7, some (.int (qI x7))), (8, some (.int (qI x8)))] [] := by
  unfold fL_law_c242
  refine r_qif (fun hkc => ?_)
  refine r_iconst (pc := 242) cx dL_law_242 ?_
  refine r_goto (pc := 243) (tgt := 247) cx dL_law_243 (by decide) ?_
  exact qS.sub (qsub_cons rfl (qsub_cons rfl (qsub_cons rfl (qsub_cons rfl (qsub_cons rfl (qsub_cons rfl (qsub_nil _))))))) (tL_law_c247 cx hX hB h66 h67 h68 hl hk18 _ _ _ _ _ _ _)
def fL_law_c159 (L : Nat) (xs : Nat → Int32) (k18 : Nat → Int → Int → Int → qSt → Option Unit) (kc : Nat) (x3 : Int) (x6 : Int) (x7 : Int) (x8 : Int) (x10 : Int) (s0 : Int) (σ : qSt) : Option Unit :=
  (qif (kc + 4 ≤ 400000) (qbd (fL_wall x10 ((qrem (qdiv x8 96) 5) - 1) σ) fun (r173 : Int) (σ49 : qSt) => (if qI (qlcmp r173 (-9000000000000000003)) = 0 then (fL_law_c242 L xs k18 (kc + 1) x3 x6 x7 x8 σ49) else (if qI (qlcmp r173 0) = 0 then (if qI s0 = 0 then (fL_law_c246 L xs k18 (kc + 1) x3 x6 x7 x8 σ49) else (qbd (fL_cellOf x10 0 σ49) fun (r203 : Int) (σ50 : qSt) => (if qI (qlcmp r203 1) = 0 then (qbd (fL_cellOf x10 1 σ50) fun (r215 : Int) (σ51 : qSt) => (if qI (qlcmp r215 (qi2l ((qrem (qdiv x8 96) 5) - 1))) = 0 then (qbd (fL_sum 1 σ51) fun (r234 : Int) (σ52 : qSt) => (if qI (qlcmp r234 0) = 0 then (fL_law_c242 L xs k18 ((((kc + 1) + 1) + 1) + 1) x3 x6 x7 x8 σ52) else (fL_law_c246 L xs k18 ((((kc + 1) + 1) + 1) + 1) x3 x6 x7 x8 σ52))) else (fL_law_c246 L xs k18 (((kc + 1) + 1) + 1) x3 x6 x7 x8 σ51))) else (fL_law_c246 L xs k18 ((kc + 1) + 1) x3 x6 x7 x8 σ50)))) else (fL_law_c246 L xs k18 (kc + 1) x3 x6 x7 x8 σ49)))))
set_option maxRecDepth 100000 in
set_option maxHeartbeats 4000000 in
theorem tL_law_c159 {p : Program} {l : Launch} {e : Env} {s : State} {m : MethodId} {below : List Frame} {meth : Method} {c : Code} {g : qG} {w : qWd} {ad : Nat → Nat} {b L : Nat} {xs : Nat → Int32} (cx : qCx p s m meth c cL_law 22 RL (some .boolean) g s.heap.size) (hX : qScr b L xs s.heap.size s) (hB : qBC g ad w) (h66 : w 66 = none) (h67 : w 67 = none) (h68 : w 68 = none) (hl : l.stackTraces = false) {k18 : Nat → Int → Int → Int → qSt → Option Unit} (hk18 : ∀ (kc : Nat) (x2 : Int) (x3 : Int) (x6 : Int) (σ : qSt), qS p l e room_1 s m #[Value.ref b] below meth c 22 g s.heap.size w kc (21800 + 6 * kc) (fun _ => lw_Z below #[Value.ref b] s) (k18 kc x2 x3 x6 σ) σ 18 [(0, some (.ref b)), (1, some (.ref (ad 0))), (2, some (.int (qI x2))), (3, some (.int (qI x3))), (6, some (.int (qI x6)))] []) (kc : Nat) (x3 : Int) (x6 : Int) (x7 : Int) (x8 : Int) (x10 : Int) (s0 : Int) (σ : qSt) : qS p l e room_1 s m #[Value.ref b] below meth c 22 g s.heap.size w kc (21800 + 6 * kc) (fun _ => lw_Z below #[Value.ref b] s) (fL_law_c159 L xs k18 kc x3 x6 x7 x8 x10 s0 σ) σ 159 [(0, some (.ref b)), (1, some (.ref (ad 0))), (3, some (.int (qI x3))), (6, some (.int (qI x6))), (7, some (.int (qI x7))), (8, some (.int (qI x8))), (10, some (.int (qI x10)))] [.int (qI s0)] := by
  unfold fL_law_c159
  refine r_qif (fun hkc => ?_)
  refine r_istore (pc := 159) cx dL_law_159 (by decide) rfl ?_
  refine r_aload_n (pc := 161) cx dL_law_161 rfl ?_
  refine r_iload (pc := 162) cx dL_law_162 rfl ?_
  refine r_iload (pc := 164) cx dL_law_164 rfl ?_
  refine r_bipush (pc := 166) (v := 96) cx dL_law_166 (by decide +kernel) ?_
  refine r_idiv (pc := 168) cx dL_law_168 (by decide +kernel) ?_
  refine r_iconst (pc := 169) cx dL_law_169 ?_
  refine r_irem (pc := 170) cx dL_law_170 (by decide +kernel) ?_
  refine r_iconst (pc := 171) cx dL_law_171 ?_
  refine r_isub (pc := 172) cx dL_law_172 ?_
  refine r_wj (pc := 173) (nb := 21800) (k := kc) (mc := 1) (Mx := 400000) cx (tL_wall hB h66 h67 h68 hl x10 ((qrem (qdiv x8 96) 5) - 1) σ) qmh_L_wall wm_L_144 dL_law_173 rfl rfl (Nat.le_of_ble_eq_true rfl) ⟨Nat.le_of_ble_eq_true rfl, Nat.le_of_ble_eq_true rfl⟩ ⟨Nat.le_of_ble_eq_true rfl, Nat.le_of_ble_eq_true rfl⟩ ⟨Nat.le_of_ble_eq_true rfl, Nat.le_of_ble_eq_true rfl⟩ (by omega) (fun r173 σ49 => ?_)
  refine r_lstore (pc := 176) cx dL_law_176 (by decide) rfl ?_
  refine r_lload (pc := 178) cx dL_law_178 rfl ?_
  refine r_ldc2 (pc := 180) (v := (-9000000000000000003)) cx dL_law_180 wq_L_21 ?_
  refine r_lcmp (pc := 183) cx dL_law_183 ?_
  refine r_if_eq (tgt := 242) cx dL_law_184 (by decide) ?_ ?_
  · exact qS.sub (qsub_cons rfl (qsub_cons rfl (qsub_cons rfl (qsub_cons rfl (qsub_cons rfl (qsub_cons rfl (qsub_nil _))))))) (tL_law_c242 cx hX hB h66 h67 h68 hl hk18 _ _ _ _ _ _)
  · refine r_lload (pc := 187) cx dL_law_187 rfl ?_
    refine r_lconst (pc := 189) (z := 0) cx dL_law_189 (by decide +kernel) ?_
    refine r_lcmp (pc := 190) cx dL_law_190 ?_
    refine r_if_ne (tgt := 246) cx dL_law_191 (by decide) ?_ ?_
    · exact qS.sub (qsub_cons rfl (qsub_cons rfl (qsub_cons rfl (qsub_cons rfl (qsub_cons rfl (qsub_cons rfl (qsub_nil _))))))) (tL_law_c246 cx hX hB h66 h67 h68 hl hk18 _ _ _ _ _ _)
    · refine r_iload (pc := 194) cx dL_law_194 rfl ?_
      refine r_if_eq (tgt := 246) cx dL_law_196 (by decide) ?_ ?_
      · exact qS.sub (qsub_cons rfl (qsub_cons rfl (qsub_cons rfl (qsub_cons rfl (qsub_cons rfl (qsub_cons rfl (qsub_nil _))))))) (tL_law_c246 cx hX hB h66 h67 h68 hl hk18 _ _ _ _ _ _)
      · refine r_aload_n (pc := 199) cx dL_law_199 rfl ?_
        refine r_iload (pc := 200) cx dL_law_200 rfl ?_
        refine r_iconst (pc := 202) cx dL_law_202 ?_
        refine r_wj (pc := 203) (nb := 21800) (k := (kc + 1)) (mc := 1) (Mx := 400000) cx (tL_cellOf hB h66 h67 h68 hl x10 0 σ49) qmh_L_cellOf wm_L_101 dL_law_203 rfl rfl (Nat.le_of_ble_eq_true rfl) ⟨Nat.le_of_ble_eq_true rfl, Nat.le_of_ble_eq_true rfl⟩ ⟨Nat.le_of_ble_eq_true rfl, Nat.le_of_ble_eq_true rfl⟩ ⟨Nat.le_of_ble_eq_true rfl, Nat.le_of_ble_eq_true rfl⟩ (by omega) (fun r203 σ50 => ?_)
        refine r_lconst (pc := 206) (z := 1) cx dL_law_206 (by decide +kernel) ?_
        refine r_lcmp (pc := 207) cx dL_law_207 ?_
        refine r_if_ne (tgt := 246) cx dL_law_208 (by decide) ?_ ?_
        · exact qS.sub (qsub_cons rfl (qsub_cons rfl (qsub_cons rfl (qsub_cons rfl (qsub_cons rfl (qsub_cons rfl (qsub_nil _))))))) (tL_law_c246 cx hX hB h66 h67 h68 hl hk18 _ _ _ _ _ _)
        · refine r_aload_n (pc := 211) cx dL_law_211 rfl ?_
          refine r_iload (pc := 212) cx dL_law_212 rfl ?_
          refine r_iconst (pc := 214) cx dL_law_214 ?_
          refine r_wj (pc := 215) (nb := 21800) (k := ((kc + 1) + 1)) (mc := 1) (Mx := 400000) cx (tL_cellOf hB h66 h67 h68 hl x10 1 σ50) qmh_L_cellOf wm_L_101 dL_law_215 rfl rfl (Nat.le_of_ble_eq_true rfl) ⟨Nat.le_of_ble_eq_true rfl, Nat.le_of_ble_eq_true rfl⟩ ⟨Nat.le_of_ble_eq_true rfl, Nat.le_of_ble_eq_true rfl⟩ ⟨Nat.le_of_ble_eq_true rfl, Nat.le_of_ble_eq_true rfl⟩ (by omega) (fun r215 σ51 => ?_)
          refine r_iload (pc := 218) cx dL_law_218 rfl ?_
          refine r_bipush (pc := 220) (v := 96) cx dL_law_220 (by decide +kernel) ?_
          refine r_idiv (pc := 222) cx dL_law_222 (by decide +kernel) ?_
          refine r_iconst (pc := 223) cx dL_law_223 ?_
          refine r_irem (pc := 224) cx dL_law_224 (by decide +kernel) ?_
          refine r_iconst (pc := 225) cx dL_law_225 ?_
          refine r_isub (pc := 226) cx dL_law_226 ?_
          refine r_i2l (pc := 227) cx dL_law_227 ?_
          refine r_lcmp (pc := 228) cx dL_law_228 ?_
          refine r_if_ne (tgt := 246) cx dL_law_229 (by decide) ?_ ?_
          · exact qS.sub (qsub_cons rfl (qsub_cons rfl (qsub_cons rfl (qsub_cons rfl (qsub_cons rfl (qsub_cons rfl (qsub_nil _))))))) (tL_law_c246 cx hX hB h66 h67 h68 hl hk18 _ _ _ _ _ _)
          · refine r_aload_n (pc := 232) cx dL_law_232 rfl ?_
            refine r_iconst (pc := 233) cx dL_law_233 ?_
            refine r_wj (pc := 234) (nb := 21800) (k := (((kc + 1) + 1) + 1)) (mc := 1) (Mx := 400000) cx (tL_sum hB h66 h67 h68 hl 1 σ51) qmh_L_sum wm_L_114 dL_law_234 rfl rfl (Nat.le_of_ble_eq_true rfl) ⟨Nat.le_of_ble_eq_true rfl, Nat.le_of_ble_eq_true rfl⟩ ⟨Nat.le_of_ble_eq_true rfl, Nat.le_of_ble_eq_true rfl⟩ ⟨Nat.le_of_ble_eq_true rfl, Nat.le_of_ble_eq_true rfl⟩ (by omega) (fun r234 σ52 => ?_)
            refine r_lconst (pc := 237) (z := 0) cx dL_law_237 (by decide +kernel) ?_
            refine r_lcmp (pc := 238) cx dL_law_238 ?_
            refine r_if_ne (tgt := 246) cx dL_law_239 (by decide) ?_ ?_
            · exact qS.sub (qsub_cons rfl (qsub_cons rfl (qsub_cons rfl (qsub_cons rfl (qsub_cons rfl (qsub_cons rfl (qsub_nil _))))))) (tL_law_c246 cx hX hB h66 h67 h68 hl hk18 _ _ _ _ _ _)
            · exact qS.sub (qsub_cons rfl (qsub_cons rfl (qsub_cons rfl (qsub_cons rfl (qsub_cons rfl (qsub_cons rfl (qsub_nil _))))))) (tL_law_c242 cx hX hB h66 h67 h68 hl hk18 _ _ _ _ _ _)
def fL_law_c158 (L : Nat) (xs : Nat → Int32) (k18 : Nat → Int → Int → Int → qSt → Option Unit) (kc : Nat) (x3 : Int) (x6 : Int) (x7 : Int) (x8 : Int) (x10 : Int) (σ : qSt) : Option Unit :=
  (qif (kc + 0 ≤ 400000) (fL_law_c159 L xs k18 kc x3 x6 x7 x8 x10 0 σ))
set_option maxRecDepth 100000 in
set_option maxHeartbeats 4000000 in
theorem tL_law_c158 {p : Program} {l : Launch} {e : Env} {s : State} {m : MethodId} {below : List Frame} {meth : Method} {c : Code} {g : qG} {w : qWd} {ad : Nat → Nat} {b L : Nat} {xs : Nat → Int32} (cx : qCx p s m meth c cL_law 22 RL (some .boolean) g s.heap.size) (hX : qScr b L xs s.heap.size s) (hB : qBC g ad w) (h66 : w 66 = none) (h67 : w 67 = none) (h68 : w 68 = none) (hl : l.stackTraces = false) {k18 : Nat → Int → Int → Int → qSt → Option Unit} (hk18 : ∀ (kc : Nat) (x2 : Int) (x3 : Int) (x6 : Int) (σ : qSt), qS p l e room_1 s m #[Value.ref b] below meth c 22 g s.heap.size w kc (21800 + 6 * kc) (fun _ => lw_Z below #[Value.ref b] s) (k18 kc x2 x3 x6 σ) σ 18 [(0, some (.ref b)), (1, some (.ref (ad 0))), (2, some (.int (qI x2))), (3, some (.int (qI x3))), (6, some (.int (qI x6)))] []) (kc : Nat) (x3 : Int) (x6 : Int) (x7 : Int) (x8 : Int) (x10 : Int) (σ : qSt) : qS p l e room_1 s m #[Value.ref b] below meth c 22 g s.heap.size w kc (21800 + 6 * kc) (fun _ => lw_Z below #[Value.ref b] s) (fL_law_c158 L xs k18 kc x3 x6 x7 x8 x10 σ) σ 158 [(0, some (.ref b)), (1, some (.ref (ad 0))), (3, some (.int (qI x3))), (6, some (.int (qI x6))), (7, some (.int (qI x7))), (8, some (.int (qI x8))), (10, some (.int (qI x10)))] [] := by
  unfold fL_law_c158
  refine r_qif (fun hkc => ?_)
  refine r_iconst (pc := 158) cx dL_law_158 ?_
  exact qS.sub (qsub_cons rfl (qsub_cons rfl (qsub_cons rfl (qsub_cons rfl (qsub_cons rfl (qsub_cons rfl (qsub_cons rfl (qsub_nil _)))))))) (tL_law_c159 cx hX hB h66 h67 h68 hl hk18 _ _ _ _ _ _ _ _)
def fL_law_c97 (L : Nat) (xs : Nat → Int32) (k18 : Nat → Int → Int → Int → qSt → Option Unit) (kc : Nat) (x3 : Int) (x6 : Int) (x7 : Int) (x8 : Int) (x10 : Int) (x13 : Int) (σ : qSt) : Option Unit :=
  (qif (kc + 5 ≤ 400000) (if qI (qlcmp x13 0) = 0 then (qbd (fL_cellOf x10 2 σ) fun (r108 : Int) (σ33 : qSt) => (if qI (qlcmp r108 0) = 0 then (qbd (fL_cellOf x10 4 σ33) fun (r120 : Int) (σ34 : qSt) => (qbd (fL_cellOf x10 5 σ34) fun (r127 : Int) (σ35 : qSt) => (qbd (fL_cellOf x10 6 σ35) fun (r136 : Int) (σ36 : qSt) => (qbd (fL_cellOf x10 7 σ36) fun (r145 : Int) (σ37 : qSt) => (if qI (qlcmp (((r120 + r127) + r136) + r145) 0) = 0 then (fL_law_c159 L xs k18 (((((kc + 1) + 1) + 1) + 1) + 1) x3 x6 x7 x8 x10 1 σ37) else (fL_law_c158 L xs k18 (((((kc + 1) + 1) + 1) + 1) + 1) x3 x6 x7 x8 x10 σ37)))))) else (fL_law_c158 L xs k18 (kc + 1) x3 x6 x7 x8 x10 σ33))) else (fL_law_c158 L xs k18 kc x3 x6 x7 x8 x10 σ)))
set_option maxRecDepth 100000 in
set_option maxHeartbeats 4000000 in
theorem tL_law_c97 {p : Program} {l : Launch} {e : Env} {s : State} {m : MethodId} {below : List Frame} {meth : Method} {c : Code} {g : qG} {w : qWd} {ad : Nat → Nat} {b L : Nat} {xs : Nat → Int32} (cx : qCx p s m meth c cL_law 22 RL (some .boolean) g s.heap.size) (hX : qScr b L xs s.heap.size s) (hB : qBC g ad w) (h66 : w 66 = none) (h67 : w 67 = none) (h68 : w 68 = none) (hl : l.stackTraces = false) {k18 : Nat → Int → Int → Int → qSt → Option Unit} (hk18 : ∀ (kc : Nat) (x2 : Int) (x3 : Int) (x6 : Int) (σ : qSt), qS p l e room_1 s m #[Value.ref b] below meth c 22 g s.heap.size w kc (21800 + 6 * kc) (fun _ => lw_Z below #[Value.ref b] s) (k18 kc x2 x3 x6 σ) σ 18 [(0, some (.ref b)), (1, some (.ref (ad 0))), (2, some (.int (qI x2))), (3, some (.int (qI x3))), (6, some (.int (qI x6)))] []) (kc : Nat) (x3 : Int) (x6 : Int) (x7 : Int) (x8 : Int) (x10 : Int) (x13 : Int) (σ : qSt) : qS p l e room_1 s m #[Value.ref b] below meth c 22 g s.heap.size w kc (21800 + 6 * kc) (fun _ => lw_Z below #[Value.ref b] s) (fL_law_c97 L xs k18 kc x3 x6 x7 x8 x10 x13 σ) σ 97 [(0, some (.ref b)), (1, some (.ref (ad 0))), (3, some (.int (qI x3))), (6, some (.int (qI x6))), (7, some (.int (qI x7))), (8, some (.int (qI x8))), (10, some (.int (qI x10))), (13, some (.long (qJ x13)))] [] := by
  unfold fL_law_c97
  refine r_qif (fun hkc => ?_)
  refine r_lload (pc := 97) cx dL_law_97 rfl ?_
  refine r_lconst (pc := 99) (z := 0) cx dL_law_99 (by decide +kernel) ?_
  refine r_lcmp (pc := 100) cx dL_law_100 ?_
  refine r_if_ne (tgt := 158) cx dL_law_101 (by decide) ?_ ?_
  · exact qS.sub (qsub_cons rfl (qsub_cons rfl (qsub_cons rfl (qsub_cons rfl (qsub_cons rfl (qsub_cons rfl (qsub_cons rfl (qsub_nil _)))))))) (tL_law_c158 cx hX hB h66 h67 h68 hl hk18 _ _ _ _ _ _ _)
  · refine r_aload_n (pc := 104) cx dL_law_104 rfl ?_
    refine r_iload (pc := 105) cx dL_law_105 rfl ?_
    refine r_iconst (pc := 107) cx dL_law_107 ?_
    refine r_wj (pc := 108) (nb := 21800) (k := kc) (mc := 1) (Mx := 400000) cx (tL_cellOf hB h66 h67 h68 hl x10 2 σ) qmh_L_cellOf wm_L_101 dL_law_108 rfl rfl (Nat.le_of_ble_eq_true rfl) ⟨Nat.le_of_ble_eq_true rfl, Nat.le_of_ble_eq_true rfl⟩ ⟨Nat.le_of_ble_eq_true rfl, Nat.le_of_ble_eq_true rfl⟩ ⟨Nat.le_of_ble_eq_true rfl, Nat.le_of_ble_eq_true rfl⟩ (by omega) (fun r108 σ33 => ?_)
    refine r_lconst (pc := 111) (z := 0) cx dL_law_111 (by decide +kernel) ?_
    refine r_lcmp (pc := 112) cx dL_law_112 ?_
    refine r_if_ne (tgt := 158) cx dL_law_113 (by decide) ?_ ?_
    · exact qS.sub (qsub_cons rfl (qsub_cons rfl (qsub_cons rfl (qsub_cons rfl (qsub_cons rfl (qsub_cons rfl (qsub_cons rfl (qsub_nil _)))))))) (tL_law_c158 cx hX hB h66 h67 h68 hl hk18 _ _ _ _ _ _ _)
    · refine r_aload_n (pc := 116) cx dL_law_116 rfl ?_
      refine r_iload (pc := 117) cx dL_law_117 rfl ?_
      refine r_iconst (pc := 119) cx dL_law_119 ?_
      refine r_wj (pc := 120) (nb := 21800) (k := (kc + 1)) (mc := 1) (Mx := 400000) cx (tL_cellOf hB h66 h67 h68 hl x10 4 σ33) qmh_L_cellOf wm_L_101 dL_law_120 rfl rfl (Nat.le_of_ble_eq_true rfl) ⟨Nat.le_of_ble_eq_true rfl, Nat.le_of_ble_eq_true rfl⟩ ⟨Nat.le_of_ble_eq_true rfl, Nat.le_of_ble_eq_true rfl⟩ ⟨Nat.le_of_ble_eq_true rfl, Nat.le_of_ble_eq_true rfl⟩ (by omega) (fun r120 σ34 => ?_)
      refine r_aload_n (pc := 123) cx dL_law_123 rfl ?_
      refine r_iload (pc := 124) cx dL_law_124 rfl ?_
      refine r_iconst (pc := 126) cx dL_law_126 ?_
      refine r_wj (pc := 127) (nb := 21800) (k := ((kc + 1) + 1)) (mc := 1) (Mx := 400000) cx (tL_cellOf hB h66 h67 h68 hl x10 5 σ34) qmh_L_cellOf wm_L_101 dL_law_127 rfl rfl (Nat.le_of_ble_eq_true rfl) ⟨Nat.le_of_ble_eq_true rfl, Nat.le_of_ble_eq_true rfl⟩ ⟨Nat.le_of_ble_eq_true rfl, Nat.le_of_ble_eq_true rfl⟩ ⟨Nat.le_of_ble_eq_true rfl, Nat.le_of_ble_eq_true rfl⟩ (by omega) (fun r127 σ35 => ?_)
      refine r_ladd (pc := 130) cx dL_law_130 ?_
      refine r_aload_n (pc := 131) cx dL_law_131 rfl ?_
      refine r_iload (pc := 132) cx dL_law_132 rfl ?_
      refine r_bipush (pc := 134) (v := 6) cx dL_law_134 (by decide +kernel) ?_
      refine r_wj (pc := 136) (nb := 21800) (k := (((kc + 1) + 1) + 1)) (mc := 1) (Mx := 400000) cx (tL_cellOf hB h66 h67 h68 hl x10 6 σ35) qmh_L_cellOf wm_L_101 dL_law_136 rfl rfl (Nat.le_of_ble_eq_true rfl) ⟨Nat.le_of_ble_eq_true rfl, Nat.le_of_ble_eq_true rfl⟩ ⟨Nat.le_of_ble_eq_true rfl, Nat.le_of_ble_eq_true rfl⟩ ⟨Nat.le_of_ble_eq_true rfl, Nat.le_of_ble_eq_true rfl⟩ (by omega) (fun r136 σ36 => ?_)
      refine r_ladd (pc := 139) cx dL_law_139 ?_
      refine r_aload_n (pc := 140) cx dL_law_140 rfl ?_
      refine r_iload (pc := 141) cx dL_law_141 rfl ?_
      refine r_bipush (pc := 143) (v := 7) cx dL_law_143 (by decide +kernel) ?_
      refine r_wj (pc := 145) (nb := 21800) (k := ((((kc + 1) + 1) + 1) + 1)) (mc := 1) (Mx := 400000) cx (tL_cellOf hB h66 h67 h68 hl x10 7 σ36) qmh_L_cellOf wm_L_101 dL_law_145 rfl rfl (Nat.le_of_ble_eq_true rfl) ⟨Nat.le_of_ble_eq_true rfl, Nat.le_of_ble_eq_true rfl⟩ ⟨Nat.le_of_ble_eq_true rfl, Nat.le_of_ble_eq_true rfl⟩ ⟨Nat.le_of_ble_eq_true rfl, Nat.le_of_ble_eq_true rfl⟩ (by omega) (fun r145 σ37 => ?_)
      refine r_ladd (pc := 148) cx dL_law_148 ?_
      refine r_lconst (pc := 149) (z := 0) cx dL_law_149 (by decide +kernel) ?_
      refine r_lcmp (pc := 150) cx dL_law_150 ?_
      refine r_if_ne (tgt := 158) cx dL_law_151 (by decide) ?_ ?_
      · exact qS.sub (qsub_cons rfl (qsub_cons rfl (qsub_cons rfl (qsub_cons rfl (qsub_cons rfl (qsub_cons rfl (qsub_cons rfl (qsub_nil _)))))))) (tL_law_c158 cx hX hB h66 h67 h68 hl hk18 _ _ _ _ _ _ _)
      · refine r_iconst (pc := 154) cx dL_law_154 ?_
        refine r_goto (pc := 155) (tgt := 159) cx dL_law_155 (by decide) ?_
        exact qS.sub (qsub_cons rfl (qsub_cons rfl (qsub_cons rfl (qsub_cons rfl (qsub_cons rfl (qsub_cons rfl (qsub_cons rfl (qsub_nil _)))))))) (tL_law_c159 cx hX hB h66 h67 h68 hl hk18 _ _ _ _ _ _ _ _)
def fL_law_c92 (L : Nat) (xs : Nat → Int32) (k18 : Nat → Int → Int → Int → qSt → Option Unit) (kc : Nat) (x2 : Int) (x3 : Int) (x6 : Int) (x7 : Int) (x8 : Int) (x9 : Int) (x10 : Int) (x11 : Int) (x13 : Int) (σ : qSt) : Option Unit :=
  (qif (kc + 0 ≤ 400000) (if qI x9 = 0 then (fL_law_c97 L xs k18 kc x3 x6 x7 x8 x10 x13 σ) else (if qI x9 = qI 1 then (fL_law_c257 L xs k18 kc x3 x6 x7 x8 x10 x13 σ) else (if qI x9 = qI 2 then (fL_law_c306 L xs k18 kc x3 x6 x7 x8 x10 x13 σ) else (if qI 6 ≤ qI x9 then (if qI x9 = qI 6 then (fL_law_c538 L xs k18 kc x3 x6 x7 x8 x10 σ) else (if qI x9 = qI 7 then (fL_law_c594 L xs k18 kc x3 x6 x7 x8 x10 x13 σ) else (if qI x9 = qI 8 then (fL_law_c665 L xs k18 kc x3 x6 x7 x8 x10 x13 σ) else (if qI x9 = qI 9 then (fL_law_c761 L xs k18 kc x3 x6 x7 x8 x11 σ) else (if qI x9 = qI 10 then (fL_law_c824 L xs k18 kc x3 x6 x7 x8 σ) else (if qI 14 ≤ qI x9 then (fL_law_c1118 L xs k18 kc x2 x3 x6 x7 x8 x11 σ) else (fL_law_c924 L xs k18 kc x3 x6 x7 x8 x11 σ))))))) else (fL_law_c402 L xs k18 kc x2 x3 x6 x7 x8 x10 σ))))))
set_option maxRecDepth 100000 in
set_option maxHeartbeats 4000000 in
theorem tL_law_c92 {p : Program} {l : Launch} {e : Env} {s : State} {m : MethodId} {below : List Frame} {meth : Method} {c : Code} {g : qG} {w : qWd} {ad : Nat → Nat} {b L : Nat} {xs : Nat → Int32} (cx : qCx p s m meth c cL_law 22 RL (some .boolean) g s.heap.size) (hX : qScr b L xs s.heap.size s) (hB : qBC g ad w) (h66 : w 66 = none) (h67 : w 67 = none) (h68 : w 68 = none) (hl : l.stackTraces = false) {k18 : Nat → Int → Int → Int → qSt → Option Unit} (hk18 : ∀ (kc : Nat) (x2 : Int) (x3 : Int) (x6 : Int) (σ : qSt), qS p l e room_1 s m #[Value.ref b] below meth c 22 g s.heap.size w kc (21800 + 6 * kc) (fun _ => lw_Z below #[Value.ref b] s) (k18 kc x2 x3 x6 σ) σ 18 [(0, some (.ref b)), (1, some (.ref (ad 0))), (2, some (.int (qI x2))), (3, some (.int (qI x3))), (6, some (.int (qI x6)))] []) (kc : Nat) (x2 : Int) (x3 : Int) (x6 : Int) (x7 : Int) (x8 : Int) (x9 : Int) (x10 : Int) (x11 : Int) (x13 : Int) (σ : qSt) : qS p l e room_1 s m #[Value.ref b] below meth c 22 g s.heap.size w kc (21800 + 6 * kc) (fun _ => lw_Z below #[Value.ref b] s) (fL_law_c92 L xs k18 kc x2 x3 x6 x7 x8 x9 x10 x11 x13 σ) σ 92 [(0, some (.ref b)), (1, some (.ref (ad 0))), (2, some (.int (qI x2))), (3, some (.int (qI x3))), (6, some (.int (qI x6))), (7, some (.int (qI x7))), (8, some (.int (qI x8))), (9, some (.int (qI x9))), (10, some (.int (qI x10))), (11, some (.long (qJ x11))), (13, some (.long (qJ x13)))] [] := by
  unfold fL_law_c92
  refine r_qif (fun hkc => ?_)
  refine r_iload (pc := 92) cx dL_law_92 rfl ?_
  refine r_if_ne (tgt := 251) cx dL_law_94 (by decide) ?_ ?_
  · refine r_iload (pc := 251) cx dL_law_251 rfl ?_
    refine r_iconst (pc := 253) cx dL_law_253 ?_
    refine r_icmp_ne (tgt := 300) cx dL_law_254 (by decide) ?_ ?_
    · refine r_iload (pc := 300) cx dL_law_300 rfl ?_
      refine r_iconst (pc := 302) cx dL_law_302 ?_
      refine r_icmp_ne (tgt := 395) cx dL_law_303 (by decide) ?_ ?_
      · refine r_iload (pc := 395) cx dL_law_395 rfl ?_
        refine r_bipush (pc := 397) (v := 6) cx dL_law_397 (by decide +kernel) ?_
        refine r_icmp_ge (tgt := 531) cx dL_law_399 (by decide) ?_ ?_
        · refine r_iload (pc := 531) cx dL_law_531 rfl ?_
          refine r_bipush (pc := 533) (v := 6) cx dL_law_533 (by decide +kernel) ?_
          refine r_icmp_ne (tgt := 587) cx dL_law_535 (by decide) ?_ ?_
          · refine r_iload (pc := 587) cx dL_law_587 rfl ?_
            refine r_bipush (pc := 589) (v := 7) cx dL_law_589 (by decide +kernel) ?_
            refine r_icmp_ne (tgt := 658) cx dL_law_591 (by decide) ?_ ?_
            · refine r_iload (pc := 658) cx dL_law_658 rfl ?_
              refine r_bipush (pc := 660) (v := 8) cx dL_law_660 (by decide +kernel) ?_
              refine r_icmp_ne (tgt := 754) cx dL_law_662 (by decide) ?_ ?_
              · refine r_iload (pc := 754) cx dL_law_754 rfl ?_
                refine r_bipush (pc := 756) (v := 9) cx dL_law_756 (by decide +kernel) ?_
                refine r_icmp_ne (tgt := 817) cx dL_law_758 (by decide) ?_ ?_
                · refine r_iload (pc := 817) cx dL_law_817 rfl ?_
                  refine r_bipush (pc := 819) (v := 10) cx dL_law_819 (by decide +kernel) ?_
                  refine r_icmp_ne (tgt := 917) cx dL_law_821 (by decide) ?_ ?_
                  · refine r_iload (pc := 917) cx dL_law_917 rfl ?_
                    refine r_bipush (pc := 919) (v := 14) cx dL_law_919 (by decide +kernel) ?_
                    refine r_icmp_ge (tgt := 1118) cx dL_law_921 (by decide) ?_ ?_
                    · exact qS.sub (qsub_cons rfl (qsub_cons rfl (qsub_cons rfl (qsub_cons rfl (qsub_cons rfl (qsub_cons rfl (qsub_cons rfl (qsub_cons rfl (qsub_nil _))))))))) (tL_law_c1118 cx hX hB h66 h67 h68 hl hk18 _ _ _ _ _ _ _ _)
                    · exact qS.sub (qsub_cons rfl (qsub_cons rfl (qsub_cons rfl (qsub_cons rfl (qsub_cons rfl (qsub_cons rfl (qsub_cons rfl (qsub_nil _)))))))) (tL_law_c924 cx hX hB h66 h67 h68 hl hk18 _ _ _ _ _ _ _)
                  · exact qS.sub (qsub_cons rfl (qsub_cons rfl (qsub_cons rfl (qsub_cons rfl (qsub_cons rfl (qsub_cons rfl (qsub_nil _))))))) (tL_law_c824 cx hX hB h66 h67 h68 hl hk18 _ _ _ _ _ _)
                · exact qS.sub (qsub_cons rfl (qsub_cons rfl (qsub_cons rfl (qsub_cons rfl (qsub_cons rfl (qsub_cons rfl (qsub_cons rfl (qsub_nil _)))))))) (tL_law_c761 cx hX hB h66 h67 h68 hl hk18 _ _ _ _ _ _ _)
              · exact qS.sub (qsub_cons rfl (qsub_cons rfl (qsub_cons rfl (qsub_cons rfl (qsub_cons rfl (qsub_cons rfl (qsub_cons rfl (qsub_cons rfl (qsub_nil _))))))))) (tL_law_c665 cx hX hB h66 h67 h68 hl hk18 _ _ _ _ _ _ _ _)
            · exact qS.sub (qsub_cons rfl (qsub_cons rfl (qsub_cons rfl (qsub_cons rfl (qsub_cons rfl (qsub_cons rfl (qsub_cons rfl (qsub_cons rfl (qsub_nil _))))))))) (tL_law_c594 cx hX hB h66 h67 h68 hl hk18 _ _ _ _ _ _ _ _)
          · exact qS.sub (qsub_cons rfl (qsub_cons rfl (qsub_cons rfl (qsub_cons rfl (qsub_cons rfl (qsub_cons rfl (qsub_cons rfl (qsub_nil _)))))))) (tL_law_c538 cx hX hB h66 h67 h68 hl hk18 _ _ _ _ _ _ _)
        · exact qS.sub (qsub_cons rfl (qsub_cons rfl (qsub_cons rfl (qsub_cons rfl (qsub_cons rfl (qsub_cons rfl (qsub_cons rfl (qsub_cons rfl (qsub_nil _))))))))) (tL_law_c402 cx hX hB h66 h67 h68 hl hk18 _ _ _ _ _ _ _ _)
      · exact qS.sub (qsub_cons rfl (qsub_cons rfl (qsub_cons rfl (qsub_cons rfl (qsub_cons rfl (qsub_cons rfl (qsub_cons rfl (qsub_cons rfl (qsub_nil _))))))))) (tL_law_c306 cx hX hB h66 h67 h68 hl hk18 _ _ _ _ _ _ _ _)
    · exact qS.sub (qsub_cons rfl (qsub_cons rfl (qsub_cons rfl (qsub_cons rfl (qsub_cons rfl (qsub_cons rfl (qsub_cons rfl (qsub_cons rfl (qsub_nil _))))))))) (tL_law_c257 cx hX hB h66 h67 h68 hl hk18 _ _ _ _ _ _ _ _)
  · exact qS.sub (qsub_cons rfl (qsub_cons rfl (qsub_cons rfl (qsub_cons rfl (qsub_cons rfl (qsub_cons rfl (qsub_cons rfl (qsub_cons rfl (qsub_nil _))))))))) (tL_law_c97 cx hX hB h66 h67 h68 hl hk18 _ _ _ _ _ _ _ _)
def fL_law_c67 (L : Nat) (xs : Nat → Int32) (k18 : Nat → Int → Int → Int → qSt → Option Unit) (kc : Nat) (x2 : Int) (x3 : Int) (x6 : Int) (x7 : Int) (x8 : Int) (s0 : Int) (σ : qSt) : Option Unit :=
  (qif (kc + 2 ≤ 400000) (qb (qrem x8 96) fun (y3 : Int) => (qbd (fL_sum 1 σ) fun (r78 : Int) (σ4 : qSt) => (qbd (fL_cellOf y3 0 σ4) fun (r87 : Int) (σ5 : qSt) => (fL_law_c92 L xs k18 ((kc + 1) + 1) x2 x3 x6 x7 x8 s0 y3 r78 r87 σ5)))))
set_option maxRecDepth 100000 in
set_option maxHeartbeats 4000000 in
theorem tL_law_c67 {p : Program} {l : Launch} {e : Env} {s : State} {m : MethodId} {below : List Frame} {meth : Method} {c : Code} {g : qG} {w : qWd} {ad : Nat → Nat} {b L : Nat} {xs : Nat → Int32} (cx : qCx p s m meth c cL_law 22 RL (some .boolean) g s.heap.size) (hX : qScr b L xs s.heap.size s) (hB : qBC g ad w) (h66 : w 66 = none) (h67 : w 67 = none) (h68 : w 68 = none) (hl : l.stackTraces = false) {k18 : Nat → Int → Int → Int → qSt → Option Unit} (hk18 : ∀ (kc : Nat) (x2 : Int) (x3 : Int) (x6 : Int) (σ : qSt), qS p l e room_1 s m #[Value.ref b] below meth c 22 g s.heap.size w kc (21800 + 6 * kc) (fun _ => lw_Z below #[Value.ref b] s) (k18 kc x2 x3 x6 σ) σ 18 [(0, some (.ref b)), (1, some (.ref (ad 0))), (2, some (.int (qI x2))), (3, some (.int (qI x3))), (6, some (.int (qI x6)))] []) (kc : Nat) (x2 : Int) (x3 : Int) (x6 : Int) (x7 : Int) (x8 : Int) (s0 : Int) (σ : qSt) : qS p l e room_1 s m #[Value.ref b] below meth c 22 g s.heap.size w kc (21800 + 6 * kc) (fun _ => lw_Z below #[Value.ref b] s) (fL_law_c67 L xs k18 kc x2 x3 x6 x7 x8 s0 σ) σ 67 [(0, some (.ref b)), (1, some (.ref (ad 0))), (2, some (.int (qI x2))), (3, some (.int (qI x3))), (6, some (.int (qI x6))), (7, some (.int (qI x7))), (8, some (.int (qI x8)))] [.int (qI s0)] := by
  unfold fL_law_c67
  refine r_qif (fun hkc => ?_)
  refine r_istore (pc := 67) cx dL_law_67 (by decide) rfl ?_
  refine r_iload (pc := 69) cx dL_law_69 rfl ?_
  refine r_bipush (pc := 71) (v := 96) cx dL_law_71 (by decide +kernel) ?_
  refine r_irem (pc := 73) cx dL_law_73 (by decide +kernel) ?_
  refine r_nmi (fun y3 => ?_)
  refine r_istore (pc := 74) cx dL_law_74 (by decide) rfl ?_
  refine r_aload_n (pc := 76) cx dL_law_76 rfl ?_
  refine r_iconst (pc := 77) cx dL_law_77 ?_
  refine r_wj (pc := 78) (nb := 21800) (k := kc) (mc := 1) (Mx := 400000) cx (tL_sum hB h66 h67 h68 hl 1 σ) qmh_L_sum wm_L_114 dL_law_78 rfl rfl (Nat.le_of_ble_eq_true rfl) ⟨Nat.le_of_ble_eq_true rfl, Nat.le_of_ble_eq_true rfl⟩ ⟨Nat.le_of_ble_eq_true rfl, Nat.le_of_ble_eq_true rfl⟩ ⟨Nat.le_of_ble_eq_true rfl, Nat.le_of_ble_eq_true rfl⟩ (by omega) (fun r78 σ4 => ?_)
  refine r_lstore (pc := 81) cx dL_law_81 (by decide) rfl ?_
  refine r_aload_n (pc := 83) cx dL_law_83 rfl ?_
  refine r_iload (pc := 84) cx dL_law_84 rfl ?_
  refine r_iconst (pc := 86) cx dL_law_86 ?_
  refine r_wj (pc := 87) (nb := 21800) (k := (kc + 1)) (mc := 1) (Mx := 400000) cx (tL_cellOf hB h66 h67 h68 hl y3 0 σ4) qmh_L_cellOf wm_L_101 dL_law_87 rfl rfl (Nat.le_of_ble_eq_true rfl) ⟨Nat.le_of_ble_eq_true rfl, Nat.le_of_ble_eq_true rfl⟩ ⟨Nat.le_of_ble_eq_true rfl, Nat.le_of_ble_eq_true rfl⟩ ⟨Nat.le_of_ble_eq_true rfl, Nat.le_of_ble_eq_true rfl⟩ (by omega) (fun r87 σ5 => ?_)
  refine r_lstore (pc := 90) cx dL_law_90 (by decide) rfl ?_
  exact qS.sub (qsub_cons rfl (qsub_cons rfl (qsub_cons rfl (qsub_cons rfl (qsub_cons rfl (qsub_cons rfl (qsub_cons rfl (qsub_cons rfl (qsub_cons rfl (qsub_cons rfl (qsub_cons rfl (qsub_nil _)))))))))))) (tL_law_c92 cx hX hB h66 h67 h68 hl hk18 _ _ _ _ _ _ _ _ _ _ _)
def fL_law_c18 (L : Nat) (xs : Nat → Int32) : Nat → Nat → Int → Int → Int → qSt → Option Unit
  | 0, _, _, _, _, _ => none
  | f + 1, kc, x2, x3, x6, σ => (qif (kc + 0 ≤ 400000) (if qI 48 ≤ qI x6 then (qif (x2 = 1) (some ())) else (if qI x2 = 0 then (qif (x2 = 1) (some ())) else ((fL_draw L xs (2 * x6)).bind fun (r34 : Int) => ((fL_draw L xs ((2 * x6) + 1)).bind fun (r46 : Int) => (if qI 6 ≤ qI x6 then (fL_law_c67 L xs (fL_law_c18 L xs f) kc x2 x3 x6 r34 r46 (qrem r34 16) σ) else (fL_law_c67 L xs (fL_law_c18 L xs f) kc x2 x3 x6 r34 r46 3 σ)))))))
set_option maxRecDepth 100000 in
set_option maxHeartbeats 4000000 in
theorem tL_law_c18 {p : Program} {l : Launch} {e : Env} {s : State} {m : MethodId} {below : List Frame} {meth : Method} {c : Code} {g : qG} {w : qWd} {ad : Nat → Nat} {b L : Nat} {xs : Nat → Int32} (cx : qCx p s m meth c cL_law 22 RL (some .boolean) g s.heap.size) (hX : qScr b L xs s.heap.size s) (hB : qBC g ad w) (h66 : w 66 = none) (h67 : w 67 = none) (h68 : w 68 = none) (hl : l.stackTraces = false) : ∀ (f : Nat) (kc : Nat) (x2 : Int) (x3 : Int) (x6 : Int) (σ : qSt), qS p l e room_1 s m #[Value.ref b] below meth c 22 g s.heap.size w kc (21800 + 6 * kc) (fun _ => lw_Z below #[Value.ref b] s) (fL_law_c18 L xs f kc x2 x3 x6 σ) σ 18 [(0, some (.ref b)), (1, some (.ref (ad 0))), (2, some (.int (qI x2))), (3, some (.int (qI x3))), (6, some (.int (qI x6)))] [] := by
  intro f
  induction f with
  | zero => exact fun _ _ _ _ _ => qS.fail
  | succ f ih =>
    intro kc x2 x3 x6 σ
    unfold fL_law_c18
    refine r_qif (fun hkc => ?_)
    refine r_iload (pc := 18) cx dL_law_18 rfl ?_
    refine r_bipush (pc := 20) (v := 48) cx dL_law_20 (by decide +kernel) ?_
    refine r_icmp_ge (tgt := 1279) cx dL_law_22 (by decide) ?_ ?_
    · refine r_iload_n (pc := 1279) cx dL_law_1279 rfl ?_
      refine r_qif (fun hz => ?_)
      subst hz
      intro u hu H locs ls hH hS hV
      refine va_forget (fun q hq => hS.2.2 q hq) ?_
      refine W.widen (k := 600074) (n := 7301550) (by omega) (by omega) ?_
      exact lw_ret cx.1 cx.2.1 cx.2.2.2.2.2.1 cx.2.2.2.2.2.2 dL_law_1280
    · refine r_iload_n (pc := 25) cx dL_law_25 rfl ?_
      refine r_if_eq (tgt := 1279) cx dL_law_26 (by decide) ?_ ?_
      · refine r_iload_n (pc := 1279) cx dL_law_1279 rfl ?_
        refine r_qif (fun hz => ?_)
        subst hz
        intro u hu H locs ls hH hS hV
        refine va_forget (fun q hq => hS.2.2 q hq) ?_
        refine W.widen (k := 600074) (n := 7301550) (by omega) (by omega) ?_
        exact lw_ret cx.1 cx.2.1 cx.2.2.2.2.2.1 cx.2.2.2.2.2.2 dL_law_1280
      · refine r_aload_n (pc := 29) cx dL_law_29 rfl ?_
        refine r_iconst (pc := 30) cx dL_law_30 ?_
        refine r_iload (pc := 31) cx dL_law_31 rfl ?_
        refine r_imul (pc := 33) cx dL_law_33 ?_
        refine r_draw (pc := 34) cx hX (tL_draw (2 * x6) σ) qm_L_draw qs_L_draw wm_L_172 dL_law_34 rfl rfl (Nat.le_of_ble_eq_true rfl) ⟨Nat.le_of_ble_eq_true rfl, Nat.le_of_ble_eq_true rfl⟩ ⟨rfl, rfl⟩ ⟨by show kc ≤ 600074; omega, by show 21800 + 6 * kc ≤ 7301550; omega⟩ (fun r34 => ?_)
        refine r_istore (pc := 37) cx dL_law_37 (by decide) rfl ?_
        refine r_aload_n (pc := 39) cx dL_law_39 rfl ?_
        refine r_iconst (pc := 40) cx dL_law_40 ?_
        refine r_iload (pc := 41) cx dL_law_41 rfl ?_
        refine r_imul (pc := 43) cx dL_law_43 ?_
        refine r_iconst (pc := 44) cx dL_law_44 ?_
        refine r_iadd (pc := 45) cx dL_law_45 ?_
        refine r_draw (pc := 46) cx hX (tL_draw ((2 * x6) + 1) σ) qm_L_draw qs_L_draw wm_L_172 dL_law_46 rfl rfl (Nat.le_of_ble_eq_true rfl) ⟨Nat.le_of_ble_eq_true rfl, Nat.le_of_ble_eq_true rfl⟩ ⟨rfl, rfl⟩ ⟨by show kc ≤ 600074; omega, by show 21800 + 6 * kc ≤ 7301550; omega⟩ (fun r46 => ?_)
        refine r_istore (pc := 49) cx dL_law_49 (by decide) rfl ?_
        refine r_iload (pc := 51) cx dL_law_51 rfl ?_
        refine r_bipush (pc := 53) (v := 6) cx dL_law_53 (by decide +kernel) ?_
        refine r_icmp_ge (tgt := 62) cx dL_law_55 (by decide) ?_ ?_
        · refine r_iload (pc := 62) cx dL_law_62 rfl ?_
          refine r_bipush (pc := 64) (v := 16) cx dL_law_64 (by decide +kernel) ?_
          refine r_irem (pc := 66) cx dL_law_66 (by decide +kernel) ?_
          exact qS.sub (qsub_cons rfl (qsub_cons rfl (qsub_cons rfl (qsub_cons rfl (qsub_cons rfl (qsub_cons rfl (qsub_cons rfl (qsub_nil _)))))))) (tL_law_c67 cx hX hB h66 h67 h68 hl ih _ _ _ _ _ _ _ _)
        · refine r_iconst (pc := 58) cx dL_law_58 ?_
          refine r_goto (pc := 59) (tgt := 67) cx dL_law_59 (by decide) ?_
          exact qS.sub (qsub_cons rfl (qsub_cons rfl (qsub_cons rfl (qsub_cons rfl (qsub_cons rfl (qsub_cons rfl (qsub_cons rfl (qsub_nil _)))))))) (tL_law_c67 cx hX hB h66 h67 h68 hl ih _ _ _ _ _ _ _ _)
def fL_law8 (L : Nat) (xs : Nat → Int32) (σ : qSt) : Option Unit :=
  (fL_law_c18 L xs qFU 47 1 0 0 σ)
set_option maxRecDepth 100000 in
set_option maxHeartbeats 4000000 in
theorem tL_law8 {p : Program} {l : Launch} {e : Env} {s : State} {m : MethodId} {below : List Frame} {meth : Method} {c : Code} {g : qG} {w : qWd} {ad : Nat → Nat} {b L : Nat} {xs : Nat → Int32} (cx : qCx p s m meth c cL_law 22 RL (some .boolean) g s.heap.size) (hX : qScr b L xs s.heap.size s) (hB : qBC g ad w) (h66 : w 66 = none) (h67 : w 67 = none) (h68 : w 68 = none) (hl : l.stackTraces = false) (σ : qSt) : qS p l e room_1 s m #[Value.ref b] below meth c 22 g s.heap.size w 47 (21800 + 6 * 47) (fun _ => lw_Z below #[Value.ref b] s) (fL_law8 L xs σ) σ 8 [(0, some (.ref b)), (1, some (.ref (ad 0)))] [] := by
  unfold fL_law8
  refine r_iconst (pc := 8) cx dL_law_8 ?_
  refine r_istore_n (pc := 9) cx dL_law_9 (by decide) rfl ?_
  refine r_iconst (pc := 10) cx dL_law_10 ?_
  refine r_istore_n (pc := 11) cx dL_law_11 (by decide) rfl ?_
  refine r_lconst (pc := 12) (z := 0) cx dL_law_12 (by decide +kernel) ?_
  refine r_lstore (pc := 13) cx dL_law_13 (by decide) rfl ?_
  refine r_iconst (pc := 15) cx dL_law_15 ?_
  refine r_istore (pc := 16) cx dL_law_16 (by decide) rfl ?_
  exact qS.sub (qsub_cons rfl (qsub_cons rfl (qsub_cons rfl (qsub_cons rfl (qsub_cons rfl (qsub_nil _)))))) (tL_law_c18 cx hX hB h66 h67 h68 hl _ _ _ _ _ _)
