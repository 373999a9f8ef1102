theorem qEn_cases {v : Int} {E : String} (h : qEn v = some E) : (v = 1 ∧ E = qE1) ∨ (v = 2 ∧ E = qE2) ∨ (v = 3 ∧ E = qE3) := by
  unfold qEn at h
  by_cases h1 : v = 1
  · rw [if_pos h1] at h; cases h; exact Or.inl ⟨h1, rfl⟩
  · rw [if_neg h1] at h
    by_cases h2 : v = 2
    · rw [if_pos h2] at h; cases h; exact Or.inr (Or.inl ⟨h2, rfl⟩)
    · rw [if_neg h2] at h
      by_cases h3 : v = 3
      · rw [if_pos h3] at h; cases h; exact Or.inr (Or.inr ⟨h3, rfl⟩)
      · rw [if_neg h3] at h; cases h
theorem qS.eqF {Y : Type} {p : Program} {l : Launch} {e : Env} {R : Room} {s : State} {m : MethodId} {args : Array Value} {below : List Frame} {meth : Method} {c : Code} {nL : Nat} {g : qG} {z0 : Nat} {w : qWd} {k n : Nat} {Q : Y → State → Prop} {F F' : Option Y} {σ : qSt} {pc : Nat} {lo : qLo} {st : List Value} (h : F = F') (kk : qS p l e R s m args below meth c nL g z0 w k n Q F' σ pc lo st) : qS p l e R s m args below meth c nL g z0 w k n Q F σ pc lo st := by
  rw [h]
  exact kk
theorem qall2 {α : Type} {a b : α} {P : α → Prop} (ha : P a) (hb : P b) (z : α) (hz : z ∈ [a, b]) : P z := by
  rcases List.mem_cons.mp hz with h | h
  · rw [h]; exact ha
  · rw [List.mem_singleton.mp h]; exact hb
theorem qNc12 {g : qG} {z0 : Nat} {s : State} (h : qK g z0 s) : qNc s := h.2.2.2.2.2
def fL_wall (p1 p2 : Int) (σ : qSt) : Option (Int × qSt) :=
  qbx (fX5_wall p1 p2 σ) fun (e : Int) (r : Int) (σ1 : qSt) => if e = 0 then some (0, σ1) else if e = 1 then some ((-9000000000000000001), σ1) else if e = 2 then none else if e = 3 then some ((-9000000000000000003), σ1) else none
set_option maxRecDepth 100000 in
set_option maxHeartbeats 4000000 in
theorem tL_wall {l : Launch} {z0 : Nat} {g : qG} {w : qWd} {ad : Nat → Nat} (hB : qBC g ad w) (h66 : w 66 = none) (h67 : w 67 = none) (h68 : w 68 = none) (hl : l.stackTraces = false) (p1 p2 : Int) (σ : qSt) : qCTH l yL_wall cL_wall 4 (some .long) [(0, 7, 8, 15), (0, 7, 13, 19)] (qrk 3 1 6) g z0 w [.ref (ad 0), .int (qI p1), .int (qI p2)] σ (fL_wall p1 p2 σ) qrj := by
  refine qCTH.of [(0, some (.ref (ad 0))), (1, some (.int (qI p1))), (2, some (.int (qI p2)))] (by decide +kernel) (Nat.le_of_ble_eq_true rfl) rfl ?_
  intro p e s m args below meth c cx htab
  unfold fL_wall
  refine r_aload_n (pc := 0) cx dL_wall_0 rfl ?_
  refine r_iload_n (pc := 1) cx dL_wall_1 rfl ?_
  refine r_iload_n (pc := 2) cx dL_wall_2 rfl ?_
  refine r_xv (pc := 3) cx (tX5_wall hB hl p1 p2 σ) qm_X5_wall qv_X5_wall hcl_X5 (lw0 hB) wm_L_9 dL_wall_3 rfl rfl (Nat.le_of_ble_eq_true rfl) ⟨Nat.le_of_ble_eq_true rfl, Nat.le_of_ble_eq_true rfl⟩ ⟨Nat.le_of_ble_eq_true rfl, Nat.le_of_ble_eq_true rfl⟩ (fun r σ1 => ?_) (fun v r σ1 E hE => ?_)
  · refine qS.eqF (if_pos rfl) ?_
    refine r_lconst (pc := 6) (z := 0) cx dL_wall_6 (by decide +kernel) ?_
    exact r_lreturn (pc := 7) (w0 := w) (mc := 1) (ms := 6) (fun _ _ h => h) (Nat.le_of_ble_eq_true rfl) (Nat.le_of_ble_eq_true rfl) cx dL_wall_7 rfl
  · rcases qEn_cases hE with ⟨rfl, rfl⟩ | ⟨rfl, rfl⟩ | ⟨rfl, rfl⟩
    · refine Or.inr ⟨8, ⟨[], ⟨0, 7, 8, 15⟩, [⟨0, 7, 13, 19⟩], qE1, htab, (fun z hz => absurd hz List.not_mem_nil), by decide, by decide, wc_L_15, qcast_qE1, rfl⟩, fun q => ?_⟩
      refine qS.eqF (show _ = some ((-9000000000000000001), σ1) from rfl) ?_
      refine r_astore_n (pc := 8) cx dL_wall_8 (by decide) rfl ?_
      refine r_ldc2 (pc := 9) (v := (-9000000000000000001)) cx dL_wall_9 wq_L_17 ?_
      exact r_lreturn (pc := 12) (w0 := w) (mc := 1) (ms := 6) (fun _ _ h => h) (Nat.le_of_ble_eq_true rfl) (Nat.le_of_ble_eq_true rfl) cx dL_wall_12 rfl
    · exact Or.inl rfl
    · refine Or.inr ⟨13, ⟨[(⟨0, 7, 8, 15⟩ : ExceptionTableEntry)], ⟨0, 7, 13, 19⟩, [], qE3, htab, (fun z hz => by rw [List.mem_singleton.mp hz]; exact Or.inr ⟨(by decide), _, wc_L_15, (qNc12 cx.2.2.2.2.1).2.2.2.2.1⟩), by decide, by decide, wc_L_19, qcast_qE3, rfl⟩, fun q => ?_⟩
      refine qS.eqF (show _ = some ((-9000000000000000003), σ1) from rfl) ?_
      refine r_astore_n (pc := 13) cx dL_wall_13 (by decide) rfl ?_
      refine r_ldc2 (pc := 14) (v := (-9000000000000000003)) cx dL_wall_14 wq_L_21 ?_
      exact r_lreturn (pc := 17) (w0 := w) (mc := 1) (ms := 6) (fun _ _ h => h) (Nat.le_of_ble_eq_true rfl) (Nat.le_of_ble_eq_true rfl) cx dL_wall_17 rfl
def fL_clear (p1 : Int) (σ : qSt) : Option (Int × qSt) :=
  qbx (fX5_clear p1 σ) fun (e : Int) (r : Int) (σ1 : qSt) => if e = 0 then some (qi2l r, σ1) else if e = 1 then some ((-9000000000000000001), σ1) else if e = 2 then none else if e = 3 then none else none
set_option maxRecDepth 100000 in
set_option maxHeartbeats 4000000 in
theorem tL_clear {l : Launch} {z0 : Nat} {g : qG} {w : qWd} {ad : Nat → Nat} (hB : qBC g ad w) (h66 : w 66 = none) (h67 : w 67 = none) (h68 : w 68 = none) (hl : l.stackTraces = false) (p1 : Int) (σ : qSt) : qCTH l yL_clear cL_clear 3 (some .long) [(0, 6, 7, 15)] (qrk 2 1 6) g z0 w [.ref (ad 0), .int (qI p1)] σ (fL_clear p1 σ) qrj := by
  refine qCTH.of [(0, some (.ref (ad 0))), (1, some (.int (qI p1)))] (by decide +kernel) (Nat.le_of_ble_eq_true rfl) rfl ?_
  intro p e s m args below meth c cx htab
  unfold fL_clear
  refine r_aload_n (pc := 0) cx dL_clear_0 rfl ?_
  refine r_iload_n (pc := 1) cx dL_clear_1 rfl ?_
  refine r_xi (pc := 2) cx (tX5_clear hB hl p1 σ) qm_X5_clear qv_X5_clear hcl_X5 (lw0 hB) wm_L_23 dL_clear_2 rfl rfl (Nat.le_of_ble_eq_true rfl) ⟨Nat.le_of_ble_eq_true rfl, Nat.le_of_ble_eq_true rfl⟩ ⟨Nat.le_of_ble_eq_true rfl, Nat.le_of_ble_eq_true rfl⟩ (fun r σ1 => ?_) (fun v r σ1 E hE => ?_)
  · refine qS.eqF (if_pos rfl) ?_
    refine r_i2l (pc := 5) cx dL_clear_5 ?_
    exact r_lreturn (pc := 6) (w0 := w) (mc := 1) (ms := 6) (fun _ _ h => h) (Nat.le_of_ble_eq_true rfl) (Nat.le_of_ble_eq_true rfl) cx dL_clear_6 rfl
  · rcases qEn_cases hE with ⟨rfl, rfl⟩ | ⟨rfl, rfl⟩ | ⟨rfl, rfl⟩
    · refine Or.inr ⟨7, ⟨[], ⟨0, 6, 7, 15⟩, [], qE1, htab, (fun z hz => absurd hz List.not_mem_nil), by decide, by decide, wc_L_15, qcast_qE1, rfl⟩, fun q => ?_⟩
      refine qS.eqF (show _ = some ((-9000000000000000001), σ1) from rfl) ?_
      refine r_astore_n (pc := 7) cx dL_clear_7 (by decide) rfl ?_
      refine r_ldc2 (pc := 8) (v := (-9000000000000000001)) cx dL_clear_8 wq_L_17 ?_
      exact r_lreturn (pc := 11) (w0 := w) (mc := 1) (ms := 6) (fun _ _ h => h) (Nat.le_of_ble_eq_true rfl) (Nat.le_of_ble_eq_true rfl) cx dL_clear_11 rfl
    · exact Or.inl rfl
    · exact Or.inl rfl
def fL_open (p1 p2 : Int) (σ : qSt) : Option (Int × qSt) :=
  qbx (fX5_open p1 p2 σ) fun (e : Int) (r : Int) (σ1 : qSt) => if e = 0 then some (0, σ1) else if e = 1 then some ((-9000000000000000001), σ1) else if e = 2 then some ((-9000000000000000002), σ1) else if e = 3 then some ((-9000000000000000003), σ1) else none
set_option maxRecDepth 100000 in
set_option maxHeartbeats 4000000 in
theorem tL_open {l : Launch} {z0 : Nat} {g : qG} {w : qWd} {ad : Nat → Nat} (hB : qBC g ad w) (h66 : w 66 = none) (h67 : w 67 = none) (h68 : w 68 = none) (hl : l.stackTraces = false) (p1 p2 : Int) (σ : qSt) : qCTH l yL_open cL_open 4 (some .long) [(0, 7, 8, 15), (0, 7, 13, 30), (0, 7, 18, 19)] (qrk 2 1 6) g z0 w [.ref (ad 0), .int (qI p1), .int (qI p2)] σ (fL_open p1 p2 σ) qrj := by
  refine qCTH.of [(0, some (.ref (ad 0))), (1, some (.int (qI p1))), (2, some (.int (qI p2)))] (by decide +kernel) (Nat.le_of_ble_eq_true rfl) rfl ?_
  intro p e s m args below meth c cx htab
  unfold fL_open
  refine r_aload_n (pc := 0) cx dL_open_0 rfl ?_
  refine r_iload_n (pc := 1) cx dL_open_1 rfl ?_
  refine r_iload_n (pc := 2) cx dL_open_2 rfl ?_
  refine r_xv (pc := 3) cx (tX5_open hB hl p1 p2 σ) qm_X5_open qv_X5_open hcl_X5 (lw0 hB) wm_L_27 dL_open_3 rfl rfl (Nat.le_of_ble_eq_true rfl) ⟨Nat.le_of_ble_eq_true rfl, Nat.le_of_ble_eq_true rfl⟩ ⟨Nat.le_of_ble_eq_true rfl, Nat.le_of_ble_eq_true rfl⟩ (fun r σ1 => ?_) (fun v r σ1 E hE => ?_)
  · refine qS.eqF (if_pos rfl) ?_
    refine r_lconst (pc := 6) (z := 0) cx dL_open_6 (by decide +kernel) ?_
    exact r_lreturn (pc := 7) (w0 := w) (mc := 1) (ms := 6) (fun _ _ h => h) (Nat.le_of_ble_eq_true rfl) (Nat.le_of_ble_eq_true rfl) cx dL_open_7 rfl
  · rcases qEn_cases hE with ⟨rfl, rfl⟩ | ⟨rfl, rfl⟩ | ⟨rfl, rfl⟩
    · refine Or.inr ⟨8, ⟨[], ⟨0, 7, 8, 15⟩, [⟨0, 7, 13, 30⟩, ⟨0, 7, 18, 19⟩], qE1, htab, (fun z hz => absurd hz List.not_mem_nil), by decide, by decide, wc_L_15, qcast_qE1, rfl⟩, fun q => ?_⟩
      refine qS.eqF (show _ = some ((-9000000000000000001), σ1) from rfl) ?_
      refine r_astore_n (pc := 8) cx dL_open_8 (by decide) rfl ?_
      refine r_ldc2 (pc := 9) (v := (-9000000000000000001)) cx dL_open_9 wq_L_17 ?_
      exact r_lreturn (pc := 12) (w0 := w) (mc := 1) (ms := 6) (fun _ _ h => h) (Nat.le_of_ble_eq_true rfl) (Nat.le_of_ble_eq_true rfl) cx dL_open_12 rfl
    · refine Or.inr ⟨13, ⟨[(⟨0, 7, 8, 15⟩ : ExceptionTableEntry)], ⟨0, 7, 13, 30⟩, [⟨0, 7, 18, 19⟩], qE2, htab, (fun z hz => by rw [List.mem_singleton.mp hz]; exact Or.inr ⟨(by decide), _, wc_L_15, (qNc12 cx.2.2.2.2.1).2.2.1⟩), by decide, by decide, wc_L_30, qcast_qE2, rfl⟩, fun q => ?_⟩
      refine qS.eqF (show _ = some ((-9000000000000000002), σ1) from rfl) ?_
      refine r_astore_n (pc := 13) cx dL_open_13 (by decide) rfl ?_
      refine r_ldc2 (pc := 14) (v := (-9000000000000000002)) cx dL_open_14 wq_L_32 ?_
      exact r_lreturn (pc := 17) (w0 := w) (mc := 1) (ms := 6) (fun _ _ h => h) (Nat.le_of_ble_eq_true rfl) (Nat.le_of_ble_eq_true rfl) cx dL_open_17 rfl
    · refine Or.inr ⟨18, ⟨[(⟨0, 7, 8, 15⟩ : ExceptionTableEntry), (⟨0, 7, 13, 30⟩ : ExceptionTableEntry)], ⟨0, 7, 18, 19⟩, [], qE3, htab, (qall2 (Or.inr ⟨(by decide), _, wc_L_15, (qNc12 cx.2.2.2.2.1).2.2.2.2.1⟩) (Or.inr ⟨(by decide), _, wc_L_30, (qNc12 cx.2.2.2.2.1).2.2.2.2.2⟩)), by decide, by decide, wc_L_19, qcast_qE3, rfl⟩, fun q => ?_⟩
      refine qS.eqF (show _ = some ((-9000000000000000003), σ1) from rfl) ?_
      refine r_astore_n (pc := 18) cx dL_open_18 (by decide) rfl ?_
      refine r_ldc2 (pc := 19) (v := (-9000000000000000003)) cx dL_open_19 wq_L_21 ?_
      exact r_lreturn (pc := 22) (w0 := w) (mc := 1) (ms := 6) (fun _ _ h => h) (Nat.le_of_ble_eq_true rfl) (Nat.le_of_ble_eq_true rfl) cx dL_open_22 rfl
def fL_particle (p1 p2 : Int) (σ : qSt) : Option (Int × qSt) :=
  qbx (fX5_particle p1 p2 σ) fun (e : Int) (r : Int) (σ1 : qSt) => if e = 0 then some (qi2l r, σ1) else if e = 1 then some ((-9000000000000000001), σ1) else if e = 2 then some ((-9000000000000000002), σ1) else if e = 3 then some ((-9000000000000000003), σ1) else none
set_option maxRecDepth 100000 in
set_option maxHeartbeats 4000000 in
theorem tL_particle {l : Launch} {z0 : Nat} {g : qG} {w : qWd} {ad : Nat → Nat} (hB : qBC g ad w) (h66 : w 66 = none) (h67 : w 67 = none) (h68 : w 68 = none) (hl : l.stackTraces = false) (p1 p2 : Int) (σ : qSt) : qCTH l yL_particle cL_particle 4 (some .long) [(0, 7, 8, 15), (0, 7, 13, 30), (0, 7, 18, 19)] (qrk 2 1 6) g z0 w [.ref (ad 0), .int (qI p1), .int (qI p2)] σ (fL_particle p1 p2 σ) qrj := by
  refine qCTH.of [(0, some (.ref (ad 0))), (1, some (.int (qI p1))), (2, some (.int (qI p2)))] (by decide +kernel) (Nat.le_of_ble_eq_true rfl) rfl ?_
  intro p e s m args below meth c cx htab
  unfold fL_particle
  refine r_aload_n (pc := 0) cx dL_particle_0 rfl ?_
  refine r_iload_n (pc := 1) cx dL_particle_1 rfl ?_
  refine r_iload_n (pc := 2) cx dL_particle_2 rfl ?_
  refine r_xi (pc := 3) cx (tX5_particle hB hl p1 p2 σ) qm_X5_particle qv_X5_particle hcl_X5 (lw0 hB) wm_L_34 dL_particle_3 rfl rfl (Nat.le_of_ble_eq_true rfl) ⟨Nat.le_of_ble_eq_true rfl, Nat.le_of_ble_eq_true rfl⟩ ⟨Nat.le_of_ble_eq_true rfl, Nat.le_of_ble_eq_true rfl⟩ (fun r σ1 => ?_) (fun v r σ1 E hE => ?_)
  · refine qS.eqF (if_pos rfl) ?_
    refine r_i2l (pc := 6) cx dL_particle_6 ?_
    exact r_lreturn (pc := 7) (w0 := w) (mc := 1) (ms := 6) (fun _ _ h => h) (Nat.le_of_ble_eq_true rfl) (Nat.le_of_ble_eq_true rfl) cx dL_particle_7 rfl
  · rcases qEn_cases hE with ⟨rfl, rfl⟩ | ⟨rfl, rfl⟩ | ⟨rfl, rfl⟩
    · refine Or.inr ⟨8, ⟨[], ⟨0, 7, 8, 15⟩, [⟨0, 7, 13, 30⟩, ⟨0, 7, 18, 19⟩], qE1, htab, (fun z hz => absurd hz List.not_mem_nil), by decide, by decide, wc_L_15, qcast_qE1, rfl⟩, fun q => ?_⟩
      refine qS.eqF (show _ = some ((-9000000000000000001), σ1) from rfl) ?_
      refine r_astore_n (pc := 8) cx dL_particle_8 (by decide) rfl ?_
      refine r_ldc2 (pc := 9) (v := (-9000000000000000001)) cx dL_particle_9 wq_L_17 ?_
      exact r_lreturn (pc := 12) (w0 := w) (mc := 1) (ms := 6) (fun _ _ h => h) (Nat.le_of_ble_eq_true rfl) (Nat.le_of_ble_eq_true rfl) cx dL_particle_12 rfl
    · refine Or.inr ⟨13, ⟨[(⟨0, 7, 8, 15⟩ : ExceptionTableEntry)], ⟨0, 7, 13, 30⟩, [⟨0, 7, 18, 19⟩], qE2, htab, (fun z hz => by rw [List.mem_singleton.mp hz]; exact Or.inr ⟨(by decide), _, wc_L_15, (qNc12 cx.2.2.2.2.1).2.2.1⟩), by decide, by decide, wc_L_30, qcast_qE2, rfl⟩, fun q => ?_⟩
      refine qS.eqF (show _ = some ((-9000000000000000002), σ1) from rfl) ?_
      refine r_astore_n (pc := 13) cx dL_particle_13 (by decide) rfl ?_
      refine r_ldc2 (pc := 14) (v := (-9000000000000000002)) cx dL_particle_14 wq_L_32 ?_
      exact r_lreturn (pc := 17) (w0 := w) (mc := 1) (ms := 6) (fun _ _ h => h) (Nat.le_of_ble_eq_true rfl) (Nat.le_of_ble_eq_true rfl) cx dL_particle_17 rfl
    · refine Or.inr ⟨18, ⟨[(⟨0, 7, 8, 15⟩ : ExceptionTableEntry), (⟨0, 7, 13, 30⟩ : ExceptionTableEntry)], ⟨0, 7, 18, 19⟩, [], qE3, htab, (qall2 (Or.inr ⟨(by decide), _, wc_L_15, (qNc12 cx.2.2.2.2.1).2.2.2.2.1⟩) (Or.inr ⟨(by decide), _, wc_L_30, (qNc12 cx.2.2.2.2.1).2.2.2.2.2⟩)), by decide, by decide, wc_L_19, qcast_qE3, rfl⟩, fun q => ?_⟩
      refine qS.eqF (show _ = some ((-9000000000000000003), σ1) from rfl) ?_
      refine r_astore_n (pc := 18) cx dL_particle_18 (by decide) rfl ?_
      refine r_ldc2 (pc := 19) (v := (-9000000000000000003)) cx dL_particle_19 wq_L_21 ?_
      exact r_lreturn (pc := 22) (w0 := w) (mc := 1) (ms := 6) (fun _ _ h => h) (Nat.le_of_ble_eq_true rfl) (Nat.le_of_ble_eq_true rfl) cx dL_particle_22 rfl
def fL_ink (p1 : Int) (σ : qSt) : Option (Int × qSt) :=
  qbx (fX5_ink p1 σ) fun (e : Int) (r : Int) (σ1 : qSt) => if e = 0 then some (qi2l r, σ1) else if e = 1 then some ((-9000000000000000001), σ1) else if e = 2 then none else if e = 3 then none else none
set_option maxRecDepth 100000 in
set_option maxHeartbeats 4000000 in
theorem tL_ink {l : Launch} {z0 : Nat} {g : qG} {w : qWd} {ad : Nat → Nat} (hB : qBC g ad w) (h66 : w 66 = none) (h67 : w 67 = none) (h68 : w 68 = none) (hl : l.stackTraces = false) (p1 : Int) (σ : qSt) : qCTH l yL_ink cL_ink 3 (some .long) [(0, 6, 7, 15)] (qrk 2 1 6) g z0 w [.ref (ad 0), .int (qI p1)] σ (fL_ink p1 σ) qrj := by
  refine qCTH.of [(0, some (.ref (ad 0))), (1, some (.int (qI p1)))] (by decide +kernel) (Nat.le_of_ble_eq_true rfl) rfl ?_
  intro p e s m args below meth c cx htab
  unfold fL_ink
  refine r_aload_n (pc := 0) cx dL_ink_0 rfl ?_
  refine r_iload_n (pc := 1) cx dL_ink_1 rfl ?_
  refine r_xi (pc := 2) cx (tX5_ink hB hl p1 σ) qm_X5_ink qv_X5_ink hcl_X5 (lw0 hB) wm_L_38 dL_ink_2 rfl rfl (Nat.le_of_ble_eq_true rfl) ⟨Nat.le_of_ble_eq_true rfl, Nat.le_of_ble_eq_true rfl⟩ ⟨Nat.le_of_ble_eq_true rfl, Nat.le_of_ble_eq_true rfl⟩ (fun r σ1 => ?_) (fun v r σ1 E hE => ?_)
  · refine qS.eqF (if_pos rfl) ?_
    refine r_i2l (pc := 5) cx dL_ink_5 ?_
    exact r_lreturn (pc := 6) (w0 := w) (mc := 1) (ms := 6) (fun _ _ h => h) (Nat.le_of_ble_eq_true rfl) (Nat.le_of_ble_eq_true rfl) cx dL_ink_6 rfl
  · rcases qEn_cases hE with ⟨rfl, rfl⟩ | ⟨rfl, rfl⟩ | ⟨rfl, rfl⟩
    · refine Or.inr ⟨7, ⟨[], ⟨0, 6, 7, 15⟩, [], qE1, htab, (fun z hz => absurd hz List.not_mem_nil), by decide, by decide, wc_L_15, qcast_qE1, rfl⟩, fun q => ?_⟩
      refine qS.eqF (show _ = some ((-9000000000000000001), σ1) from rfl) ?_
      refine r_astore_n (pc := 7) cx dL_ink_7 (by decide) rfl ?_
      refine r_ldc2 (pc := 8) (v := (-9000000000000000001)) cx dL_ink_8 wq_L_17 ?_
      exact r_lreturn (pc := 11) (w0 := w) (mc := 1) (ms := 6) (fun _ _ h => h) (Nat.le_of_ble_eq_true rfl) (Nat.le_of_ble_eq_true rfl) cx dL_ink_11 rfl
    · exact Or.inl rfl
    · exact Or.inl rfl
def fL_probe (p1 : Int) (σ : qSt) : Option (Int × qSt) :=
  qbx (fX5_probe p1 σ) fun (e : Int) (r : Int) (σ1 : qSt) => if e = 0 then some (qi2l r, σ1) else if e = 1 then some ((-9000000000000000001), σ1) else if e = 2 then none else if e = 3 then some ((-9000000000000000003), σ1) else none
set_option maxRecDepth 100000 in
set_option maxHeartbeats 4000000 in
theorem tL_probe {l : Launch} {z0 : Nat} {g : qG} {w : qWd} {ad : Nat → Nat} (hB : qBC g ad w) (h66 : w 66 = none) (h67 : w 67 = none) (h68 : w 68 = none) (hl : l.stackTraces = false) (p1 : Int) (σ : qSt) : qCTH l yL_probe cL_probe 3 (some .long) [(0, 6, 7, 15), (0, 6, 12, 19)] (qrk 2 1 6) g z0 w [.ref (ad 0), .int (qI p1)] σ (fL_probe p1 σ) qrj := by
  refine qCTH.of [(0, some (.ref (ad 0))), (1, some (.int (qI p1)))] (by decide +kernel) (Nat.le_of_ble_eq_true rfl) rfl ?_
  intro p e s m args below meth c cx htab
  unfold fL_probe
  refine r_aload_n (pc := 0) cx dL_probe_0 rfl ?_
  refine r_iload_n (pc := 1) cx dL_probe_1 rfl ?_
  refine r_xi (pc := 2) cx (tX5_probe hB hl p1 σ) qm_X5_probe qv_X5_probe hcl_X5 (lw0 hB) wm_L_41 dL_probe_2 rfl rfl (Nat.le_of_ble_eq_true rfl) ⟨Nat.le_of_ble_eq_true rfl, Nat.le_of_ble_eq_true rfl⟩ ⟨Nat.le_of_ble_eq_true rfl, Nat.le_of_ble_eq_true rfl⟩ (fun r σ1 => ?_) (fun v r σ1 E hE => ?_)
  · refine qS.eqF (if_pos rfl) ?_
    refine r_i2l (pc := 5) cx dL_probe_5 ?_
    exact r_lreturn (pc := 6) (w0 := w) (mc := 1) (ms := 6) (fun _ _ h => h) (Nat.le_of_ble_eq_true rfl) (Nat.le_of_ble_eq_true rfl) cx dL_probe_6 rfl
  · rcases qEn_cases hE with ⟨rfl, rfl⟩ | ⟨rfl, rfl⟩ | ⟨rfl, rfl⟩
    · refine Or.inr ⟨7, ⟨[], ⟨0, 6, 7, 15⟩, [⟨0, 6, 12, 19⟩], qE1, htab, (fun z hz => absurd hz List.not_mem_nil), by decide, by decide, wc_L_15, qcast_qE1, rfl⟩, fun q => ?_⟩
      refine qS.eqF (show _ = some ((-9000000000000000001), σ1) from rfl) ?_
      refine r_astore_n (pc := 7) cx dL_probe_7 (by decide) rfl ?_
      refine r_ldc2 (pc := 8) (v := (-9000000000000000001)) cx dL_probe_8 wq_L_17 ?_
      exact r_lreturn (pc := 11) (w0 := w) (mc := 1) (ms := 6) (fun _ _ h => h) (Nat.le_of_ble_eq_true rfl) (Nat.le_of_ble_eq_true rfl) cx dL_probe_11 rfl
    · exact Or.inl rfl
    · refine Or.inr ⟨12, ⟨[(⟨0, 6, 7, 15⟩ : ExceptionTableEntry)], ⟨0, 6, 12, 19⟩, [], qE3, htab, (fun z hz => by rw [List.mem_singleton.mp hz]; exact Or.inr ⟨(by decide), _, wc_L_15, (qNc12 cx.2.2.2.2.1).2.2.2.2.1⟩), by decide, by decide, wc_L_19, qcast_qE3, rfl⟩, fun q => ?_⟩
      refine qS.eqF (show _ = some ((-9000000000000000003), σ1) from rfl) ?_
      refine r_astore_n (pc := 12) cx dL_probe_12 (by decide) rfl ?_
      refine r_ldc2 (pc := 13) (v := (-9000000000000000003)) cx dL_probe_13 wq_L_21 ?_
      exact r_lreturn (pc := 16) (w0 := w) (mc := 1) (ms := 6) (fun _ _ h => h) (Nat.le_of_ble_eq_true rfl) (Nat.le_of_ble_eq_true rfl) cx dL_probe_16 rfl
def fL_fault (p1 p2 : Int) (σ : qSt) : Option (Int × qSt) :=
  qbx (fX5_fault p1 p2 σ) fun (e : Int) (r : Int) (σ1 : qSt) => if e = 0 then some (qi2l r, σ1) else if e = 1 then some ((-9000000000000000001), σ1) else if e = 2 then some ((-9000000000000000002), σ1) else if e = 3 then none else none
set_option maxRecDepth 100000 in
set_option maxHeartbeats 4000000 in
theorem tL_fault {l : Launch} {z0 : Nat} {g : qG} {w : qWd} {ad : Nat → Nat} (hB : qBC g ad w) (h66 : w 66 = none) (h67 : w 67 = none) (h68 : w 68 = none) (hl : l.stackTraces = false) (p1 p2 : Int) (σ : qSt) : qCTH l yL_fault cL_fault 4 (some .long) [(0, 7, 8, 15), (0, 7, 13, 30)] (qrk 2 1 6) g z0 w [.ref (ad 0), .int (qI p1), .int (qI p2)] σ (fL_fault p1 p2 σ) qrj := by
  refine qCTH.of [(0, some (.ref (ad 0))), (1, some (.int (qI p1))), (2, some (.int (qI p2)))] (by decide +kernel) (Nat.le_of_ble_eq_true rfl) rfl ?_
  intro p e s m args below meth c cx htab
  unfold fL_fault
  refine r_aload_n (pc := 0) cx dL_fault_0 rfl ?_
  refine r_iload_n (pc := 1) cx dL_fault_1 rfl ?_
  refine r_iload_n (pc := 2) cx dL_fault_2 rfl ?_
  refine r_xi (pc := 3) cx (tX5_fault hB hl p1 p2 σ) qm_X5_fault qv_X5_fault hcl_X5 (lw0 hB) wm_L_44 dL_fault_3 rfl rfl (Nat.le_of_ble_eq_true rfl) ⟨Nat.le_of_ble_eq_true rfl, Nat.le_of_ble_eq_true rfl⟩ ⟨Nat.le_of_ble_eq_true rfl, Nat.le_of_ble_eq_true rfl⟩ (fun r σ1 => ?_) (fun v r σ1 E hE => ?_)
  · refine qS.eqF (if_pos rfl) ?_
    refine r_i2l (pc := 6) cx dL_fault_6 ?_
    exact r_lreturn (pc := 7) (w0 := w) (mc := 1) (ms := 6) (fun _ _ h => h) (Nat.le_of_ble_eq_true rfl) (Nat.le_of_ble_eq_true rfl) cx dL_fault_7 rfl
  · rcases qEn_cases hE with ⟨rfl, rfl⟩ | ⟨rfl, rfl⟩ | ⟨rfl, rfl⟩
    · refine Or.inr ⟨8, ⟨[], ⟨0, 7, 8, 15⟩, [⟨0, 7, 13, 30⟩], qE1, htab, (fun z hz => absurd hz List.not_mem_nil), by decide, by decide, wc_L_15, qcast_qE1, rfl⟩, fun q => ?_⟩
      refine qS.eqF (show _ = some ((-9000000000000000001), σ1) from rfl) ?_
      refine r_astore_n (pc := 8) cx dL_fault_8 (by decide) rfl ?_
      refine r_ldc2 (pc := 9) (v := (-9000000000000000001)) cx dL_fault_9 wq_L_17 ?_
      exact r_lreturn (pc := 12) (w0 := w) (mc := 1) (ms := 6) (fun _ _ h => h) (Nat.le_of_ble_eq_true rfl) (Nat.le_of_ble_eq_true rfl) cx dL_fault_12 rfl
    · refine Or.inr ⟨13, ⟨[(⟨0, 7, 8, 15⟩ : ExceptionTableEntry)], ⟨0, 7, 13, 30⟩, [], qE2, htab, (fun z hz => by rw [List.mem_singleton.mp hz]; exact Or.inr ⟨(by decide), _, wc_L_15, (qNc12 cx.2.2.2.2.1).2.2.1⟩), by decide, by decide, wc_L_30, qcast_qE2, rfl⟩, fun q => ?_⟩
      refine qS.eqF (show _ = some ((-9000000000000000002), σ1) from rfl) ?_
      refine r_astore_n (pc := 13) cx dL_fault_13 (by decide) rfl ?_
      refine r_ldc2 (pc := 14) (v := (-9000000000000000002)) cx dL_fault_14 wq_L_32 ?_
      exact r_lreturn (pc := 17) (w0 := w) (mc := 1) (ms := 6) (fun _ _ h => h) (Nat.le_of_ble_eq_true rfl) (Nat.le_of_ble_eq_true rfl) cx dL_fault_17 rfl
    · exact Or.inl rfl
def fL_bring (p1 p2 p3 : Int) (σ : qSt) : Option (Int × qSt) :=
  qbx (fX5_bring p1 p2 p3 σ) fun (e : Int) (r : Int) (σ1 : qSt) => if e = 0 then some (qi2l r, σ1) else if e = 1 then some ((-9000000000000000001), σ1) else if e = 2 then some ((-9000000000000000002), σ1) else if e = 3 then some ((-9000000000000000003), σ1) else none
set_option maxRecDepth 100000 in
set_option maxHeartbeats 4000000 in
theorem tL_bring {l : Launch} {z0 : Nat} {g : qG} {w : qWd} {ad : Nat → Nat} (hB : qBC g ad w) (h66 : w 66 = none) (h67 : w 67 = none) (h68 : w 68 = none) (hl : l.stackTraces = false) (p1 p2 p3 : Int) (σ : qSt) : qCTH l yL_bring cL_bring 5 (some .long) [(0, 8, 9, 15), (0, 8, 15, 30), (0, 8, 21, 19)] (qrk 2 1 6) g z0 w [.ref (ad 0), .int (qI p1), .int (qI p2), .int (qI p3)] σ (fL_bring p1 p2 p3 σ) qrj := by
  refine qCTH.of [(0, some (.ref (ad 0))), (1, some (.int (qI p1))), (2, some (.int (qI p2))), (3, some (.int (qI p3)))] (by decide +kernel) (Nat.le_of_ble_eq_true rfl) rfl ?_
  intro p e s m args below meth c cx htab
  unfold fL_bring
  refine r_aload_n (pc := 0) cx dL_bring_0 rfl ?_
  refine r_iload_n (pc := 1) cx dL_bring_1 rfl ?_
  refine r_iload_n (pc := 2) cx dL_bring_2 rfl ?_
  refine r_iload_n (pc := 3) cx dL_bring_3 rfl ?_
  refine r_xi (pc := 4) cx (tX5_bring hB hl p1 p2 p3 σ) qm_X5_bring qv_X5_bring hcl_X5 (lw0 hB) wm_L_47 dL_bring_4 rfl rfl (Nat.le_of_ble_eq_true rfl) ⟨Nat.le_of_ble_eq_true rfl, Nat.le_of_ble_eq_true rfl⟩ ⟨Nat.le_of_ble_eq_true rfl, Nat.le_of_ble_eq_true rfl⟩ (fun r σ1 => ?_) (fun v r σ1 E hE => ?_)
  · refine qS.eqF (if_pos rfl) ?_
    refine r_i2l (pc := 7) cx dL_bring_7 ?_
    exact r_lreturn (pc := 8) (w0 := w) (mc := 1) (ms := 6) (fun _ _ h => h) (Nat.le_of_ble_eq_true rfl) (Nat.le_of_ble_eq_true rfl) cx dL_bring_8 rfl
  · rcases qEn_cases hE with ⟨rfl, rfl⟩ | ⟨rfl, rfl⟩ | ⟨rfl, rfl⟩
    · refine Or.inr ⟨9, ⟨[], ⟨0, 8, 9, 15⟩, [⟨0, 8, 15, 30⟩, ⟨0, 8, 21, 19⟩], qE1, htab, (fun z hz => absurd hz List.not_mem_nil), by decide, by decide, wc_L_15, qcast_qE1, rfl⟩, fun q => ?_⟩
      refine qS.eqF (show _ = some ((-9000000000000000001), σ1) from rfl) ?_
      refine r_astore (pc := 9) cx dL_bring_9 (by decide) rfl ?_
      refine r_ldc2 (pc := 11) (v := (-9000000000000000001)) cx dL_bring_11 wq_L_17 ?_
      exact r_lreturn (pc := 14) (w0 := w) (mc := 1) (ms := 6) (fun _ _ h => h) (Nat.le_of_ble_eq_true rfl) (Nat.le_of_ble_eq_true rfl) cx dL_bring_14 rfl
    · refine Or.inr ⟨15, ⟨[(⟨0, 8, 9, 15⟩ : ExceptionTableEntry)], ⟨0, 8, 15, 30⟩, [⟨0, 8, 21, 19⟩], qE2, htab, (fun z hz => by rw [List.mem_singleton.mp hz]; exact Or.inr ⟨(by decide), _, wc_L_15, (qNc12 cx.2.2.2.2.1).2.2.1⟩), by decide, by decide, wc_L_30, qcast_qE2, rfl⟩, fun q => ?_⟩
      refine qS.eqF (show _ = some ((-9000000000000000002), σ1) from rfl) ?_
      refine r_astore (pc := 15) cx dL_bring_15 (by decide) rfl ?_
      refine r_ldc2 (pc := 17) (v := (-9000000000000000002)) cx dL_bring_17 wq_L_32 ?_
      exact r_lreturn (pc := 20) (w0 := w) (mc := 1) (ms := 6) (fun _ _ h => h) (Nat.le_of_ble_eq_true rfl) (Nat.le_of_ble_eq_true rfl) cx dL_bring_20 rfl
    · refine Or.inr ⟨21, ⟨[(⟨0, 8, 9, 15⟩ : ExceptionTableEntry), (⟨0, 8, 15, 30⟩ : ExceptionTableEntry)], ⟨0, 8, 21, 19⟩, [], qE3, htab, (qall2 (Or.inr ⟨(by decide), _, wc_L_15, (qNc12 cx.2.2.2.2.1).2.2.2.2.1⟩) (Or.inr ⟨(by decide), _, wc_L_30, (qNc12 cx.2.2.2.2.1).2.2.2.2.2⟩)), by decide, by decide, wc_L_19, qcast_qE3, rfl⟩, fun q => ?_⟩
      refine qS.eqF (show _ = some ((-9000000000000000003), σ1) from rfl) ?_
      refine r_astore (pc := 21) cx dL_bring_21 (by decide) rfl ?_
      refine r_ldc2 (pc := 23) (v := (-9000000000000000003)) cx dL_bring_23 wq_L_21 ?_
      exact r_lreturn (pc := 26) (w0 := w) (mc := 1) (ms := 6) (fun _ _ h => h) (Nat.le_of_ble_eq_true rfl) (Nat.le_of_ble_eq_true rfl) cx dL_bring_26 rfl
def fL_step (p1 : Int) (σ : qSt) : Option (Int × qSt) :=
  qbx (fX5_step p1 σ) fun (e : Int) (r : Int) (σ1 : qSt) => if e = 0 then some (qi2l r, σ1) else if e = 1 then none else if e = 2 then some ((-9000000000000000002), σ1) else if e = 3 then some ((-9000000000000000003), σ1) else none
set_option maxRecDepth 100000 in
set_option maxHeartbeats 4000000 in
theorem tL_step {l : Launch} {z0 : Nat} {g : qG} {w : qWd} {ad : Nat → Nat} (hB : qBC g ad w) (h66 : w 66 = none) (h67 : w 67 = none) (h68 : w 68 = none) (hl : l.stackTraces = false) (p1 : Int) (σ : qSt) : qCTH l yL_step cL_step 3 (some .long) [(0, 6, 7, 30), (0, 6, 12, 19)] (qrk 6 1 6) g z0 w [.ref (ad 0), .int (qI p1)] σ (fL_step p1 σ) qrj := by
  refine qCTH.of [(0, some (.ref (ad 0))), (1, some (.int (qI p1)))] (by decide +kernel) (Nat.le_of_ble_eq_true rfl) rfl ?_
  intro p e s m args below meth c cx htab
  unfold fL_step
  refine r_aload_n (pc := 0) cx dL_step_0 rfl ?_
  refine r_iload_n (pc := 1) cx dL_step_1 rfl ?_
  refine r_xi (pc := 2) cx (tX5_step hB hl p1 σ) qm_X5_step qv_X5_step hcl_X5 (lw0 hB) wm_L_51 dL_step_2 rfl rfl (Nat.le_of_ble_eq_true rfl) ⟨Nat.le_of_ble_eq_true rfl, Nat.le_of_ble_eq_true rfl⟩ ⟨Nat.le_of_ble_eq_true rfl, Nat.le_of_ble_eq_true rfl⟩ (fun r σ1 => ?_) (fun v r σ1 E hE => ?_)
  · refine qS.eqF (if_pos rfl) ?_
    refine r_i2l (pc := 5) cx dL_step_5 ?_
    exact r_lreturn (pc := 6) (w0 := w) (mc := 1) (ms := 6) (fun _ _ h => h) (Nat.le_of_ble_eq_true rfl) (Nat.le_of_ble_eq_true rfl) cx dL_step_6 rfl
  · rcases qEn_cases hE with ⟨rfl, rfl⟩ | ⟨rfl, rfl⟩ | ⟨rfl, rfl⟩
    · exact Or.inl rfl
    · refine Or.inr ⟨7, ⟨[], ⟨0, 6, 7, 30⟩, [⟨0, 6, 12, 19⟩], qE2, htab, (fun z hz => absurd hz List.not_mem_nil), by decide, by decide, wc_L_30, qcast_qE2, rfl⟩, fun q => ?_⟩
      refine qS.eqF (show _ = some ((-9000000000000000002), σ1) from rfl) ?_
      refine r_astore_n (pc := 7) cx dL_step_7 (by decide) rfl ?_
      refine r_ldc2 (pc := 8) (v := (-9000000000000000002)) cx dL_step_8 wq_L_32 ?_
      exact r_lreturn (pc := 11) (w0 := w) (mc := 1) (ms := 6) (fun _ _ h => h) (Nat.le_of_ble_eq_true rfl) (Nat.le_of_ble_eq_true rfl) cx dL_step_11 rfl
    · refine Or.inr ⟨12, ⟨[(⟨0, 6, 7, 30⟩ : ExceptionTableEntry)], ⟨0, 6, 12, 19⟩, [], qE3, htab, (fun z hz => by rw [List.mem_singleton.mp hz]; exact Or.inr ⟨(by decide), _, wc_L_30, (qNc12 cx.2.2.2.2.1).2.2.2.2.2⟩), by decide, by decide, wc_L_19, qcast_qE3, rfl⟩, fun q => ?_⟩
      refine qS.eqF (show _ = some ((-9000000000000000003), σ1) from rfl) ?_
      refine r_astore_n (pc := 12) cx dL_step_12 (by decide) rfl ?_
      refine r_ldc2 (pc := 13) (v := (-9000000000000000003)) cx dL_step_13 wq_L_21 ?_
      exact r_lreturn (pc := 16) (w0 := w) (mc := 1) (ms := 6) (fun _ _ h => h) (Nat.le_of_ble_eq_true rfl) (Nat.le_of_ble_eq_true rfl) cx dL_step_16 rfl
def fL_back (p1 : Int) (σ : qSt) : Option (Int × qSt) :=
  qbx (fX5_back p1 σ) fun (e : Int) (r : Int) (σ1 : qSt) => if e = 0 then some (qi2l r, σ1) else if e = 1 then none else if e = 2 then some ((-9000000000000000002), σ1) else if e = 3 then some ((-9000000000000000003), σ1) else none
set_option maxRecDepth 100000 in
set_option maxHeartbeats 4000000 in
theorem tL_back {l : Launch} {z0 : Nat} {g : qG} {w : qWd} {ad : Nat → Nat} (hB : qBC g ad w) (h66 : w 66 = none) (h67 : w 67 = none) (h68 : w 68 = none) (hl : l.stackTraces = false) (p1 : Int) (σ : qSt) : qCTH l yL_back cL_back 3 (some .long) [(0, 6, 7, 30), (0, 6, 12, 19)] (qrk 6 1 6) g z0 w [.ref (ad 0), .int (qI p1)] σ (fL_back p1 σ) qrj := by
  refine qCTH.of [(0, some (.ref (ad 0))), (1, some (.int (qI p1)))] (by decide +kernel) (Nat.le_of_ble_eq_true rfl) rfl ?_
  intro p e s m args below meth c cx htab
  unfold fL_back
  refine r_aload_n (pc := 0) cx dL_back_0 rfl ?_
  refine r_iload_n (pc := 1) cx dL_back_1 rfl ?_
  refine r_xi (pc := 2) cx (tX5_back hB hl p1 σ) qm_X5_back qv_X5_back hcl_X5 (lw0 hB) wm_L_54 dL_back_2 rfl rfl (Nat.le_of_ble_eq_true rfl) ⟨Nat.le_of_ble_eq_true rfl, Nat.le_of_ble_eq_true rfl⟩ ⟨Nat.le_of_ble_eq_true rfl, Nat.le_of_ble_eq_true rfl⟩ (fun r σ1 => ?_) (fun v r σ1 E hE => ?_)
  · refine qS.eqF (if_pos rfl) ?_
    refine r_i2l (pc := 5) cx dL_back_5 ?_
    exact r_lreturn (pc := 6) (w0 := w) (mc := 1) (ms := 6) (fun _ _ h => h) (Nat.le_of_ble_eq_true rfl) (Nat.le_of_ble_eq_true rfl) cx dL_back_6 rfl
  · rcases qEn_cases hE with ⟨rfl, rfl⟩ | ⟨rfl, rfl⟩ | ⟨rfl, rfl⟩
    · exact Or.inl rfl
    · refine Or.inr ⟨7, ⟨[], ⟨0, 6, 7, 30⟩, [⟨0, 6, 12, 19⟩], qE2, htab, (fun z hz => absurd hz List.not_mem_nil), by decide, by decide, wc_L_30, qcast_qE2, rfl⟩, fun q => ?_⟩
      refine qS.eqF (show _ = some ((-9000000000000000002), σ1) from rfl) ?_
      refine r_astore_n (pc := 7) cx dL_back_7 (by decide) rfl ?_
      refine r_ldc2 (pc := 8) (v := (-9000000000000000002)) cx dL_back_8 wq_L_32 ?_
      exact r_lreturn (pc := 11) (w0 := w) (mc := 1) (ms := 6) (fun _ _ h => h) (Nat.le_of_ble_eq_true rfl) (Nat.le_of_ble_eq_true rfl) cx dL_back_11 rfl
    · refine Or.inr ⟨12, ⟨[(⟨0, 6, 7, 30⟩ : ExceptionTableEntry)], ⟨0, 6, 12, 19⟩, [], qE3, htab, (fun z hz => by rw [List.mem_singleton.mp hz]; exact Or.inr ⟨(by decide), _, wc_L_30, (qNc12 cx.2.2.2.2.1).2.2.2.2.2⟩), by decide, by decide, wc_L_19, qcast_qE3, rfl⟩, fun q => ?_⟩
      refine qS.eqF (show _ = some ((-9000000000000000003), σ1) from rfl) ?_
      refine r_astore_n (pc := 12) cx dL_back_12 (by decide) rfl ?_
      refine r_ldc2 (pc := 13) (v := (-9000000000000000003)) cx dL_back_13 wq_L_21 ?_
      exact r_lreturn (pc := 16) (w0 := w) (mc := 1) (ms := 6) (fun _ _ h => h) (Nat.le_of_ble_eq_true rfl) (Nat.le_of_ble_eq_true rfl) cx dL_back_16 rfl
def fL_flow (p1 : Int) (σ : qSt) : Option (Int × qSt) :=
  qbx (fX5_flow p1 σ) fun (e : Int) (r : Int) (σ1 : qSt) => if e = 0 then some (r, σ1) else if e = 1 then none else if e = 2 then some ((-9000000000000000002), σ1) else if e = 3 then none else none
set_option maxRecDepth 100000 in
set_option maxHeartbeats 4000000 in
theorem tL_flow {l : Launch} {z0 : Nat} {g : qG} {w : qWd} {ad : Nat → Nat} (hB : qBC g ad w) (h66 : w 66 = none) (h67 : w 67 = none) (h68 : w 68 = none) (hl : l.stackTraces = false) (p1 : Int) (σ : qSt) : qCTH l yL_flow cL_flow 3 (some .long) [(0, 5, 6, 30)] (qrk 5 1 6) g z0 w [.ref (ad 0), .int (qI p1)] σ (fL_flow p1 σ) qrj := by
  refine qCTH.of [(0, some (.ref (ad 0))), (1, some (.int (qI p1)))] (by decide +kernel) (Nat.le_of_ble_eq_true rfl) rfl ?_
  intro p e s m args below meth c cx htab
  unfold fL_flow
  refine r_aload_n (pc := 0) cx dL_flow_0 rfl ?_
  refine r_iload_n (pc := 1) cx dL_flow_1 rfl ?_
  refine r_xj (pc := 2) cx (tX5_flow hB hl p1 σ) qm_X5_flow qv_X5_flow hcl_X5 (lw0 hB) wm_L_57 dL_flow_2 rfl rfl (Nat.le_of_ble_eq_true rfl) ⟨Nat.le_of_ble_eq_true rfl, Nat.le_of_ble_eq_true rfl⟩ ⟨Nat.le_of_ble_eq_true rfl, Nat.le_of_ble_eq_true rfl⟩ (fun r σ1 => ?_) (fun v r σ1 E hE => ?_)
  · refine qS.eqF (if_pos rfl) ?_
    exact r_lreturn (pc := 5) (w0 := w) (mc := 1) (ms := 6) (fun _ _ h => h) (Nat.le_of_ble_eq_true rfl) (Nat.le_of_ble_eq_true rfl) cx dL_flow_5 rfl
  · rcases qEn_cases hE with ⟨rfl, rfl⟩ | ⟨rfl, rfl⟩ | ⟨rfl, rfl⟩
    · exact Or.inl rfl
    · refine Or.inr ⟨6, ⟨[], ⟨0, 5, 6, 30⟩, [], qE2, htab, (fun z hz => absurd hz List.not_mem_nil), by decide, by decide, wc_L_30, qcast_qE2, rfl⟩, fun q => ?_⟩
      refine qS.eqF (show _ = some ((-9000000000000000002), σ1) from rfl) ?_
      refine r_astore_n (pc := 6) cx dL_flow_6 (by decide) rfl ?_
      refine r_ldc2 (pc := 7) (v := (-9000000000000000002)) cx dL_flow_7 wq_L_32 ?_
      exact r_lreturn (pc := 10) (w0 := w) (mc := 1) (ms := 6) (fun _ _ h => h) (Nat.le_of_ble_eq_true rfl) (Nat.le_of_ble_eq_true rfl) cx dL_flow_10 rfl
    · exact Or.inl rfl
def fL_cellOf (p1 p2 : Int) (σ : qSt) : Option (Int × qSt) :=
  qbx (fX5_cellOf p1 p2 σ) fun (e : Int) (r : Int) (σ1 : qSt) => if e = 0 then some (qi2l r, σ1) else if e = 1 then some ((-9000000000000000001), σ1) else if e = 2 then some ((-9000000000000000002), σ1) else if e = 3 then none else none
set_option maxRecDepth 100000 in
set_option maxHeartbeats 4000000 in
theorem tL_cellOf {l : Launch} {z0 : Nat} {g : qG} {w : qWd} {ad : Nat → Nat} (hB : qBC g ad w) (h66 : w 66 = none) (h67 : w 67 = none) (h68 : w 68 = none) (hl : l.stackTraces = false) (p1 p2 : Int) (σ : qSt) : qCTH l yL_cellOf cL_cellOf 4 (some .long) [(0, 7, 8, 15), (0, 7, 13, 30)] (qrk 2 1 6) g z0 w [.ref (ad 0), .int (qI p1), .int (qI p2)] σ (fL_cellOf p1 p2 σ) qrj := by
  refine qCTH.of [(0, some (.ref (ad 0))), (1, some (.int (qI p1))), (2, some (.int (qI p2)))] (by decide +kernel) (Nat.le_of_ble_eq_true rfl) rfl ?_
  intro p e s m args below meth c cx htab
  unfold fL_cellOf
  refine r_aload_n (pc := 0) cx dL_cellOf_0 rfl ?_
  refine r_iload_n (pc := 1) cx dL_cellOf_1 rfl ?_
  refine r_iload_n (pc := 2) cx dL_cellOf_2 rfl ?_
  refine r_xi (pc := 3) cx (tX5_cellOf hB hl p1 p2 σ) qm_X5_cellOf qv_X5_cellOf hcl_X5 (lw0 hB) wm_L_61 dL_cellOf_3 rfl rfl (Nat.le_of_ble_eq_true rfl) ⟨Nat.le_of_ble_eq_true rfl, Nat.le_of_ble_eq_true rfl⟩ ⟨Nat.le_of_ble_eq_true rfl, Nat.le_of_ble_eq_true rfl⟩ (fun r σ1 => ?_) (fun v r σ1 E hE => ?_)
  · refine qS.eqF (if_pos rfl) ?_
    refine r_i2l (pc := 6) cx dL_cellOf_6 ?_
    exact r_lreturn (pc := 7) (w0 := w) (mc := 1) (ms := 6) (fun _ _ h => h) (Nat.le_of_ble_eq_true rfl) (Nat.le_of_ble_eq_true rfl) cx dL_cellOf_7 rfl
  · rcases qEn_cases hE with ⟨rfl, rfl⟩ | ⟨rfl, rfl⟩ | ⟨rfl, rfl⟩
    · refine Or.inr ⟨8, ⟨[], ⟨0, 7, 8, 15⟩, [⟨0, 7, 13, 30⟩], qE1, htab, (fun z hz => absurd hz List.not_mem_nil), by decide, by decide, wc_L_15, qcast_qE1, rfl⟩, fun q => ?_⟩
      refine qS.eqF (show _ = some ((-9000000000000000001), σ1) from rfl) ?_
      refine r_astore_n (pc := 8) cx dL_cellOf_8 (by decide) rfl ?_
      refine r_ldc2 (pc := 9) (v := (-9000000000000000001)) cx dL_cellOf_9 wq_L_17 ?_
      exact r_lreturn (pc := 12) (w0 := w) (mc := 1) (ms := 6) (fun _ _ h => h) (Nat.le_of_ble_eq_true rfl) (Nat.le_of_ble_eq_true rfl) cx dL_cellOf_12 rfl
    · refine Or.inr ⟨13, ⟨[(⟨0, 7, 8, 15⟩ : ExceptionTableEntry)], ⟨0, 7, 13, 30⟩, [], qE2, htab, (fun z hz => by rw [List.mem_singleton.mp hz]; exact Or.inr ⟨(by decide), _, wc_L_15, (qNc12 cx.2.2.2.2.1).2.2.1⟩), by decide, by decide, wc_L_30, qcast_qE2, rfl⟩, fun q => ?_⟩
      refine qS.eqF (show _ = some ((-9000000000000000002), σ1) from rfl) ?_
      refine r_astore_n (pc := 13) cx dL_cellOf_13 (by decide) rfl ?_
      refine r_ldc2 (pc := 14) (v := (-9000000000000000002)) cx dL_cellOf_14 wq_L_32 ?_
      exact r_lreturn (pc := 17) (w0 := w) (mc := 1) (ms := 6) (fun _ _ h => h) (Nat.le_of_ble_eq_true rfl) (Nat.le_of_ble_eq_true rfl) cx dL_cellOf_17 rfl
    · exact Or.inl rfl
def fL_bodyOf (p1 p2 : Int) (σ : qSt) : Option (Int × qSt) :=
  qbx (fX5_bodyOf p1 p2 σ) fun (e : Int) (r : Int) (σ1 : qSt) => if e = 0 then some (qi2l r, σ1) else if e = 1 then some ((-9000000000000000001), σ1) else if e = 2 then some ((-9000000000000000002), σ1) else if e = 3 then none else none
set_option maxRecDepth 100000 in
set_option maxHeartbeats 4000000 in
theorem tL_bodyOf {l : Launch} {z0 : Nat} {g : qG} {w : qWd} {ad : Nat → Nat} (hB : qBC g ad w) (h66 : w 66 = none) (h67 : w 67 = none) (h68 : w 68 = none) (hl : l.stackTraces = false) (p1 p2 : Int) (σ : qSt) : qCTH l yL_bodyOf cL_bodyOf 4 (some .long) [(0, 7, 8, 15), (0, 7, 13, 30)] (qrk 2 1 6) g z0 w [.ref (ad 0), .int (qI p1), .int (qI p2)] σ (fL_bodyOf p1 p2 σ) qrj := by
  refine qCTH.of [(0, some (.ref (ad 0))), (1, some (.int (qI p1))), (2, some (.int (qI p2)))] (by decide +kernel) (Nat.le_of_ble_eq_true rfl) rfl ?_
  intro p e s m args below meth c cx htab
  unfold fL_bodyOf
  refine r_aload_n (pc := 0) cx dL_bodyOf_0 rfl ?_
  refine r_iload_n (pc := 1) cx dL_bodyOf_1 rfl ?_
  refine r_iload_n (pc := 2) cx dL_bodyOf_2 rfl ?_
  refine r_xi (pc := 3) cx (tX5_bodyOf hB hl p1 p2 σ) qm_X5_bodyOf qv_X5_bodyOf hcl_X5 (lw0 hB) wm_L_64 dL_bodyOf_3 rfl rfl (Nat.le_of_ble_eq_true rfl) ⟨Nat.le_of_ble_eq_true rfl, Nat.le_of_ble_eq_true rfl⟩ ⟨Nat.le_of_ble_eq_true rfl, Nat.le_of_ble_eq_true rfl⟩ (fun r σ1 => ?_) (fun v r σ1 E hE => ?_)
  · refine qS.eqF (if_pos rfl) ?_
    refine r_i2l (pc := 6) cx dL_bodyOf_6 ?_
    exact r_lreturn (pc := 7) (w0 := w) (mc := 1) (ms := 6) (fun _ _ h => h) (Nat.le_of_ble_eq_true rfl) (Nat.le_of_ble_eq_true rfl) cx dL_bodyOf_7 rfl
  · rcases qEn_cases hE with ⟨rfl, rfl⟩ | ⟨rfl, rfl⟩ | ⟨rfl, rfl⟩
    · refine Or.inr ⟨8, ⟨[], ⟨0, 7, 8, 15⟩, [⟨0, 7, 13, 30⟩], qE1, htab, (fun z hz => absurd hz List.not_mem_nil), by decide, by decide, wc_L_15, qcast_qE1, rfl⟩, fun q => ?_⟩
      refine qS.eqF (show _ = some ((-9000000000000000001), σ1) from rfl) ?_
      refine r_astore_n (pc := 8) cx dL_bodyOf_8 (by decide) rfl ?_
      refine r_ldc2 (pc := 9) (v := (-9000000000000000001)) cx dL_bodyOf_9 wq_L_17 ?_
      exact r_lreturn (pc := 12) (w0 := w) (mc := 1) (ms := 6) (fun _ _ h => h) (Nat.le_of_ble_eq_true rfl) (Nat.le_of_ble_eq_true rfl) cx dL_bodyOf_12 rfl
    · refine Or.inr ⟨13, ⟨[(⟨0, 7, 8, 15⟩ : ExceptionTableEntry)], ⟨0, 7, 13, 30⟩, [], qE2, htab, (fun z hz => by rw [List.mem_singleton.mp hz]; exact Or.inr ⟨(by decide), _, wc_L_15, (qNc12 cx.2.2.2.2.1).2.2.1⟩), by decide, by decide, wc_L_30, qcast_qE2, rfl⟩, fun q => ?_⟩
      refine qS.eqF (show _ = some ((-9000000000000000002), σ1) from rfl) ?_
      refine r_astore_n (pc := 13) cx dL_bodyOf_13 (by decide) rfl ?_
      refine r_ldc2 (pc := 14) (v := (-9000000000000000002)) cx dL_bodyOf_14 wq_L_32 ?_
      exact r_lreturn (pc := 17) (w0 := w) (mc := 1) (ms := 6) (fun _ _ h => h) (Nat.le_of_ble_eq_true rfl) (Nat.le_of_ble_eq_true rfl) cx dL_bodyOf_17 rfl
    · exact Or.inl rfl
def fL_sum (p1 : Int) (σ : qSt) : Option (Int × qSt) :=
  qbx (fX5_sum p1 σ) fun (e : Int) (r : Int) (σ1 : qSt) => if e = 0 then some (r, σ1) else if e = 1 then none else if e = 2 then some ((-9000000000000000002), σ1) else if e = 3 then none else none
set_option maxRecDepth 100000 in
set_option maxHeartbeats 4000000 in
theorem tL_sum {l : Launch} {z0 : Nat} {g : qG} {w : qWd} {ad : Nat → Nat} (hB : qBC g ad w) (h66 : w 66 = none) (h67 : w 67 = none) (h68 : w 68 = none) (hl : l.stackTraces = false) (p1 : Int) (σ : qSt) : qCTH l yL_sum cL_sum 3 (some .long) [(0, 5, 6, 30)] (qrk 4 1 6) g z0 w [.ref (ad 0), .int (qI p1)] σ (fL_sum p1 σ) qrj := by
  refine qCTH.of [(0, some (.ref (ad 0))), (1, some (.int (qI p1)))] (by decide +kernel) (Nat.le_of_ble_eq_true rfl) rfl ?_
  intro p e s m args below meth c cx htab
  unfold fL_sum
  refine r_aload_n (pc := 0) cx dL_sum_0 rfl ?_
  refine r_iload_n (pc := 1) cx dL_sum_1 rfl ?_
  refine r_xj (pc := 2) cx (tX5_sum hB hl p1 σ) qm_X5_sum qv_X5_sum hcl_X5 (lw0 hB) wm_L_67 dL_sum_2 rfl rfl (Nat.le_of_ble_eq_true rfl) ⟨Nat.le_of_ble_eq_true rfl, Nat.le_of_ble_eq_true rfl⟩ ⟨Nat.le_of_ble_eq_true rfl, Nat.le_of_ble_eq_true rfl⟩ (fun r σ1 => ?_) (fun v r σ1 E hE => ?_)
  · refine qS.eqF (if_pos rfl) ?_
    exact r_lreturn (pc := 5) (w0 := w) (mc := 1) (ms := 6) (fun _ _ h => h) (Nat.le_of_ble_eq_true rfl) (Nat.le_of_ble_eq_true rfl) cx dL_sum_5 rfl
  · rcases qEn_cases hE with ⟨rfl, rfl⟩ | ⟨rfl, rfl⟩ | ⟨rfl, rfl⟩
    · exact Or.inl rfl
    · refine Or.inr ⟨6, ⟨[], ⟨0, 5, 6, 30⟩, [], qE2, htab, (fun z hz => absurd hz List.not_mem_nil), by decide, by decide, wc_L_30, qcast_qE2, rfl⟩, fun q => ?_⟩
      refine qS.eqF (show _ = some ((-9000000000000000002), σ1) from rfl) ?_
      refine r_astore_n (pc := 6) cx dL_sum_6 (by decide) rfl ?_
      refine r_ldc2 (pc := 7) (v := (-9000000000000000002)) cx dL_sum_7 wq_L_32 ?_
      exact r_lreturn (pc := 10) (w0 := w) (mc := 1) (ms := 6) (fun _ _ h => h) (Nat.le_of_ble_eq_true rfl) (Nat.le_of_ble_eq_true rfl) cx dL_sum_10 rfl
    · exact Or.inl rfl
def fL_average (p1 p2 p3 p4 p5 p6 : Int) (σ : qSt) : Option (Int × qSt) :=
  qbx (fX5_average p1 p2 p3 p4 p5 p6 σ) fun (e : Int) (r : Int) (σ1 : qSt) => if e = 0 then some (r, σ1) else if e = 1 then none else if e = 2 then some ((-9000000000000000002), σ1) else if e = 3 then none else none
set_option maxRecDepth 100000 in
set_option maxHeartbeats 4000000 in
theorem tL_average {l : Launch} {z0 : Nat} {g : qG} {w : qWd} {ad : Nat → Nat} (hB : qBC g ad w) (h66 : w 66 = none) (h67 : w 67 = none) (h68 : w 68 = none) (hl : l.stackTraces = false) (p1 p2 p3 p4 p5 p6 : Int) (σ : qSt) : qCTH l yL_average cL_average 8 (some .long) [(0, 13, 14, 30)] (qrk 5 2 7) g z0 w [.ref (ad 0), .int (qI p1), .int (qI p2), .int (qI p3), .int (qI p4), .int (qI p5), .int (qI p6)] σ (fL_average p1 p2 p3 p4 p5 p6 σ) qrj := by
  refine qCTH.of [(0, some (.ref (ad 0))), (1, some (.int (qI p1))), (2, some (.int (qI p2))), (3, some (.int (qI p3))), (4, some (.int (qI p4))), (5, some (.int (qI p5))), (6, some (.int (qI p6)))] (by decide +kernel) (Nat.le_of_ble_eq_true rfl) rfl ?_
  intro p e s m args below meth c cx htab
  unfold fL_average
  refine r_aload_n (pc := 0) cx dL_average_0 rfl ?_
  refine r_iload_n (pc := 1) cx dL_average_1 rfl ?_
  refine r_iload_n (pc := 2) cx dL_average_2 rfl ?_
  refine r_iload_n (pc := 3) cx dL_average_3 rfl ?_
  refine r_iload (pc := 4) cx dL_average_4 rfl ?_
  refine r_iload (pc := 6) cx dL_average_6 rfl ?_
  refine r_iload (pc := 8) cx dL_average_8 rfl ?_
  refine r_xj (pc := 10) cx (tX5_average hB h66 h67 h68 hl p1 p2 p3 p4 p5 p6 σ) qm_X5_average qv_X5_average hcl_X5 (lw0 hB) wm_L_70 dL_average_10 rfl rfl (Nat.le_of_ble_eq_true rfl) ⟨Nat.le_of_ble_eq_true rfl, Nat.le_of_ble_eq_true rfl⟩ ⟨Nat.le_of_ble_eq_true rfl, Nat.le_of_ble_eq_true rfl⟩ (fun r σ1 => ?_) (fun v r σ1 E hE => ?_)
  · refine qS.eqF (if_pos rfl) ?_
    exact r_lreturn (pc := 13) (w0 := w) (mc := 2) (ms := 7) (fun _ _ h => h) (Nat.le_of_ble_eq_true rfl) (Nat.le_of_ble_eq_true rfl) cx dL_average_13 rfl
  · rcases qEn_cases hE with ⟨rfl, rfl⟩ | ⟨rfl, rfl⟩ | ⟨rfl, rfl⟩
    · exact Or.inl rfl
    · refine Or.inr ⟨14, ⟨[], ⟨0, 13, 14, 30⟩, [], qE2, htab, (fun z hz => absurd hz List.not_mem_nil), by decide, by decide, wc_L_30, qcast_qE2, rfl⟩, fun q => ?_⟩
      refine qS.eqF (show _ = some ((-9000000000000000002), σ1) from rfl) ?_
      refine r_astore (pc := 14) cx dL_average_14 (by decide) rfl ?_
      refine r_ldc2 (pc := 16) (v := (-9000000000000000002)) cx dL_average_16 wq_L_32 ?_
      exact r_lreturn (pc := 19) (w0 := w) (mc := 2) (ms := 7) (fun _ _ h => h) (Nat.le_of_ble_eq_true rfl) (Nat.le_of_ble_eq_true rfl) cx dL_average_19 rfl
    · exact Or.inl rfl
def fL_scatter (p1 p2 p3 p4 p5 p6 : Int) (σ : qSt) : Option (Int × qSt) :=
  qbx (fX5_scatter p1 p2 p3 p4 p5 p6 σ) fun (e : Int) (r : Int) (σ1 : qSt) => if e = 0 then some (r, σ1) else if e = 1 then none else if e = 2 then some ((-9000000000000000002), σ1) else if e = 3 then none else none
set_option maxRecDepth 100000 in
set_option maxHeartbeats 4000000 in
theorem tL_scatter {l : Launch} {z0 : Nat} {g : qG} {w : qWd} {ad : Nat → Nat} (hB : qBC g ad w) (h66 : w 66 = none) (h67 : w 67 = none) (h68 : w 68 = none) (hl : l.stackTraces = false) (p1 p2 p3 p4 p5 p6 : Int) (σ : qSt) : qCTH l yL_scatter cL_scatter 8 (some .long) [(0, 13, 14, 30)] (qrk 5 2 7) g z0 w [.ref (ad 0), .int (qI p1), .int (qI p2), .int (qI p3), .int (qI p4), .int (qI p5), .int (qI p6)] σ (fL_scatter p1 p2 p3 p4 p5 p6 σ) qrj := by
  refine qCTH.of [(0, some (.ref (ad 0))), (1, some (.int (qI p1))), (2, some (.int (qI p2))), (3, some (.int (qI p3))), (4, some (.int (qI p4))), (5, some (.int (qI p5))), (6, some (.int (qI p6)))] (by decide +kernel) (Nat.le_of_ble_eq_true rfl) rfl ?_
  intro p e s m args below meth c cx htab
  unfold fL_scatter
  refine r_aload_n (pc := 0) cx dL_scatter_0 rfl ?_
  refine r_iload_n (pc := 1) cx dL_scatter_1 rfl ?_
  refine r_iload_n (pc := 2) cx dL_scatter_2 rfl ?_
  refine r_iload_n (pc := 3) cx dL_scatter_3 rfl ?_
  refine r_iload (pc := 4) cx dL_scatter_4 rfl ?_
  refine r_iload (pc := 6) cx dL_scatter_6 rfl ?_
  refine r_iload (pc := 8) cx dL_scatter_8 rfl ?_
  refine r_xj (pc := 10) cx (tX5_scatter hB h66 h67 h68 hl p1 p2 p3 p4 p5 p6 σ) qm_X5_scatter qv_X5_scatter hcl_X5 (lw0 hB) wm_L_74 dL_scatter_10 rfl rfl (Nat.le_of_ble_eq_true rfl) ⟨Nat.le_of_ble_eq_true rfl, Nat.le_of_ble_eq_true rfl⟩ ⟨Nat.le_of_ble_eq_true rfl, Nat.le_of_ble_eq_true rfl⟩ (fun r σ1 => ?_) (fun v r σ1 E hE => ?_)
  · refine qS.eqF (if_pos rfl) ?_
    exact r_lreturn (pc := 13) (w0 := w) (mc := 2) (ms := 7) (fun _ _ h => h) (Nat.le_of_ble_eq_true rfl) (Nat.le_of_ble_eq_true rfl) cx dL_scatter_13 rfl
  · rcases qEn_cases hE with ⟨rfl, rfl⟩ | ⟨rfl, rfl⟩ | ⟨rfl, rfl⟩
    · exact Or.inl rfl
    · refine Or.inr ⟨14, ⟨[], ⟨0, 13, 14, 30⟩, [], qE2, htab, (fun z hz => absurd hz List.not_mem_nil), by decide, by decide, wc_L_30, qcast_qE2, rfl⟩, fun q => ?_⟩
      refine qS.eqF (show _ = some ((-9000000000000000002), σ1) from rfl) ?_
      refine r_astore (pc := 14) cx dL_scatter_14 (by decide) rfl ?_
      refine r_ldc2 (pc := 16) (v := (-9000000000000000002)) cx dL_scatter_16 wq_L_32 ?_
      exact r_lreturn (pc := 19) (w0 := w) (mc := 2) (ms := 7) (fun _ _ h => h) (Nat.le_of_ble_eq_true rfl) (Nat.le_of_ble_eq_true rfl) cx dL_scatter_19 rfl
    · exact Or.inl rfl
def fL_ahead (p1 p2 : Int) (σ : qSt) : Option (Int × qSt) :=
  qbx (fX5_ahead p1 p2 σ) fun (e : Int) (r : Int) (σ1 : qSt) => if e = 0 then some (qi2l r, σ1) else if e = 1 then some ((-9000000000000000001), σ1) else if e = 2 then some ((-9000000000000000002), σ1) else if e = 3 then none else none
set_option maxRecDepth 100000 in
set_option maxHeartbeats 4000000 in
theorem tL_ahead {l : Launch} {z0 : Nat} {g : qG} {w : qWd} {ad : Nat → Nat} (hB : qBC g ad w) (h66 : w 66 = none) (h67 : w 67 = none) (h68 : w 68 = none) (hl : l.stackTraces = false) (p1 p2 : Int) (σ : qSt) : qCTH l yL_ahead cL_ahead 4 (some .long) [(0, 7, 8, 15), (0, 7, 13, 30)] (qrk 6 1 6) g z0 w [.ref (ad 0), .int (qI p1), .int (qI p2)] σ (fL_ahead p1 p2 σ) qrj := by
  refine qCTH.of [(0, some (.ref (ad 0))), (1, some (.int (qI p1))), (2, some (.int (qI p2)))] (by decide +kernel) (Nat.le_of_ble_eq_true rfl) rfl ?_
  intro p e s m args below meth c cx htab
  unfold fL_ahead
  refine r_aload_n (pc := 0) cx dL_ahead_0 rfl ?_
  refine r_iload_n (pc := 1) cx dL_ahead_1 rfl ?_
  refine r_iload_n (pc := 2) cx dL_ahead_2 rfl ?_
  refine r_xi (pc := 3) cx (tX5_ahead hB hl p1 p2 σ) qm_X5_ahead qv_X5_ahead hcl_X5 (lw0 hB) wm_L_77 dL_ahead_3 rfl rfl (Nat.le_of_ble_eq_true rfl) ⟨Nat.le_of_ble_eq_true rfl, Nat.le_of_ble_eq_true rfl⟩ ⟨Nat.le_of_ble_eq_true rfl, Nat.le_of_ble_eq_true rfl⟩ (fun r σ1 => ?_) (fun v r σ1 E hE => ?_)
  · refine qS.eqF (if_pos rfl) ?_
    refine r_i2l (pc := 6) cx dL_ahead_6 ?_
    exact r_lreturn (pc := 7) (w0 := w) (mc := 1) (ms := 6) (fun _ _ h => h) (Nat.le_of_ble_eq_true rfl) (Nat.le_of_ble_eq_true rfl) cx dL_ahead_7 rfl
  · rcases qEn_cases hE with ⟨rfl, rfl⟩ | ⟨rfl, rfl⟩ | ⟨rfl, rfl⟩
    · refine Or.inr ⟨8, ⟨[], ⟨0, 7, 8, 15⟩, [⟨0, 7, 13, 30⟩], qE1, htab, (fun z hz => absurd hz List.not_mem_nil), by decide, by decide, wc_L_15, qcast_qE1, rfl⟩, fun q => ?_⟩
      refine qS.eqF (show _ = some ((-9000000000000000001), σ1) from rfl) ?_
      refine r_astore_n (pc := 8) cx dL_ahead_8 (by decide) rfl ?_
      refine r_ldc2 (pc := 9) (v := (-9000000000000000001)) cx dL_ahead_9 wq_L_17 ?_
      exact r_lreturn (pc := 12) (w0 := w) (mc := 1) (ms := 6) (fun _ _ h => h) (Nat.le_of_ble_eq_true rfl) (Nat.le_of_ble_eq_true rfl) cx dL_ahead_12 rfl
    · refine Or.inr ⟨13, ⟨[(⟨0, 7, 8, 15⟩ : ExceptionTableEntry)], ⟨0, 7, 13, 30⟩, [], qE2, htab, (fun z hz => by rw [List.mem_singleton.mp hz]; exact Or.inr ⟨(by decide), _, wc_L_15, (qNc12 cx.2.2.2.2.1).2.2.1⟩), by decide, by decide, wc_L_30, qcast_qE2, rfl⟩, fun q => ?_⟩
      refine qS.eqF (show _ = some ((-9000000000000000002), σ1) from rfl) ?_
      refine r_astore_n (pc := 13) cx dL_ahead_13 (by decide) rfl ?_
      refine r_ldc2 (pc := 14) (v := (-9000000000000000002)) cx dL_ahead_14 wq_L_32 ?_
      exact r_lreturn (pc := 17) (w0 := w) (mc := 1) (ms := 6) (fun _ _ h => h) (Nat.le_of_ble_eq_true rfl) (Nat.le_of_ble_eq_true rfl) cx dL_ahead_17 rfl
    · exact Or.inl rfl
def fL_aheadAnew (p1 p2 : Int) (σ : qSt) : Option (Int × qSt) :=
  qbx (fX5_aheadAnew p1 p2 σ) fun (e : Int) (r : Int) (σ1 : qSt) => if e = 0 then some (qi2l r, σ1) else if e = 1 then some ((-9000000000000000001), σ1) else if e = 2 then some ((-9000000000000000002), σ1) else if e = 3 then none else none
set_option maxRecDepth 100000 in
set_option maxHeartbeats 4000000 in
theorem tL_aheadAnew {l : Launch} {z0 : Nat} {g : qG} {w : qWd} {ad : Nat → Nat} (hB : qBC g ad w) (h66 : w 66 = none) (h67 : w 67 = none) (h68 : w 68 = none) (hl : l.stackTraces = false) (p1 p2 : Int) (σ : qSt) : qCTH l yL_aheadAnew cL_aheadAnew 4 (some .long) [(0, 7, 8, 15), (0, 7, 13, 30)] (qrk 32 1 6) g z0 w [.ref (ad 0), .int (qI p1), .int (qI p2)] σ (fL_aheadAnew p1 p2 σ) qrj := by
  refine qCTH.of [(0, some (.ref (ad 0))), (1, some (.int (qI p1))), (2, some (.int (qI p2)))] (by decide +kernel) (Nat.le_of_ble_eq_true rfl) rfl ?_
  intro p e s m args below meth c cx htab
  unfold fL_aheadAnew
  refine r_aload_n (pc := 0) cx dL_aheadAnew_0 rfl ?_
  refine r_iload_n (pc := 1) cx dL_aheadAnew_1 rfl ?_
  refine r_iload_n (pc := 2) cx dL_aheadAnew_2 rfl ?_
  refine r_xi (pc := 3) cx (tX5_aheadAnew hB hl p1 p2 σ) qm_X5_aheadAnew qv_X5_aheadAnew hcl_X5 (lw0 hB) wm_L_80 dL_aheadAnew_3 rfl rfl (Nat.le_of_ble_eq_true rfl) ⟨Nat.le_of_ble_eq_true rfl, Nat.le_of_ble_eq_true rfl⟩ ⟨Nat.le_of_ble_eq_true rfl, Nat.le_of_ble_eq_true rfl⟩ (fun r σ1 => ?_) (fun v r σ1 E hE => ?_)
  · refine qS.eqF (if_pos rfl) ?_
    refine r_i2l (pc := 6) cx dL_aheadAnew_6 ?_
    exact r_lreturn (pc := 7) (w0 := w) (mc := 1) (ms := 6) (fun _ _ h => h) (Nat.le_of_ble_eq_true rfl) (Nat.le_of_ble_eq_true rfl) cx dL_aheadAnew_7 rfl
  · rcases qEn_cases hE with ⟨rfl, rfl⟩ | ⟨rfl, rfl⟩ | ⟨rfl, rfl⟩
    · refine Or.inr ⟨8, ⟨[], ⟨0, 7, 8, 15⟩, [⟨0, 7, 13, 30⟩], qE1, htab, (fun z hz => absurd hz List.not_mem_nil), by decide, by decide, wc_L_15, qcast_qE1, rfl⟩, fun q => ?_⟩
      refine qS.eqF (show _ = some ((-9000000000000000001), σ1) from rfl) ?_
      refine r_astore_n (pc := 8) cx dL_aheadAnew_8 (by decide) rfl ?_
      refine r_ldc2 (pc := 9) (v := (-9000000000000000001)) cx dL_aheadAnew_9 wq_L_17 ?_
      exact r_lreturn (pc := 12) (w0 := w) (mc := 1) (ms := 6) (fun _ _ h => h) (Nat.le_of_ble_eq_true rfl) (Nat.le_of_ble_eq_true rfl) cx dL_aheadAnew_12 rfl
    · refine Or.inr ⟨13, ⟨[(⟨0, 7, 8, 15⟩ : ExceptionTableEntry)], ⟨0, 7, 13, 30⟩, [], qE2, htab, (fun z hz => by rw [List.mem_singleton.mp hz]; exact Or.inr ⟨(by decide), _, wc_L_15, (qNc12 cx.2.2.2.2.1).2.2.1⟩), by decide, by decide, wc_L_30, qcast_qE2, rfl⟩, fun q => ?_⟩
      refine qS.eqF (show _ = some ((-9000000000000000002), σ1) from rfl) ?_
      refine r_astore_n (pc := 13) cx dL_aheadAnew_13 (by decide) rfl ?_
      refine r_ldc2 (pc := 14) (v := (-9000000000000000002)) cx dL_aheadAnew_14 wq_L_32 ?_
      exact r_lreturn (pc := 17) (w0 := w) (mc := 1) (ms := 6) (fun _ _ h => h) (Nat.le_of_ble_eq_true rfl) (Nat.le_of_ble_eq_true rfl) cx dL_aheadAnew_17 rfl
    · exact Or.inl rfl
def fL_mixed (p1 : Int) (σ : qSt) : Option (Int × qSt) :=
  qbx (fX5_mixed p1 σ) fun (e : Int) (r : Int) (σ1 : qSt) => if e = 0 then some (r, σ1) else if e = 1 then none else if e = 2 then some ((-9000000000000000002), σ1) else if e = 3 then none else none
set_option maxRecDepth 100000 in
set_option maxHeartbeats 4000000 in
theorem tL_mixed {l : Launch} {z0 : Nat} {g : qG} {w : qWd} {ad : Nat → Nat} (hB : qBC g ad w) (h66 : w 66 = none) (h67 : w 67 = none) (h68 : w 68 = none) (hl : l.stackTraces = false) (p1 : Int) (σ : qSt) : qCTH l yL_mixed cL_mixed 3 (some .long) [(0, 5, 6, 30)] (qrk 5 24 96) g z0 w [.ref (ad 0), .int (qI p1)] σ (fL_mixed p1 σ) qrj := by
  refine qCTH.of [(0, some (.ref (ad 0))), (1, some (.int (qI p1)))] (by decide +kernel) (Nat.le_of_ble_eq_true rfl) rfl ?_
  intro p e s m args below meth c cx htab
  unfold fL_mixed
  refine r_aload_n (pc := 0) cx dL_mixed_0 rfl ?_
  refine r_iload_n (pc := 1) cx dL_mixed_1 rfl ?_
  refine r_xj (pc := 2) cx (tX5_mixed hB h66 h67 h68 hl p1 σ) qm_X5_mixed qv_X5_mixed hcl_X5 (lw0 hB) wm_L_83 dL_mixed_2 rfl rfl (Nat.le_of_ble_eq_true rfl) ⟨Nat.le_of_ble_eq_true rfl, Nat.le_of_ble_eq_true rfl⟩ ⟨Nat.le_of_ble_eq_true rfl, Nat.le_of_ble_eq_true rfl⟩ (fun r σ1 => ?_) (fun v r σ1 E hE => ?_)
  · refine qS.eqF (if_pos rfl) ?_
    exact r_lreturn (pc := 5) (w0 := w) (mc := 24) (ms := 96) (fun _ _ h => h) (Nat.le_of_ble_eq_true rfl) (Nat.le_of_ble_eq_true rfl) cx dL_mixed_5 rfl
  · rcases qEn_cases hE with ⟨rfl, rfl⟩ | ⟨rfl, rfl⟩ | ⟨rfl, rfl⟩
    · exact Or.inl rfl
    · refine Or.inr ⟨6, ⟨[], ⟨0, 5, 6, 30⟩, [], qE2, htab, (fun z hz => absurd hz List.not_mem_nil), by decide, by decide, wc_L_30, qcast_qE2, rfl⟩, fun q => ?_⟩
      refine qS.eqF (show _ = some ((-9000000000000000002), σ1) from rfl) ?_
      refine r_astore_n (pc := 6) cx dL_mixed_6 (by decide) rfl ?_
      refine r_ldc2 (pc := 7) (v := (-9000000000000000002)) cx dL_mixed_7 wq_L_32 ?_
      exact r_lreturn (pc := 10) (w0 := w) (mc := 24) (ms := 96) (fun _ _ h => h) (Nat.le_of_ble_eq_true rfl) (Nat.le_of_ble_eq_true rfl) cx dL_mixed_10 rfl
    · exact Or.inl rfl
def fL_record (p1 p2 : Int) (σ : qSt) : Option (Int × qSt) :=
  qbx (fX5_record p1 p2 σ) fun (e : Int) (r : Int) (σ1 : qSt) => if e = 0 then some (qi2l r, σ1) else if e = 1 then some ((-9000000000000000001), σ1) else if e = 2 then none else if e = 3 then none else none
set_option maxRecDepth 100000 in
set_option maxHeartbeats 4000000 in
theorem tL_record {l : Launch} {z0 : Nat} {g : qG} {w : qWd} {ad : Nat → Nat} (hB : qBC g ad w) (h66 : w 66 = none) (h67 : w 67 = none) (h68 : w 68 = none) (hl : l.stackTraces = false) (p1 p2 : Int) (σ : qSt) : qCTH l yL_record cL_record 4 (some .long) [(0, 7, 8, 15)] (qrk 2 1 6) g z0 w [.ref (ad 0), .int (qI p1), .int (qI p2)] σ (fL_record p1 p2 σ) qrj := by
  refine qCTH.of [(0, some (.ref (ad 0))), (1, some (.int (qI p1))), (2, some (.int (qI p2)))] (by decide +kernel) (Nat.le_of_ble_eq_true rfl) rfl ?_
  intro p e s m args below meth c cx htab
  unfold fL_record
  refine r_aload_n (pc := 0) cx dL_record_0 rfl ?_
  refine r_iload_n (pc := 1) cx dL_record_1 rfl ?_
  refine r_iload_n (pc := 2) cx dL_record_2 rfl ?_
  refine r_xi (pc := 3) cx (tX5_record hB hl p1 p2 σ) qm_X5_record qv_X5_record hcl_X5 (lw0 hB) wm_L_86 dL_record_3 rfl rfl (Nat.le_of_ble_eq_true rfl) ⟨Nat.le_of_ble_eq_true rfl, Nat.le_of_ble_eq_true rfl⟩ ⟨Nat.le_of_ble_eq_true rfl, Nat.le_of_ble_eq_true rfl⟩ (fun r σ1 => ?_) (fun v r σ1 E hE => ?_)
  · refine qS.eqF (if_pos rfl) ?_
    refine r_i2l (pc := 6) cx dL_record_6 ?_
    exact r_lreturn (pc := 7) (w0 := w) (mc := 1) (ms := 6) (fun _ _ h => h) (Nat.le_of_ble_eq_true rfl) (Nat.le_of_ble_eq_true rfl) cx dL_record_7 rfl
  · rcases qEn_cases hE with ⟨rfl, rfl⟩ | ⟨rfl, rfl⟩ | ⟨rfl, rfl⟩
    · refine Or.inr ⟨8, ⟨[], ⟨0, 7, 8, 15⟩, [], qE1, htab, (fun z hz => absurd hz List.not_mem_nil), by decide, by decide, wc_L_15, qcast_qE1, rfl⟩, fun q => ?_⟩
      refine qS.eqF (show _ = some ((-9000000000000000001), σ1) from rfl) ?_
      refine r_astore_n (pc := 8) cx dL_record_8 (by decide) rfl ?_
      refine r_ldc2 (pc := 9) (v := (-9000000000000000001)) cx dL_record_9 wq_L_17 ?_
      exact r_lreturn (pc := 12) (w0 := w) (mc := 1) (ms := 6) (fun _ _ h => h) (Nat.le_of_ble_eq_true rfl) (Nat.le_of_ble_eq_true rfl) cx dL_record_12 rfl
    · exact Or.inl rfl
    · exact Or.inl rfl
def fL_beat (p1 : Int) (σ : qSt) : Option (Int × qSt) :=
  qbx (fX5_beat p1 σ) fun (e : Int) (r : Int) (σ1 : qSt) => if e = 0 then some (qi2l r, σ1) else if e = 1 then some ((-9000000000000000001), σ1) else if e = 2 then none else if e = 3 then none else none
set_option maxRecDepth 100000 in
set_option maxHeartbeats 4000000 in
theorem tL_beat {l : Launch} {z0 : Nat} {g : qG} {w : qWd} {ad : Nat → Nat} (hB : qBC g ad w) (h66 : w 66 = none) (h67 : w 67 = none) (h68 : w 68 = none) (hl : l.stackTraces = false) (p1 : Int) (σ : qSt) : qCTH l yL_beat cL_beat 3 (some .long) [(0, 6, 7, 15)] (qrk 2 1 6) g z0 w [.ref (ad 0), .int (qI p1)] σ (fL_beat p1 σ) qrj := by
  refine qCTH.of [(0, some (.ref (ad 0))), (1, some (.int (qI p1)))] (by decide +kernel) (Nat.le_of_ble_eq_true rfl) rfl ?_
  intro p e s m args below meth c cx htab
  unfold fL_beat
  refine r_aload_n (pc := 0) cx dL_beat_0 rfl ?_
  refine r_iload_n (pc := 1) cx dL_beat_1 rfl ?_
  refine r_xi (pc := 2) cx (tX5_beat hB hl p1 σ) qm_X5_beat qv_X5_beat hcl_X5 (lw0 hB) wm_L_89 dL_beat_2 rfl rfl (Nat.le_of_ble_eq_true rfl) ⟨Nat.le_of_ble_eq_true rfl, Nat.le_of_ble_eq_true rfl⟩ ⟨Nat.le_of_ble_eq_true rfl, Nat.le_of_ble_eq_true rfl⟩ (fun r σ1 => ?_) (fun v r σ1 E hE => ?_)
  · refine qS.eqF (if_pos rfl) ?_
    refine r_i2l (pc := 5) cx dL_beat_5 ?_
    exact r_lreturn (pc := 6) (w0 := w) (mc := 1) (ms := 6) (fun _ _ h => h) (Nat.le_of_ble_eq_true rfl) (Nat.le_of_ble_eq_true rfl) cx dL_beat_6 rfl
  · rcases qEn_cases hE with ⟨rfl, rfl⟩ | ⟨rfl, rfl⟩ | ⟨rfl, rfl⟩
    · refine Or.inr ⟨7, ⟨[], ⟨0, 6, 7, 15⟩, [], qE1, htab, (fun z hz => absurd hz List.not_mem_nil), by decide, by decide, wc_L_15, qcast_qE1, rfl⟩, fun q => ?_⟩
      refine qS.eqF (show _ = some ((-9000000000000000001), σ1) from rfl) ?_
      refine r_astore_n (pc := 7) cx dL_beat_7 (by decide) rfl ?_
      refine r_ldc2 (pc := 8) (v := (-9000000000000000001)) cx dL_beat_8 wq_L_17 ?_
      exact r_lreturn (pc := 11) (w0 := w) (mc := 1) (ms := 6) (fun _ _ h => h) (Nat.le_of_ble_eq_true rfl) (Nat.le_of_ble_eq_true rfl) cx dL_beat_11 rfl
    · exact Or.inl rfl
    · exact Or.inl rfl
def fL_better (p1 p2 : Int) (σ : qSt) : Option (Int × qSt) :=
  qbx (fX5_better p1 p2 σ) fun (e : Int) (r : Int) (σ1 : qSt) => if e = 0 then some (qi2l r, σ1) else if e = 1 then some ((-9000000000000000001), σ1) else if e = 2 then some ((-9000000000000000002), σ1) else if e = 3 then none else none
set_option maxRecDepth 100000 in
set_option maxHeartbeats 4000000 in
theorem tL_better {l : Launch} {z0 : Nat} {g : qG} {w : qWd} {ad : Nat → Nat} (hB : qBC g ad w) (h66 : w 66 = none) (h67 : w 67 = none) (h68 : w 68 = none) (hl : l.stackTraces = false) (p1 p2 : Int) (σ : qSt) : qCTH l yL_better cL_better 4 (some .long) [(0, 7, 8, 15), (0, 7, 13, 30)] (qrk 7 1 6) g z0 w [.ref (ad 0), .int (qI p1), .int (qI p2)] σ (fL_better p1 p2 σ) qrj := by
  refine qCTH.of [(0, some (.ref (ad 0))), (1, some (.int (qI p1))), (2, some (.int (qI p2)))] (by decide +kernel) (Nat.le_of_ble_eq_true rfl) rfl ?_
  intro p e s m args below meth c cx htab
  unfold fL_better
  refine r_aload_n (pc := 0) cx dL_better_0 rfl ?_
  refine r_iload_n (pc := 1) cx dL_better_1 rfl ?_
  refine r_iload_n (pc := 2) cx dL_better_2 rfl ?_
  refine r_xi (pc := 3) cx (tX5_better hB hl p1 p2 σ) qm_X5_better qv_X5_better hcl_X5 (lw0 hB) wm_L_92 dL_better_3 rfl rfl (Nat.le_of_ble_eq_true rfl) ⟨Nat.le_of_ble_eq_true rfl, Nat.le_of_ble_eq_true rfl⟩ ⟨Nat.le_of_ble_eq_true rfl, Nat.le_of_ble_eq_true rfl⟩ (fun r σ1 => ?_) (fun v r σ1 E hE => ?_)
  · refine qS.eqF (if_pos rfl) ?_
    refine r_i2l (pc := 6) cx dL_better_6 ?_
    exact r_lreturn (pc := 7) (w0 := w) (mc := 1) (ms := 6) (fun _ _ h => h) (Nat.le_of_ble_eq_true rfl) (Nat.le_of_ble_eq_true rfl) cx dL_better_7 rfl
  · rcases qEn_cases hE with ⟨rfl, rfl⟩ | ⟨rfl, rfl⟩ | ⟨rfl, rfl⟩
    · refine Or.inr ⟨8, ⟨[], ⟨0, 7, 8, 15⟩, [⟨0, 7, 13, 30⟩], qE1, htab, (fun z hz => absurd hz List.not_mem_nil), by decide, by decide, wc_L_15, qcast_qE1, rfl⟩, fun q => ?_⟩
      refine qS.eqF (show _ = some ((-9000000000000000001), σ1) from rfl) ?_
      refine r_astore_n (pc := 8) cx dL_better_8 (by decide) rfl ?_
      refine r_ldc2 (pc := 9) (v := (-9000000000000000001)) cx dL_better_9 wq_L_17 ?_
      exact r_lreturn (pc := 12) (w0 := w) (mc := 1) (ms := 6) (fun _ _ h => h) (Nat.le_of_ble_eq_true rfl) (Nat.le_of_ble_eq_true rfl) cx dL_better_12 rfl
    · refine Or.inr ⟨13, ⟨[(⟨0, 7, 8, 15⟩ : ExceptionTableEntry)], ⟨0, 7, 13, 30⟩, [], qE2, htab, (fun z hz => by rw [List.mem_singleton.mp hz]; exact Or.inr ⟨(by decide), _, wc_L_15, (qNc12 cx.2.2.2.2.1).2.2.1⟩), by decide, by decide, wc_L_30, qcast_qE2, rfl⟩, fun q => ?_⟩
      refine qS.eqF (show _ = some ((-9000000000000000002), σ1) from rfl) ?_
      refine r_astore_n (pc := 13) cx dL_better_13 (by decide) rfl ?_
      refine r_ldc2 (pc := 14) (v := (-9000000000000000002)) cx dL_better_14 wq_L_32 ?_
      exact r_lreturn (pc := 17) (w0 := w) (mc := 1) (ms := 6) (fun _ _ h => h) (Nat.le_of_ble_eq_true rfl) (Nat.le_of_ble_eq_true rfl) cx dL_better_17 rfl
    · exact Or.inl rfl
