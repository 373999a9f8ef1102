theorem qEn_cases {v : Int} {E : String} (h : qEn v = some E) : (v = 1 ∧ E = qE1) ∨ (v = 2 ∧ E = qE2) ∨ (v = 3 ∧ E = qE3) := by
  unfold qEn at h
  by_cases h1 : v = 1
  · rw [if_pos h1] at h; cases h; exact Or.inl ⟨h1, rfl⟩
  · rw [if_neg h1] at h
    by_cases h2 : v = 2
    · rw [if_pos h2] at h; cases h; exact Or.inr (Or.inl ⟨h2, rfl⟩)
    · rw [if_neg h2] at h
      by_cases h3 : v = 3
      · rw [if_pos h3] at h; cases h; exact Or.inr (Or.inr ⟨h3, rfl⟩)
      · rw [if_neg h3] at h; cases h
theorem qS.eqF {Y : Type} {p : Program} {l : Launch} {e : Env} {R : Room} {s : State} {m : MethodId} {args : Array Value} {below : List Frame} {meth : Method} {c : Code} {nL : Nat} {g : qG} {z0 : Nat} {w : qWd} {k n : Nat} {Q : Y → State → Prop} {F F' : Option Y} {σ : qSt} {pc : Nat} {lo : qLo} {st : List Value} (h : F = F') (kk : qS p l e R s m args below meth c nL g z0 w k n Q F' σ pc lo st) : qS p l e R s m args below meth c nL g z0 w k n Q F σ pc lo st := by
  rw [h]
  exact kk
theorem qall2 {α : Type} {a b : α} {P : α → Prop} (ha : P a) (hb : P b) (z : α) (hz : z ∈ [a, b]) : P z := by
  rcases List.mem_cons.mp hz with h | h
  · rw [h]; exact ha
  · rw [List.mem_singleton.mp h]; exact hb
theorem qNc12 {g : qG} {z0 : Nat} {s : State} (h : qK g z0 s) : qNc s := h.2.2.2.2.2
def fL_wall (p1 p2 : Int) (σ : qSt) : Option (Int × qSt) :=
  qbx (fX5_wall p1 p2 σ) fun (e : Int) (r : Int) (σ1 : qSt) => if e = 0 then some (0, σ1) else if e = 1 then some (1, σ1) else if e = 2 then none else if e = 3 then some (2, σ1) else none
set_option maxRecDepth 100000 in
set_option maxHeartbeats 4000000 in
theorem tL_wall {l : Launch} {z0 : Nat} {g : qG} {w : qWd} {ad : Nat → Nat} (hB : qBC g ad w) (hl : l.stackTraces = false) (p1 p2 : Int) (σ : qSt) : qCTH l yL_wall cL_wall 4 (some .int) [(0, 6, 9, 13), (0, 6, 12, 15)] (qrk 3 1 6) g z0 w [.ref (ad 0), .int (qI p1), .int (qI p2)] σ (fL_wall p1 p2 σ) qri := by
  refine qCTH.of [(0, some (.ref (ad 0))), (1, some (.int (qI p1))), (2, some (.int (qI p2)))] (by decide +kernel) (Nat.le_of_ble_eq_true rfl) rfl ?_
  intro p e s m args below meth c cx htab
  unfold fL_wall
  refine r_aload_n (pc := 0) cx dL_wall_0 rfl ?_
  refine r_iload_n (pc := 1) cx dL_wall_1 rfl ?_
  refine r_iload_n (pc := 2) cx dL_wall_2 rfl ?_
  refine r_xv (pc := 3) cx (tX5_wall hB hl p1 p2 σ) qm_X5_wall qv_X5_wall hcl_X5 (lw0 hB) wm_L_7 dL_wall_3 rfl rfl (Nat.le_of_ble_eq_true rfl) ⟨Nat.le_of_ble_eq_true rfl, Nat.le_of_ble_eq_true rfl⟩ ⟨Nat.le_of_ble_eq_true rfl, Nat.le_of_ble_eq_true rfl⟩ (fun r σ1 => ?_) (fun v r σ1 E hE => ?_)
  · refine qS.eqF (if_pos rfl) ?_
    refine r_goto (pc := 6) (tgt := 15) cx dL_wall_6 (by decide) ?_
    refine r_iconst (pc := 15) cx dL_wall_15 ?_
    exact r_ireturn (pc := 16) (w0 := w) (mc := 1) (ms := 6) (fun _ _ h => h) (Nat.le_of_ble_eq_true rfl) (Nat.le_of_ble_eq_true rfl) cx dL_wall_16 rfl
  · rcases qEn_cases hE with ⟨rfl, rfl⟩ | ⟨rfl, rfl⟩ | ⟨rfl, rfl⟩
    · refine Or.inr ⟨9, ⟨[], ⟨0, 6, 9, 13⟩, [⟨0, 6, 12, 15⟩], qE1, htab, (fun z hz => absurd hz List.not_mem_nil), by decide, by decide, wc_L_13, qcast_qE1, rfl⟩, fun q => ?_⟩
      refine qS.eqF (show _ = some (1, σ1) from rfl) ?_
      refine r_astore_n (pc := 9) cx dL_wall_9 (by decide) rfl ?_
      refine r_iconst (pc := 10) cx dL_wall_10 ?_
      exact r_ireturn (pc := 11) (w0 := w) (mc := 1) (ms := 6) (fun _ _ h => h) (Nat.le_of_ble_eq_true rfl) (Nat.le_of_ble_eq_true rfl) cx dL_wall_11 rfl
    · exact Or.inl rfl
    · refine Or.inr ⟨12, ⟨[(⟨0, 6, 9, 13⟩ : ExceptionTableEntry)], ⟨0, 6, 12, 15⟩, [], qE3, htab, (fun z hz => by rw [List.mem_singleton.mp hz]; exact Or.inr ⟨(by decide), _, wc_L_13, (qNc12 cx.2.2.2.2.1).2.2.2.2.1⟩), by decide, by decide, wc_L_15, qcast_qE3, rfl⟩, fun q => ?_⟩
      refine qS.eqF (show _ = some (2, σ1) from rfl) ?_
      refine r_astore_n (pc := 12) cx dL_wall_12 (by decide) rfl ?_
      refine r_iconst (pc := 13) cx dL_wall_13 ?_
      exact r_ireturn (pc := 14) (w0 := w) (mc := 1) (ms := 6) (fun _ _ h => h) (Nat.le_of_ble_eq_true rfl) (Nat.le_of_ble_eq_true rfl) cx dL_wall_14 rfl
def fL_clear (p1 : Int) (σ : qSt) : Option (Int × qSt) :=
  qbx (fX5_clear p1 σ) fun (e : Int) (r : Int) (σ1 : qSt) => if e = 0 then (if 0 ≤ (0 : Int) ∧ (0 : Int) < 1 then qb (qset σ1 64 0 (qi2l r)) fun (σ2 : qSt) => some (0, σ2) else none) else if e = 1 then some (1, σ1) else if e = 2 then none else if e = 3 then none else none
set_option maxRecDepth 100000 in
set_option maxHeartbeats 4000000 in
theorem tL_clear {l : Launch} {z0 : Nat} {g : qG} {w : qWd} {ad : Nat → Nat} (hB : qBC g ad w) {ao : Nat} (hO : w 64 = some (ao, qAL (g.2 4) 1)) (hl : l.stackTraces = false) (p1 : Int) (σ : qSt) : qCTH l yL_clear cL_clear 4 (some .int) [(0, 9, 12, 13)] (qrk 2 1 6) g z0 w [.ref (ad 0), .int (qI p1), .ref ao] σ (fL_clear p1 σ) qri := by
  refine qCTH.of [(0, some (.ref (ad 0))), (1, some (.int (qI p1))), (2, some (.ref ao))] (by decide +kernel) (Nat.le_of_ble_eq_true rfl) rfl ?_
  intro p e s m args below meth c cx htab
  unfold fL_clear
  refine r_aload_n (pc := 0) cx dL_clear_0 rfl ?_
  refine r_iconst (pc := 1) cx dL_clear_1 ?_
  refine r_aload_n (pc := 2) cx dL_clear_2 rfl ?_
  refine r_iload_n (pc := 3) cx dL_clear_3 rfl ?_
  refine r_xi (pc := 4) cx (tX5_clear hB hl p1 σ) qm_X5_clear qv_X5_clear hcl_X5 (lw0 hB) wm_L_17 dL_clear_4 rfl rfl (Nat.le_of_ble_eq_true rfl) ⟨Nat.le_of_ble_eq_true rfl, Nat.le_of_ble_eq_true rfl⟩ ⟨Nat.le_of_ble_eq_true rfl, Nat.le_of_ble_eq_true rfl⟩ (fun r σ1 => ?_) (fun v r σ1 E hE => ?_)
  · refine qS.eqF (if_pos rfl) ?_
    refine r_i2l (pc := 7) cx dL_clear_7 ?_
    refine r_lastore (pc := 8) cx hO rfl (by decide) dL_clear_8 (fun σ2 => ?_)
    refine r_goto (pc := 9) (tgt := 15) cx dL_clear_9 (by decide) ?_
    refine r_iconst (pc := 15) cx dL_clear_15 ?_
    exact r_ireturn (pc := 16) (w0 := w) (mc := 1) (ms := 6) (fun _ _ h => h) (Nat.le_of_ble_eq_true rfl) (Nat.le_of_ble_eq_true rfl) cx dL_clear_16 rfl
  · rcases qEn_cases hE with ⟨rfl, rfl⟩ | ⟨rfl, rfl⟩ | ⟨rfl, rfl⟩
    · refine Or.inr ⟨12, ⟨[], ⟨0, 9, 12, 13⟩, [], qE1, htab, (fun z hz => absurd hz List.not_mem_nil), by decide, by decide, wc_L_13, qcast_qE1, rfl⟩, fun q => ?_⟩
      refine qS.eqF (show _ = some (1, σ1) from rfl) ?_
      refine r_astore_n (pc := 12) cx dL_clear_12 (by decide) rfl ?_
      refine r_iconst (pc := 13) cx dL_clear_13 ?_
      exact r_ireturn (pc := 14) (w0 := w) (mc := 1) (ms := 6) (fun _ _ h => h) (Nat.le_of_ble_eq_true rfl) (Nat.le_of_ble_eq_true rfl) cx dL_clear_14 rfl
    · exact Or.inl rfl
    · exact Or.inl rfl
def fL_open (p1 p2 : Int) (σ : qSt) : Option (Int × qSt) :=
  qbx (fX5_open p1 p2 σ) fun (e : Int) (r : Int) (σ1 : qSt) => if e = 0 then some (0, σ1) else if e = 1 then some (1, σ1) else if e = 2 then some (2, σ1) else if e = 3 then some (3, σ1) else none
set_option maxRecDepth 100000 in
set_option maxHeartbeats 4000000 in
theorem tL_open {l : Launch} {z0 : Nat} {g : qG} {w : qWd} {ad : Nat → Nat} (hB : qBC g ad w) (hl : l.stackTraces = false) (p1 p2 : Int) (σ : qSt) : qCTH l yL_open cL_open 4 (some .int) [(0, 6, 9, 13), (0, 6, 12, 24), (0, 6, 15, 15)] (qrk 2 1 6) g z0 w [.ref (ad 0), .int (qI p1), .int (qI p2)] σ (fL_open p1 p2 σ) qri := by
  refine qCTH.of [(0, some (.ref (ad 0))), (1, some (.int (qI p1))), (2, some (.int (qI p2)))] (by decide +kernel) (Nat.le_of_ble_eq_true rfl) rfl ?_
  intro p e s m args below meth c cx htab
  unfold fL_open
  refine r_aload_n (pc := 0) cx dL_open_0 rfl ?_
  refine r_iload_n (pc := 1) cx dL_open_1 rfl ?_
  refine r_iload_n (pc := 2) cx dL_open_2 rfl ?_
  refine r_xv (pc := 3) cx (tX5_open hB hl p1 p2 σ) qm_X5_open qv_X5_open hcl_X5 (lw0 hB) wm_L_21 dL_open_3 rfl rfl (Nat.le_of_ble_eq_true rfl) ⟨Nat.le_of_ble_eq_true rfl, Nat.le_of_ble_eq_true rfl⟩ ⟨Nat.le_of_ble_eq_true rfl, Nat.le_of_ble_eq_true rfl⟩ (fun r σ1 => ?_) (fun v r σ1 E hE => ?_)
  · refine qS.eqF (if_pos rfl) ?_
    refine r_goto (pc := 6) (tgt := 18) cx dL_open_6 (by decide) ?_
    refine r_iconst (pc := 18) cx dL_open_18 ?_
    exact r_ireturn (pc := 19) (w0 := w) (mc := 1) (ms := 6) (fun _ _ h => h) (Nat.le_of_ble_eq_true rfl) (Nat.le_of_ble_eq_true rfl) cx dL_open_19 rfl
  · rcases qEn_cases hE with ⟨rfl, rfl⟩ | ⟨rfl, rfl⟩ | ⟨rfl, rfl⟩
    · refine Or.inr ⟨9, ⟨[], ⟨0, 6, 9, 13⟩, [⟨0, 6, 12, 24⟩, ⟨0, 6, 15, 15⟩], qE1, htab, (fun z hz => absurd hz List.not_mem_nil), by decide, by decide, wc_L_13, qcast_qE1, rfl⟩, fun q => ?_⟩
      refine qS.eqF (show _ = some (1, σ1) from rfl) ?_
      refine r_astore_n (pc := 9) cx dL_open_9 (by decide) rfl ?_
      refine r_iconst (pc := 10) cx dL_open_10 ?_
      exact r_ireturn (pc := 11) (w0 := w) (mc := 1) (ms := 6) (fun _ _ h => h) (Nat.le_of_ble_eq_true rfl) (Nat.le_of_ble_eq_true rfl) cx dL_open_11 rfl
    · refine Or.inr ⟨12, ⟨[(⟨0, 6, 9, 13⟩ : ExceptionTableEntry)], ⟨0, 6, 12, 24⟩, [⟨0, 6, 15, 15⟩], qE2, htab, (fun z hz => by rw [List.mem_singleton.mp hz]; exact Or.inr ⟨(by decide), _, wc_L_13, (qNc12 cx.2.2.2.2.1).2.2.1⟩), by decide, by decide, wc_L_24, qcast_qE2, rfl⟩, fun q => ?_⟩
      refine qS.eqF (show _ = some (2, σ1) from rfl) ?_
      refine r_astore_n (pc := 12) cx dL_open_12 (by decide) rfl ?_
      refine r_iconst (pc := 13) cx dL_open_13 ?_
      exact r_ireturn (pc := 14) (w0 := w) (mc := 1) (ms := 6) (fun _ _ h => h) (Nat.le_of_ble_eq_true rfl) (Nat.le_of_ble_eq_true rfl) cx dL_open_14 rfl
    · refine Or.inr ⟨15, ⟨[(⟨0, 6, 9, 13⟩ : ExceptionTableEntry), (⟨0, 6, 12, 24⟩ : ExceptionTableEntry)], ⟨0, 6, 15, 15⟩, [], qE3, htab, (qall2 (Or.inr ⟨(by decide), _, wc_L_13, (qNc12 cx.2.2.2.2.1).2.2.2.2.1⟩) (Or.inr ⟨(by decide), _, wc_L_24, (qNc12 cx.2.2.2.2.1).2.2.2.2.2⟩)), by decide, by decide, wc_L_15, qcast_qE3, rfl⟩, fun q => ?_⟩
      refine qS.eqF (show _ = some (3, σ1) from rfl) ?_
      refine r_astore_n (pc := 15) cx dL_open_15 (by decide) rfl ?_
      refine r_iconst (pc := 16) cx dL_open_16 ?_
      exact r_ireturn (pc := 17) (w0 := w) (mc := 1) (ms := 6) (fun _ _ h => h) (Nat.le_of_ble_eq_true rfl) (Nat.le_of_ble_eq_true rfl) cx dL_open_17 rfl
def fL_particle (p1 p2 : Int) (σ : qSt) : Option (Int × qSt) :=
  qbx (fX5_particle p1 p2 σ) fun (e : Int) (r : Int) (σ1 : qSt) => if e = 0 then (if 0 ≤ (0 : Int) ∧ (0 : Int) < 1 then qb (qset σ1 64 0 (qi2l r)) fun (σ2 : qSt) => some (0, σ2) else none) else if e = 1 then some (1, σ1) else if e = 2 then some (2, σ1) else if e = 3 then some (3, σ1) else none
set_option maxRecDepth 100000 in
set_option maxHeartbeats 4000000 in
theorem tL_particle {l : Launch} {z0 : Nat} {g : qG} {w : qWd} {ad : Nat → Nat} (hB : qBC g ad w) {ao : Nat} (hO : w 64 = some (ao, qAL (g.2 4) 1)) (hl : l.stackTraces = false) (p1 p2 : Int) (σ : qSt) : qCTH l yL_particle cL_particle 5 (some .int) [(0, 10, 13, 13), (0, 10, 17, 24), (0, 10, 21, 15)] (qrk 2 1 6) g z0 w [.ref (ad 0), .int (qI p1), .int (qI p2), .ref ao] σ (fL_particle p1 p2 σ) qri := by
  refine qCTH.of [(0, some (.ref (ad 0))), (1, some (.int (qI p1))), (2, some (.int (qI p2))), (3, some (.ref ao))] (by decide +kernel) (Nat.le_of_ble_eq_true rfl) rfl ?_
  intro p e s m args below meth c cx htab
  unfold fL_particle
  refine r_aload_n (pc := 0) cx dL_particle_0 rfl ?_
  refine r_iconst (pc := 1) cx dL_particle_1 ?_
  refine r_aload_n (pc := 2) cx dL_particle_2 rfl ?_
  refine r_iload_n (pc := 3) cx dL_particle_3 rfl ?_
  refine r_iload_n (pc := 4) cx dL_particle_4 rfl ?_
  refine r_xi (pc := 5) cx (tX5_particle hB hl p1 p2 σ) qm_X5_particle qv_X5_particle hcl_X5 (lw0 hB) wm_L_26 dL_particle_5 rfl rfl (Nat.le_of_ble_eq_true rfl) ⟨Nat.le_of_ble_eq_true rfl, Nat.le_of_ble_eq_true rfl⟩ ⟨Nat.le_of_ble_eq_true rfl, Nat.le_of_ble_eq_true rfl⟩ (fun r σ1 => ?_) (fun v r σ1 E hE => ?_)
  · refine qS.eqF (if_pos rfl) ?_
    refine r_i2l (pc := 8) cx dL_particle_8 ?_
    refine r_lastore (pc := 9) cx hO rfl (by decide) dL_particle_9 (fun σ2 => ?_)
    refine r_goto (pc := 10) (tgt := 25) cx dL_particle_10 (by decide) ?_
    refine r_iconst (pc := 25) cx dL_particle_25 ?_
    exact r_ireturn (pc := 26) (w0 := w) (mc := 1) (ms := 6) (fun _ _ h => h) (Nat.le_of_ble_eq_true rfl) (Nat.le_of_ble_eq_true rfl) cx dL_particle_26 rfl
  · rcases qEn_cases hE with ⟨rfl, rfl⟩ | ⟨rfl, rfl⟩ | ⟨rfl, rfl⟩
    · refine Or.inr ⟨13, ⟨[], ⟨0, 10, 13, 13⟩, [⟨0, 10, 17, 24⟩, ⟨0, 10, 21, 15⟩], qE1, htab, (fun z hz => absurd hz List.not_mem_nil), by decide, by decide, wc_L_13, qcast_qE1, rfl⟩, fun q => ?_⟩
      refine qS.eqF (show _ = some (1, σ1) from rfl) ?_
      refine r_astore (pc := 13) cx dL_particle_13 (by decide) rfl ?_
      refine r_iconst (pc := 15) cx dL_particle_15 ?_
      exact r_ireturn (pc := 16) (w0 := w) (mc := 1) (ms := 6) (fun _ _ h => h) (Nat.le_of_ble_eq_true rfl) (Nat.le_of_ble_eq_true rfl) cx dL_particle_16 rfl
    · refine Or.inr ⟨17, ⟨[(⟨0, 10, 13, 13⟩ : ExceptionTableEntry)], ⟨0, 10, 17, 24⟩, [⟨0, 10, 21, 15⟩], qE2, htab, (fun z hz => by rw [List.mem_singleton.mp hz]; exact Or.inr ⟨(by decide), _, wc_L_13, (qNc12 cx.2.2.2.2.1).2.2.1⟩), by decide, by decide, wc_L_24, qcast_qE2, rfl⟩, fun q => ?_⟩
      refine qS.eqF (show _ = some (2, σ1) from rfl) ?_
      refine r_astore (pc := 17) cx dL_particle_17 (by decide) rfl ?_
      refine r_iconst (pc := 19) cx dL_particle_19 ?_
      exact r_ireturn (pc := 20) (w0 := w) (mc := 1) (ms := 6) (fun _ _ h => h) (Nat.le_of_ble_eq_true rfl) (Nat.le_of_ble_eq_true rfl) cx dL_particle_20 rfl
    · refine Or.inr ⟨21, ⟨[(⟨0, 10, 13, 13⟩ : ExceptionTableEntry), (⟨0, 10, 17, 24⟩ : ExceptionTableEntry)], ⟨0, 10, 21, 15⟩, [], qE3, htab, (qall2 (Or.inr ⟨(by decide), _, wc_L_13, (qNc12 cx.2.2.2.2.1).2.2.2.2.1⟩) (Or.inr ⟨(by decide), _, wc_L_24, (qNc12 cx.2.2.2.2.1).2.2.2.2.2⟩)), by decide, by decide, wc_L_15, qcast_qE3, rfl⟩, fun q => ?_⟩
      refine qS.eqF (show _ = some (3, σ1) from rfl) ?_
      refine r_astore (pc := 21) cx dL_particle_21 (by decide) rfl ?_
      refine r_iconst (pc := 23) cx dL_particle_23 ?_
      exact r_ireturn (pc := 24) (w0 := w) (mc := 1) (ms := 6) (fun _ _ h => h) (Nat.le_of_ble_eq_true rfl) (Nat.le_of_ble_eq_true rfl) cx dL_particle_24 rfl
def fL_ink (p1 : Int) (σ : qSt) : Option (Int × qSt) :=
  qbx (fX5_ink p1 σ) fun (e : Int) (r : Int) (σ1 : qSt) => if e = 0 then (if 0 ≤ (0 : Int) ∧ (0 : Int) < 1 then qb (qset σ1 64 0 (qi2l r)) fun (σ2 : qSt) => some (0, σ2) else none) else if e = 1 then some (1, σ1) else if e = 2 then none else if e = 3 then none else none
set_option maxRecDepth 100000 in
set_option maxHeartbeats 4000000 in
theorem tL_ink {l : Launch} {z0 : Nat} {g : qG} {w : qWd} {ad : Nat → Nat} (hB : qBC g ad w) {ao : Nat} (hO : w 64 = some (ao, qAL (g.2 4) 1)) (hl : l.stackTraces = false) (p1 : Int) (σ : qSt) : qCTH l yL_ink cL_ink 4 (some .int) [(0, 9, 12, 13)] (qrk 2 1 6) g z0 w [.ref (ad 0), .int (qI p1), .ref ao] σ (fL_ink p1 σ) qri := by
  refine qCTH.of [(0, some (.ref (ad 0))), (1, some (.int (qI p1))), (2, some (.ref ao))] (by decide +kernel) (Nat.le_of_ble_eq_true rfl) rfl ?_
  intro p e s m args below meth c cx htab
  unfold fL_ink
  refine r_aload_n (pc := 0) cx dL_ink_0 rfl ?_
  refine r_iconst (pc := 1) cx dL_ink_1 ?_
  refine r_aload_n (pc := 2) cx dL_ink_2 rfl ?_
  refine r_iload_n (pc := 3) cx dL_ink_3 rfl ?_
  refine r_xi (pc := 4) cx (tX5_ink hB hl p1 σ) qm_X5_ink qv_X5_ink hcl_X5 (lw0 hB) wm_L_30 dL_ink_4 rfl rfl (Nat.le_of_ble_eq_true rfl) ⟨Nat.le_of_ble_eq_true rfl, Nat.le_of_ble_eq_true rfl⟩ ⟨Nat.le_of_ble_eq_true rfl, Nat.le_of_ble_eq_true rfl⟩ (fun r σ1 => ?_) (fun v r σ1 E hE => ?_)
  · refine qS.eqF (if_pos rfl) ?_
    refine r_i2l (pc := 7) cx dL_ink_7 ?_
    refine r_lastore (pc := 8) cx hO rfl (by decide) dL_ink_8 (fun σ2 => ?_)
    refine r_goto (pc := 9) (tgt := 15) cx dL_ink_9 (by decide) ?_
    refine r_iconst (pc := 15) cx dL_ink_15 ?_
    exact r_ireturn (pc := 16) (w0 := w) (mc := 1) (ms := 6) (fun _ _ h => h) (Nat.le_of_ble_eq_true rfl) (Nat.le_of_ble_eq_true rfl) cx dL_ink_16 rfl
  · rcases qEn_cases hE with ⟨rfl, rfl⟩ | ⟨rfl, rfl⟩ | ⟨rfl, rfl⟩
    · refine Or.inr ⟨12, ⟨[], ⟨0, 9, 12, 13⟩, [], qE1, htab, (fun z hz => absurd hz List.not_mem_nil), by decide, by decide, wc_L_13, qcast_qE1, rfl⟩, fun q => ?_⟩
      refine qS.eqF (show _ = some (1, σ1) from rfl) ?_
      refine r_astore_n (pc := 12) cx dL_ink_12 (by decide) rfl ?_
      refine r_iconst (pc := 13) cx dL_ink_13 ?_
      exact r_ireturn (pc := 14) (w0 := w) (mc := 1) (ms := 6) (fun _ _ h => h) (Nat.le_of_ble_eq_true rfl) (Nat.le_of_ble_eq_true rfl) cx dL_ink_14 rfl
    · exact Or.inl rfl
    · exact Or.inl rfl
def fL_probe (p1 : Int) (σ : qSt) : Option (Int × qSt) :=
  qbx (fX5_probe p1 σ) fun (e : Int) (r : Int) (σ1 : qSt) => if e = 0 then (if 0 ≤ (0 : Int) ∧ (0 : Int) < 1 then qb (qset σ1 64 0 (qi2l r)) fun (σ2 : qSt) => some (0, σ2) else none) else if e = 1 then some (1, σ1) else if e = 2 then none else if e = 3 then some (2, σ1) else none
set_option maxRecDepth 100000 in
set_option maxHeartbeats 4000000 in
theorem tL_probe {l : Launch} {z0 : Nat} {g : qG} {w : qWd} {ad : Nat → Nat} (hB : qBC g ad w) {ao : Nat} (hO : w 64 = some (ao, qAL (g.2 4) 1)) (hl : l.stackTraces = false) (p1 : Int) (σ : qSt) : qCTH l yL_probe cL_probe 4 (some .int) [(0, 9, 12, 13), (0, 9, 15, 15)] (qrk 2 1 6) g z0 w [.ref (ad 0), .int (qI p1), .ref ao] σ (fL_probe p1 σ) qri := by
  refine qCTH.of [(0, some (.ref (ad 0))), (1, some (.int (qI p1))), (2, some (.ref ao))] (by decide +kernel) (Nat.le_of_ble_eq_true rfl) rfl ?_
  intro p e s m args below meth c cx htab
  unfold fL_probe
  refine r_aload_n (pc := 0) cx dL_probe_0 rfl ?_
  refine r_iconst (pc := 1) cx dL_probe_1 ?_
  refine r_aload_n (pc := 2) cx dL_probe_2 rfl ?_
  refine r_iload_n (pc := 3) cx dL_probe_3 rfl ?_
  refine r_xi (pc := 4) cx (tX5_probe hB hl p1 σ) qm_X5_probe qv_X5_probe hcl_X5 (lw0 hB) wm_L_33 dL_probe_4 rfl rfl (Nat.le_of_ble_eq_true rfl) ⟨Nat.le_of_ble_eq_true rfl, Nat.le_of_ble_eq_true rfl⟩ ⟨Nat.le_of_ble_eq_true rfl, Nat.le_of_ble_eq_true rfl⟩ (fun r σ1 => ?_) (fun v r σ1 E hE => ?_)
  · refine qS.eqF (if_pos rfl) ?_
    refine r_i2l (pc := 7) cx dL_probe_7 ?_
    refine r_lastore (pc := 8) cx hO rfl (by decide) dL_probe_8 (fun σ2 => ?_)
    refine r_goto (pc := 9) (tgt := 18) cx dL_probe_9 (by decide) ?_
    refine r_iconst (pc := 18) cx dL_probe_18 ?_
    exact r_ireturn (pc := 19) (w0 := w) (mc := 1) (ms := 6) (fun _ _ h => h) (Nat.le_of_ble_eq_true rfl) (Nat.le_of_ble_eq_true rfl) cx dL_probe_19 rfl
  · rcases qEn_cases hE with ⟨rfl, rfl⟩ | ⟨rfl, rfl⟩ | ⟨rfl, rfl⟩
    · refine Or.inr ⟨12, ⟨[], ⟨0, 9, 12, 13⟩, [⟨0, 9, 15, 15⟩], qE1, htab, (fun z hz => absurd hz List.not_mem_nil), by decide, by decide, wc_L_13, qcast_qE1, rfl⟩, fun q => ?_⟩
      refine qS.eqF (show _ = some (1, σ1) from rfl) ?_
      refine r_astore_n (pc := 12) cx dL_probe_12 (by decide) rfl ?_
      refine r_iconst (pc := 13) cx dL_probe_13 ?_
      exact r_ireturn (pc := 14) (w0 := w) (mc := 1) (ms := 6) (fun _ _ h => h) (Nat.le_of_ble_eq_true rfl) (Nat.le_of_ble_eq_true rfl) cx dL_probe_14 rfl
    · exact Or.inl rfl
    · refine Or.inr ⟨15, ⟨[(⟨0, 9, 12, 13⟩ : ExceptionTableEntry)], ⟨0, 9, 15, 15⟩, [], qE3, htab, (fun z hz => by rw [List.mem_singleton.mp hz]; exact Or.inr ⟨(by decide), _, wc_L_13, (qNc12 cx.2.2.2.2.1).2.2.2.2.1⟩), by decide, by decide, wc_L_15, qcast_qE3, rfl⟩, fun q => ?_⟩
      refine qS.eqF (show _ = some (2, σ1) from rfl) ?_
      refine r_astore_n (pc := 15) cx dL_probe_15 (by decide) rfl ?_
      refine r_iconst (pc := 16) cx dL_probe_16 ?_
      exact r_ireturn (pc := 17) (w0 := w) (mc := 1) (ms := 6) (fun _ _ h => h) (Nat.le_of_ble_eq_true rfl) (Nat.le_of_ble_eq_true rfl) cx dL_probe_17 rfl
def fL_fault (p1 p2 : Int) (σ : qSt) : Option (Int × qSt) :=
  qbx (fX5_fault p1 p2 σ) fun (e : Int) (r : Int) (σ1 : qSt) => if e = 0 then (if 0 ≤ (0 : Int) ∧ (0 : Int) < 1 then qb (qset σ1 64 0 (qi2l r)) fun (σ2 : qSt) => some (0, σ2) else none) else if e = 1 then some (1, σ1) else if e = 2 then some (2, σ1) else if e = 3 then none else none
set_option maxRecDepth 100000 in
set_option maxHeartbeats 4000000 in
theorem tL_fault {l : Launch} {z0 : Nat} {g : qG} {w : qWd} {ad : Nat → Nat} (hB : qBC g ad w) {ao : Nat} (hO : w 64 = some (ao, qAL (g.2 4) 1)) (hl : l.stackTraces = false) (p1 p2 : Int) (σ : qSt) : qCTH l yL_fault cL_fault 5 (some .int) [(0, 10, 13, 13), (0, 10, 17, 24)] (qrk 2 1 6) g z0 w [.ref (ad 0), .int (qI p1), .int (qI p2), .ref ao] σ (fL_fault p1 p2 σ) qri := by
  refine qCTH.of [(0, some (.ref (ad 0))), (1, some (.int (qI p1))), (2, some (.int (qI p2))), (3, some (.ref ao))] (by decide +kernel) (Nat.le_of_ble_eq_true rfl) rfl ?_
  intro p e s m args below meth c cx htab
  unfold fL_fault
  refine r_aload_n (pc := 0) cx dL_fault_0 rfl ?_
  refine r_iconst (pc := 1) cx dL_fault_1 ?_
  refine r_aload_n (pc := 2) cx dL_fault_2 rfl ?_
  refine r_iload_n (pc := 3) cx dL_fault_3 rfl ?_
  refine r_iload_n (pc := 4) cx dL_fault_4 rfl ?_
  refine r_xi (pc := 5) cx (tX5_fault hB hl p1 p2 σ) qm_X5_fault qv_X5_fault hcl_X5 (lw0 hB) wm_L_36 dL_fault_5 rfl rfl (Nat.le_of_ble_eq_true rfl) ⟨Nat.le_of_ble_eq_true rfl, Nat.le_of_ble_eq_true rfl⟩ ⟨Nat.le_of_ble_eq_true rfl, Nat.le_of_ble_eq_true rfl⟩ (fun r σ1 => ?_) (fun v r σ1 E hE => ?_)
  · refine qS.eqF (if_pos rfl) ?_
    refine r_i2l (pc := 8) cx dL_fault_8 ?_
    refine r_lastore (pc := 9) cx hO rfl (by decide) dL_fault_9 (fun σ2 => ?_)
    refine r_goto (pc := 10) (tgt := 21) cx dL_fault_10 (by decide) ?_
    refine r_iconst (pc := 21) cx dL_fault_21 ?_
    exact r_ireturn (pc := 22) (w0 := w) (mc := 1) (ms := 6) (fun _ _ h => h) (Nat.le_of_ble_eq_true rfl) (Nat.le_of_ble_eq_true rfl) cx dL_fault_22 rfl
  · rcases qEn_cases hE with ⟨rfl, rfl⟩ | ⟨rfl, rfl⟩ | ⟨rfl, rfl⟩
    · refine Or.inr ⟨13, ⟨[], ⟨0, 10, 13, 13⟩, [⟨0, 10, 17, 24⟩], qE1, htab, (fun z hz => absurd hz List.not_mem_nil), by decide, by decide, wc_L_13, qcast_qE1, rfl⟩, fun q => ?_⟩
      refine qS.eqF (show _ = some (1, σ1) from rfl) ?_
      refine r_astore (pc := 13) cx dL_fault_13 (by decide) rfl ?_
      refine r_iconst (pc := 15) cx dL_fault_15 ?_
      exact r_ireturn (pc := 16) (w0 := w) (mc := 1) (ms := 6) (fun _ _ h => h) (Nat.le_of_ble_eq_true rfl) (Nat.le_of_ble_eq_true rfl) cx dL_fault_16 rfl
    · refine Or.inr ⟨17, ⟨[(⟨0, 10, 13, 13⟩ : ExceptionTableEntry)], ⟨0, 10, 17, 24⟩, [], qE2, htab, (fun z hz => by rw [List.mem_singleton.mp hz]; exact Or.inr ⟨(by decide), _, wc_L_13, (qNc12 cx.2.2.2.2.1).2.2.1⟩), by decide, by decide, wc_L_24, qcast_qE2, rfl⟩, fun q => ?_⟩
      refine qS.eqF (show _ = some (2, σ1) from rfl) ?_
      refine r_astore (pc := 17) cx dL_fault_17 (by decide) rfl ?_
      refine r_iconst (pc := 19) cx dL_fault_19 ?_
      exact r_ireturn (pc := 20) (w0 := w) (mc := 1) (ms := 6) (fun _ _ h => h) (Nat.le_of_ble_eq_true rfl) (Nat.le_of_ble_eq_true rfl) cx dL_fault_20 rfl
    · exact Or.inl rfl
def fL_bring (p1 p2 p3 : Int) (σ : qSt) : Option (Int × qSt) :=
  qbx (fX5_bring p1 p2 p3 σ) fun (e : Int) (r : Int) (σ1 : qSt) => if e = 0 then (if 0 ≤ (0 : Int) ∧ (0 : Int) < 1 then qb (qset σ1 64 0 (qi2l r)) fun (σ2 : qSt) => some (0, σ2) else none) else if e = 1 then some (1, σ1) else if e = 2 then some (2, σ1) else if e = 3 then some (3, σ1) else none
set_option maxRecDepth 100000 in
set_option maxHeartbeats 4000000 in
theorem tL_bring {l : Launch} {z0 : Nat} {g : qG} {w : qWd} {ad : Nat → Nat} (hB : qBC g ad w) {ao : Nat} (hO : w 64 = some (ao, qAL (g.2 4) 1)) (hl : l.stackTraces = false) (p1 p2 p3 : Int) (σ : qSt) : qCTH l yL_bring cL_bring 6 (some .int) [(0, 12, 15, 13), (0, 12, 19, 24), (0, 12, 23, 15)] (qrk 2 1 6) g z0 w [.ref (ad 0), .int (qI p1), .int (qI p2), .int (qI p3), .ref ao] σ (fL_bring p1 p2 p3 σ) qri := by
  refine qCTH.of [(0, some (.ref (ad 0))), (1, some (.int (qI p1))), (2, some (.int (qI p2))), (3, some (.int (qI p3))), (4, some (.ref ao))] (by decide +kernel) (Nat.le_of_ble_eq_true rfl) rfl ?_
  intro p e s m args below meth c cx htab
  unfold fL_bring
  refine r_aload (pc := 0) cx dL_bring_0 rfl ?_
  refine r_iconst (pc := 2) cx dL_bring_2 ?_
  refine r_aload_n (pc := 3) cx dL_bring_3 rfl ?_
  refine r_iload_n (pc := 4) cx dL_bring_4 rfl ?_
  refine r_iload_n (pc := 5) cx dL_bring_5 rfl ?_
  refine r_iload_n (pc := 6) cx dL_bring_6 rfl ?_
  refine r_xi (pc := 7) cx (tX5_bring hB hl p1 p2 p3 σ) qm_X5_bring qv_X5_bring hcl_X5 (lw0 hB) wm_L_39 dL_bring_7 rfl rfl (Nat.le_of_ble_eq_true rfl) ⟨Nat.le_of_ble_eq_true rfl, Nat.le_of_ble_eq_true rfl⟩ ⟨Nat.le_of_ble_eq_true rfl, Nat.le_of_ble_eq_true rfl⟩ (fun r σ1 => ?_) (fun v r σ1 E hE => ?_)
  · refine qS.eqF (if_pos rfl) ?_
    refine r_i2l (pc := 10) cx dL_bring_10 ?_
    refine r_lastore (pc := 11) cx hO rfl (by decide) dL_bring_11 (fun σ2 => ?_)
    refine r_goto (pc := 12) (tgt := 27) cx dL_bring_12 (by decide) ?_
    refine r_iconst (pc := 27) cx dL_bring_27 ?_
    exact r_ireturn (pc := 28) (w0 := w) (mc := 1) (ms := 6) (fun _ _ h => h) (Nat.le_of_ble_eq_true rfl) (Nat.le_of_ble_eq_true rfl) cx dL_bring_28 rfl
  · rcases qEn_cases hE with ⟨rfl, rfl⟩ | ⟨rfl, rfl⟩ | ⟨rfl, rfl⟩
    · refine Or.inr ⟨15, ⟨[], ⟨0, 12, 15, 13⟩, [⟨0, 12, 19, 24⟩, ⟨0, 12, 23, 15⟩], qE1, htab, (fun z hz => absurd hz List.not_mem_nil), by decide, by decide, wc_L_13, qcast_qE1, rfl⟩, fun q => ?_⟩
      refine qS.eqF (show _ = some (1, σ1) from rfl) ?_
      refine r_astore (pc := 15) cx dL_bring_15 (by decide) rfl ?_
      refine r_iconst (pc := 17) cx dL_bring_17 ?_
      exact r_ireturn (pc := 18) (w0 := w) (mc := 1) (ms := 6) (fun _ _ h => h) (Nat.le_of_ble_eq_true rfl) (Nat.le_of_ble_eq_true rfl) cx dL_bring_18 rfl
    · refine Or.inr ⟨19, ⟨[(⟨0, 12, 15, 13⟩ : ExceptionTableEntry)], ⟨0, 12, 19, 24⟩, [⟨0, 12, 23, 15⟩], qE2, htab, (fun z hz => by rw [List.mem_singleton.mp hz]; exact Or.inr ⟨(by decide), _, wc_L_13, (qNc12 cx.2.2.2.2.1).2.2.1⟩), by decide, by decide, wc_L_24, qcast_qE2, rfl⟩, fun q => ?_⟩
      refine qS.eqF (show _ = some (2, σ1) from rfl) ?_
      refine r_astore (pc := 19) cx dL_bring_19 (by decide) rfl ?_
      refine r_iconst (pc := 21) cx dL_bring_21 ?_
      exact r_ireturn (pc := 22) (w0 := w) (mc := 1) (ms := 6) (fun _ _ h => h) (Nat.le_of_ble_eq_true rfl) (Nat.le_of_ble_eq_true rfl) cx dL_bring_22 rfl
    · refine Or.inr ⟨23, ⟨[(⟨0, 12, 15, 13⟩ : ExceptionTableEntry), (⟨0, 12, 19, 24⟩ : ExceptionTableEntry)], ⟨0, 12, 23, 15⟩, [], qE3, htab, (qall2 (Or.inr ⟨(by decide), _, wc_L_13, (qNc12 cx.2.2.2.2.1).2.2.2.2.1⟩) (Or.inr ⟨(by decide), _, wc_L_24, (qNc12 cx.2.2.2.2.1).2.2.2.2.2⟩)), by decide, by decide, wc_L_15, qcast_qE3, rfl⟩, fun q => ?_⟩
      refine qS.eqF (show _ = some (3, σ1) from rfl) ?_
      refine r_astore (pc := 23) cx dL_bring_23 (by decide) rfl ?_
      refine r_iconst (pc := 25) cx dL_bring_25 ?_
      exact r_ireturn (pc := 26) (w0 := w) (mc := 1) (ms := 6) (fun _ _ h => h) (Nat.le_of_ble_eq_true rfl) (Nat.le_of_ble_eq_true rfl) cx dL_bring_26 rfl
def fL_step (p1 : Int) (σ : qSt) : Option (Int × qSt) :=
  qbx (fX5_step p1 σ) fun (e : Int) (r : Int) (σ1 : qSt) => if e = 0 then (if 0 ≤ (0 : Int) ∧ (0 : Int) < 1 then qb (qset σ1 64 0 (qi2l r)) fun (σ2 : qSt) => some (0, σ2) else none) else if e = 1 then none else if e = 2 then some (1, σ1) else if e = 3 then some (2, σ1) else none
set_option maxRecDepth 100000 in
set_option maxHeartbeats 4000000 in
theorem tL_step {l : Launch} {z0 : Nat} {g : qG} {w : qWd} {ad : Nat → Nat} (hB : qBC g ad w) {ao : Nat} (hO : w 64 = some (ao, qAL (g.2 4) 1)) (hl : l.stackTraces = false) (p1 : Int) (σ : qSt) : qCTH l yL_step cL_step 4 (some .int) [(0, 9, 12, 24), (0, 9, 15, 15)] (qrk 6 1 6) g z0 w [.ref (ad 0), .int (qI p1), .ref ao] σ (fL_step p1 σ) qri := by
  refine qCTH.of [(0, some (.ref (ad 0))), (1, some (.int (qI p1))), (2, some (.ref ao))] (by decide +kernel) (Nat.le_of_ble_eq_true rfl) rfl ?_
  intro p e s m args below meth c cx htab
  unfold fL_step
  refine r_aload_n (pc := 0) cx dL_step_0 rfl ?_
  refine r_iconst (pc := 1) cx dL_step_1 ?_
  refine r_aload_n (pc := 2) cx dL_step_2 rfl ?_
  refine r_iload_n (pc := 3) cx dL_step_3 rfl ?_
  refine r_xi (pc := 4) cx (tX5_step hB hl p1 σ) qm_X5_step qv_X5_step hcl_X5 (lw0 hB) wm_L_43 dL_step_4 rfl rfl (Nat.le_of_ble_eq_true rfl) ⟨Nat.le_of_ble_eq_true rfl, Nat.le_of_ble_eq_true rfl⟩ ⟨Nat.le_of_ble_eq_true rfl, Nat.le_of_ble_eq_true rfl⟩ (fun r σ1 => ?_) (fun v r σ1 E hE => ?_)
  · refine qS.eqF (if_pos rfl) ?_
    refine r_i2l (pc := 7) cx dL_step_7 ?_
    refine r_lastore (pc := 8) cx hO rfl (by decide) dL_step_8 (fun σ2 => ?_)
    refine r_goto (pc := 9) (tgt := 18) cx dL_step_9 (by decide) ?_
    refine r_iconst (pc := 18) cx dL_step_18 ?_
    exact r_ireturn (pc := 19) (w0 := w) (mc := 1) (ms := 6) (fun _ _ h => h) (Nat.le_of_ble_eq_true rfl) (Nat.le_of_ble_eq_true rfl) cx dL_step_19 rfl
  · rcases qEn_cases hE with ⟨rfl, rfl⟩ | ⟨rfl, rfl⟩ | ⟨rfl, rfl⟩
    · exact Or.inl rfl
    · refine Or.inr ⟨12, ⟨[], ⟨0, 9, 12, 24⟩, [⟨0, 9, 15, 15⟩], qE2, htab, (fun z hz => absurd hz List.not_mem_nil), by decide, by decide, wc_L_24, qcast_qE2, rfl⟩, fun q => ?_⟩
      refine qS.eqF (show _ = some (1, σ1) from rfl) ?_
      refine r_astore_n (pc := 12) cx dL_step_12 (by decide) rfl ?_
      refine r_iconst (pc := 13) cx dL_step_13 ?_
      exact r_ireturn (pc := 14) (w0 := w) (mc := 1) (ms := 6) (fun _ _ h => h) (Nat.le_of_ble_eq_true rfl) (Nat.le_of_ble_eq_true rfl) cx dL_step_14 rfl
    · refine Or.inr ⟨15, ⟨[(⟨0, 9, 12, 24⟩ : ExceptionTableEntry)], ⟨0, 9, 15, 15⟩, [], qE3, htab, (fun z hz => by rw [List.mem_singleton.mp hz]; exact Or.inr ⟨(by decide), _, wc_L_24, (qNc12 cx.2.2.2.2.1).2.2.2.2.2⟩), by decide, by decide, wc_L_15, qcast_qE3, rfl⟩, fun q => ?_⟩
      refine qS.eqF (show _ = some (2, σ1) from rfl) ?_
      refine r_astore_n (pc := 15) cx dL_step_15 (by decide) rfl ?_
      refine r_iconst (pc := 16) cx dL_step_16 ?_
      exact r_ireturn (pc := 17) (w0 := w) (mc := 1) (ms := 6) (fun _ _ h => h) (Nat.le_of_ble_eq_true rfl) (Nat.le_of_ble_eq_true rfl) cx dL_step_17 rfl
def fL_back (p1 : Int) (σ : qSt) : Option (Int × qSt) :=
  qbx (fX5_back p1 σ) fun (e : Int) (r : Int) (σ1 : qSt) => if e = 0 then (if 0 ≤ (0 : Int) ∧ (0 : Int) < 1 then qb (qset σ1 64 0 (qi2l r)) fun (σ2 : qSt) => some (0, σ2) else none) else if e = 1 then none else if e = 2 then some (1, σ1) else if e = 3 then some (2, σ1) else none
set_option maxRecDepth 100000 in
set_option maxHeartbeats 4000000 in
theorem tL_back {l : Launch} {z0 : Nat} {g : qG} {w : qWd} {ad : Nat → Nat} (hB : qBC g ad w) {ao : Nat} (hO : w 64 = some (ao, qAL (g.2 4) 1)) (hl : l.stackTraces = false) (p1 : Int) (σ : qSt) : qCTH l yL_back cL_back 4 (some .int) [(0, 9, 12, 24), (0, 9, 15, 15)] (qrk 6 1 6) g z0 w [.ref (ad 0), .int (qI p1), .ref ao] σ (fL_back p1 σ) qri := by
  refine qCTH.of [(0, some (.ref (ad 0))), (1, some (.int (qI p1))), (2, some (.ref ao))] (by decide +kernel) (Nat.le_of_ble_eq_true rfl) rfl ?_
  intro p e s m args below meth c cx htab
  unfold fL_back
  refine r_aload_n (pc := 0) cx dL_back_0 rfl ?_
  refine r_iconst (pc := 1) cx dL_back_1 ?_
  refine r_aload_n (pc := 2) cx dL_back_2 rfl ?_
  refine r_iload_n (pc := 3) cx dL_back_3 rfl ?_
  refine r_xi (pc := 4) cx (tX5_back hB hl p1 σ) qm_X5_back qv_X5_back hcl_X5 (lw0 hB) wm_L_46 dL_back_4 rfl rfl (Nat.le_of_ble_eq_true rfl) ⟨Nat.le_of_ble_eq_true rfl, Nat.le_of_ble_eq_true rfl⟩ ⟨Nat.le_of_ble_eq_true rfl, Nat.le_of_ble_eq_true rfl⟩ (fun r σ1 => ?_) (fun v r σ1 E hE => ?_)
  · refine qS.eqF (if_pos rfl) ?_
    refine r_i2l (pc := 7) cx dL_back_7 ?_
    refine r_lastore (pc := 8) cx hO rfl (by decide) dL_back_8 (fun σ2 => ?_)
    refine r_goto (pc := 9) (tgt := 18) cx dL_back_9 (by decide) ?_
    refine r_iconst (pc := 18) cx dL_back_18 ?_
    exact r_ireturn (pc := 19) (w0 := w) (mc := 1) (ms := 6) (fun _ _ h => h) (Nat.le_of_ble_eq_true rfl) (Nat.le_of_ble_eq_true rfl) cx dL_back_19 rfl
  · rcases qEn_cases hE with ⟨rfl, rfl⟩ | ⟨rfl, rfl⟩ | ⟨rfl, rfl⟩
    · exact Or.inl rfl
    · refine Or.inr ⟨12, ⟨[], ⟨0, 9, 12, 24⟩, [⟨0, 9, 15, 15⟩], qE2, htab, (fun z hz => absurd hz List.not_mem_nil), by decide, by decide, wc_L_24, qcast_qE2, rfl⟩, fun q => ?_⟩
      refine qS.eqF (show _ = some (1, σ1) from rfl) ?_
      refine r_astore_n (pc := 12) cx dL_back_12 (by decide) rfl ?_
      refine r_iconst (pc := 13) cx dL_back_13 ?_
      exact r_ireturn (pc := 14) (w0 := w) (mc := 1) (ms := 6) (fun _ _ h => h) (Nat.le_of_ble_eq_true rfl) (Nat.le_of_ble_eq_true rfl) cx dL_back_14 rfl
    · refine Or.inr ⟨15, ⟨[(⟨0, 9, 12, 24⟩ : ExceptionTableEntry)], ⟨0, 9, 15, 15⟩, [], qE3, htab, (fun z hz => by rw [List.mem_singleton.mp hz]; exact Or.inr ⟨(by decide), _, wc_L_24, (qNc12 cx.2.2.2.2.1).2.2.2.2.2⟩), by decide, by decide, wc_L_15, qcast_qE3, rfl⟩, fun q => ?_⟩
      refine qS.eqF (show _ = some (2, σ1) from rfl) ?_
      refine r_astore_n (pc := 15) cx dL_back_15 (by decide) rfl ?_
      refine r_iconst (pc := 16) cx dL_back_16 ?_
      exact r_ireturn (pc := 17) (w0 := w) (mc := 1) (ms := 6) (fun _ _ h => h) (Nat.le_of_ble_eq_true rfl) (Nat.le_of_ble_eq_true rfl) cx dL_back_17 rfl
def fL_flow (p1 : Int) (σ : qSt) : Option (Int × qSt) :=
  qbx (fX5_flow p1 σ) fun (e : Int) (r : Int) (σ1 : qSt) => if e = 0 then (if 0 ≤ (0 : Int) ∧ (0 : Int) < 1 then qb (qset σ1 64 0 r) fun (σ2 : qSt) => some (0, σ2) else none) else if e = 1 then none else if e = 2 then some (1, σ1) else if e = 3 then none else none
set_option maxRecDepth 100000 in
set_option maxHeartbeats 4000000 in
theorem tL_flow {l : Launch} {z0 : Nat} {g : qG} {w : qWd} {ad : Nat → Nat} (hB : qBC g ad w) {ao : Nat} (hO : w 64 = some (ao, qAL (g.2 4) 1)) (hl : l.stackTraces = false) (p1 : Int) (σ : qSt) : qCTH l yL_flow cL_flow 4 (some .int) [(0, 8, 11, 24)] (qrk 5 1 6) g z0 w [.ref (ad 0), .int (qI p1), .ref ao] σ (fL_flow p1 σ) qri := by
  refine qCTH.of [(0, some (.ref (ad 0))), (1, some (.int (qI p1))), (2, some (.ref ao))] (by decide +kernel) (Nat.le_of_ble_eq_true rfl) rfl ?_
  intro p e s m args below meth c cx htab
  unfold fL_flow
  refine r_aload_n (pc := 0) cx dL_flow_0 rfl ?_
  refine r_iconst (pc := 1) cx dL_flow_1 ?_
  refine r_aload_n (pc := 2) cx dL_flow_2 rfl ?_
  refine r_iload_n (pc := 3) cx dL_flow_3 rfl ?_
  refine r_xj (pc := 4) cx (tX5_flow hB hl p1 σ) qm_X5_flow qv_X5_flow hcl_X5 (lw0 hB) wm_L_49 dL_flow_4 rfl rfl (Nat.le_of_ble_eq_true rfl) ⟨Nat.le_of_ble_eq_true rfl, Nat.le_of_ble_eq_true rfl⟩ ⟨Nat.le_of_ble_eq_true rfl, Nat.le_of_ble_eq_true rfl⟩ (fun r σ1 => ?_) (fun v r σ1 E hE => ?_)
  · refine qS.eqF (if_pos rfl) ?_
    refine r_lastore (pc := 7) cx hO rfl (by decide) dL_flow_7 (fun σ2 => ?_)
    refine r_goto (pc := 8) (tgt := 14) cx dL_flow_8 (by decide) ?_
    refine r_iconst (pc := 14) cx dL_flow_14 ?_
    exact r_ireturn (pc := 15) (w0 := w) (mc := 1) (ms := 6) (fun _ _ h => h) (Nat.le_of_ble_eq_true rfl) (Nat.le_of_ble_eq_true rfl) cx dL_flow_15 rfl
  · rcases qEn_cases hE with ⟨rfl, rfl⟩ | ⟨rfl, rfl⟩ | ⟨rfl, rfl⟩
    · exact Or.inl rfl
    · refine Or.inr ⟨11, ⟨[], ⟨0, 8, 11, 24⟩, [], qE2, htab, (fun z hz => absurd hz List.not_mem_nil), by decide, by decide, wc_L_24, qcast_qE2, rfl⟩, fun q => ?_⟩
      refine qS.eqF (show _ = some (1, σ1) from rfl) ?_
      refine r_astore_n (pc := 11) cx dL_flow_11 (by decide) rfl ?_
      refine r_iconst (pc := 12) cx dL_flow_12 ?_
      exact r_ireturn (pc := 13) (w0 := w) (mc := 1) (ms := 6) (fun _ _ h => h) (Nat.le_of_ble_eq_true rfl) (Nat.le_of_ble_eq_true rfl) cx dL_flow_13 rfl
    · exact Or.inl rfl
def fL_cellOf (p1 p2 : Int) (σ : qSt) : Option (Int × qSt) :=
  qbx (fX5_cellOf p1 p2 σ) fun (e : Int) (r : Int) (σ1 : qSt) => if e = 0 then (if 0 ≤ (0 : Int) ∧ (0 : Int) < 1 then qb (qset σ1 64 0 (qi2l r)) fun (σ2 : qSt) => some (0, σ2) else none) else if e = 1 then some (1, σ1) else if e = 2 then some (2, σ1) else if e = 3 then none else none
set_option maxRecDepth 100000 in
set_option maxHeartbeats 4000000 in
theorem tL_cellOf {l : Launch} {z0 : Nat} {g : qG} {w : qWd} {ad : Nat → Nat} (hB : qBC g ad w) {ao : Nat} (hO : w 64 = some (ao, qAL (g.2 4) 1)) (hl : l.stackTraces = false) (p1 p2 : Int) (σ : qSt) : qCTH l yL_cellOf cL_cellOf 5 (some .int) [(0, 10, 13, 13), (0, 10, 17, 24)] (qrk 2 1 6) g z0 w [.ref (ad 0), .int (qI p1), .int (qI p2), .ref ao] σ (fL_cellOf p1 p2 σ) qri := by
  refine qCTH.of [(0, some (.ref (ad 0))), (1, some (.int (qI p1))), (2, some (.int (qI p2))), (3, some (.ref ao))] (by decide +kernel) (Nat.le_of_ble_eq_true rfl) rfl ?_
  intro p e s m args below meth c cx htab
  unfold fL_cellOf
  refine r_aload_n (pc := 0) cx dL_cellOf_0 rfl ?_
  refine r_iconst (pc := 1) cx dL_cellOf_1 ?_
  refine r_aload_n (pc := 2) cx dL_cellOf_2 rfl ?_
  refine r_iload_n (pc := 3) cx dL_cellOf_3 rfl ?_
  refine r_iload_n (pc := 4) cx dL_cellOf_4 rfl ?_
  refine r_xi (pc := 5) cx (tX5_cellOf hB hl p1 p2 σ) qm_X5_cellOf qv_X5_cellOf hcl_X5 (lw0 hB) wm_L_53 dL_cellOf_5 rfl rfl (Nat.le_of_ble_eq_true rfl) ⟨Nat.le_of_ble_eq_true rfl, Nat.le_of_ble_eq_true rfl⟩ ⟨Nat.le_of_ble_eq_true rfl, Nat.le_of_ble_eq_true rfl⟩ (fun r σ1 => ?_) (fun v r σ1 E hE => ?_)
  · refine qS.eqF (if_pos rfl) ?_
    refine r_i2l (pc := 8) cx dL_cellOf_8 ?_
    refine r_lastore (pc := 9) cx hO rfl (by decide) dL_cellOf_9 (fun σ2 => ?_)
    refine r_goto (pc := 10) (tgt := 21) cx dL_cellOf_10 (by decide) ?_
    refine r_iconst (pc := 21) cx dL_cellOf_21 ?_
    exact r_ireturn (pc := 22) (w0 := w) (mc := 1) (ms := 6) (fun _ _ h => h) (Nat.le_of_ble_eq_true rfl) (Nat.le_of_ble_eq_true rfl) cx dL_cellOf_22 rfl
  · rcases qEn_cases hE with ⟨rfl, rfl⟩ | ⟨rfl, rfl⟩ | ⟨rfl, rfl⟩
    · refine Or.inr ⟨13, ⟨[], ⟨0, 10, 13, 13⟩, [⟨0, 10, 17, 24⟩], qE1, htab, (fun z hz => absurd hz List.not_mem_nil), by decide, by decide, wc_L_13, qcast_qE1, rfl⟩, fun q => ?_⟩
      refine qS.eqF (show _ = some (1, σ1) from rfl) ?_
      refine r_astore (pc := 13) cx dL_cellOf_13 (by decide) rfl ?_
      refine r_iconst (pc := 15) cx dL_cellOf_15 ?_
      exact r_ireturn (pc := 16) (w0 := w) (mc := 1) (ms := 6) (fun _ _ h => h) (Nat.le_of_ble_eq_true rfl) (Nat.le_of_ble_eq_true rfl) cx dL_cellOf_16 rfl
    · refine Or.inr ⟨17, ⟨[(⟨0, 10, 13, 13⟩ : ExceptionTableEntry)], ⟨0, 10, 17, 24⟩, [], qE2, htab, (fun z hz => by rw [List.mem_singleton.mp hz]; exact Or.inr ⟨(by decide), _, wc_L_13, (qNc12 cx.2.2.2.2.1).2.2.1⟩), by decide, by decide, wc_L_24, qcast_qE2, rfl⟩, fun q => ?_⟩
      refine qS.eqF (show _ = some (2, σ1) from rfl) ?_
      refine r_astore (pc := 17) cx dL_cellOf_17 (by decide) rfl ?_
      refine r_iconst (pc := 19) cx dL_cellOf_19 ?_
      exact r_ireturn (pc := 20) (w0 := w) (mc := 1) (ms := 6) (fun _ _ h => h) (Nat.le_of_ble_eq_true rfl) (Nat.le_of_ble_eq_true rfl) cx dL_cellOf_20 rfl
    · exact Or.inl rfl
def fL_bodyOf (p1 p2 : Int) (σ : qSt) : Option (Int × qSt) :=
  qbx (fX5_bodyOf p1 p2 σ) fun (e : Int) (r : Int) (σ1 : qSt) => if e = 0 then (if 0 ≤ (0 : Int) ∧ (0 : Int) < 1 then qb (qset σ1 64 0 (qi2l r)) fun (σ2 : qSt) => some (0, σ2) else none) else if e = 1 then some (1, σ1) else if e = 2 then some (2, σ1) else if e = 3 then none else none
set_option maxRecDepth 100000 in
set_option maxHeartbeats 4000000 in
theorem tL_bodyOf {l : Launch} {z0 : Nat} {g : qG} {w : qWd} {ad : Nat → Nat} (hB : qBC g ad w) {ao : Nat} (hO : w 64 = some (ao, qAL (g.2 4) 1)) (hl : l.stackTraces = false) (p1 p2 : Int) (σ : qSt) : qCTH l yL_bodyOf cL_bodyOf 5 (some .int) [(0, 10, 13, 13), (0, 10, 17, 24)] (qrk 2 1 6) g z0 w [.ref (ad 0), .int (qI p1), .int (qI p2), .ref ao] σ (fL_bodyOf p1 p2 σ) qri := by
  refine qCTH.of [(0, some (.ref (ad 0))), (1, some (.int (qI p1))), (2, some (.int (qI p2))), (3, some (.ref ao))] (by decide +kernel) (Nat.le_of_ble_eq_true rfl) rfl ?_
  intro p e s m args below meth c cx htab
  unfold fL_bodyOf
  refine r_aload_n (pc := 0) cx dL_bodyOf_0 rfl ?_
  refine r_iconst (pc := 1) cx dL_bodyOf_1 ?_
  refine r_aload_n (pc := 2) cx dL_bodyOf_2 rfl ?_
  refine r_iload_n (pc := 3) cx dL_bodyOf_3 rfl ?_
  refine r_iload_n (pc := 4) cx dL_bodyOf_4 rfl ?_
  refine r_xi (pc := 5) cx (tX5_bodyOf hB hl p1 p2 σ) qm_X5_bodyOf qv_X5_bodyOf hcl_X5 (lw0 hB) wm_L_56 dL_bodyOf_5 rfl rfl (Nat.le_of_ble_eq_true rfl) ⟨Nat.le_of_ble_eq_true rfl, Nat.le_of_ble_eq_true rfl⟩ ⟨Nat.le_of_ble_eq_true rfl, Nat.le_of_ble_eq_true rfl⟩ (fun r σ1 => ?_) (fun v r σ1 E hE => ?_)
  · refine qS.eqF (if_pos rfl) ?_
    refine r_i2l (pc := 8) cx dL_bodyOf_8 ?_
    refine r_lastore (pc := 9) cx hO rfl (by decide) dL_bodyOf_9 (fun σ2 => ?_)
    refine r_goto (pc := 10) (tgt := 21) cx dL_bodyOf_10 (by decide) ?_
    refine r_iconst (pc := 21) cx dL_bodyOf_21 ?_
    exact r_ireturn (pc := 22) (w0 := w) (mc := 1) (ms := 6) (fun _ _ h => h) (Nat.le_of_ble_eq_true rfl) (Nat.le_of_ble_eq_true rfl) cx dL_bodyOf_22 rfl
  · rcases qEn_cases hE with ⟨rfl, rfl⟩ | ⟨rfl, rfl⟩ | ⟨rfl, rfl⟩
    · refine Or.inr ⟨13, ⟨[], ⟨0, 10, 13, 13⟩, [⟨0, 10, 17, 24⟩], qE1, htab, (fun z hz => absurd hz List.not_mem_nil), by decide, by decide, wc_L_13, qcast_qE1, rfl⟩, fun q => ?_⟩
      refine qS.eqF (show _ = some (1, σ1) from rfl) ?_
      refine r_astore (pc := 13) cx dL_bodyOf_13 (by decide) rfl ?_
      refine r_iconst (pc := 15) cx dL_bodyOf_15 ?_
      exact r_ireturn (pc := 16) (w0 := w) (mc := 1) (ms := 6) (fun _ _ h => h) (Nat.le_of_ble_eq_true rfl) (Nat.le_of_ble_eq_true rfl) cx dL_bodyOf_16 rfl
    · refine Or.inr ⟨17, ⟨[(⟨0, 10, 13, 13⟩ : ExceptionTableEntry)], ⟨0, 10, 17, 24⟩, [], qE2, htab, (fun z hz => by rw [List.mem_singleton.mp hz]; exact Or.inr ⟨(by decide), _, wc_L_13, (qNc12 cx.2.2.2.2.1).2.2.1⟩), by decide, by decide, wc_L_24, qcast_qE2, rfl⟩, fun q => ?_⟩
      refine qS.eqF (show _ = some (2, σ1) from rfl) ?_
      refine r_astore (pc := 17) cx dL_bodyOf_17 (by decide) rfl ?_
      refine r_iconst (pc := 19) cx dL_bodyOf_19 ?_
      exact r_ireturn (pc := 20) (w0 := w) (mc := 1) (ms := 6) (fun _ _ h => h) (Nat.le_of_ble_eq_true rfl) (Nat.le_of_ble_eq_true rfl) cx dL_bodyOf_20 rfl
    · exact Or.inl rfl
def fL_sum (p1 : Int) (σ : qSt) : Option (Int × qSt) :=
  qbx (fX5_sum p1 σ) fun (e : Int) (r : Int) (σ1 : qSt) => if e = 0 then (if 0 ≤ (0 : Int) ∧ (0 : Int) < 1 then qb (qset σ1 64 0 r) fun (σ2 : qSt) => some (0, σ2) else none) else if e = 1 then none else if e = 2 then some (1, σ1) else if e = 3 then none else none
set_option maxRecDepth 100000 in
set_option maxHeartbeats 4000000 in
theorem tL_sum {l : Launch} {z0 : Nat} {g : qG} {w : qWd} {ad : Nat → Nat} (hB : qBC g ad w) {ao : Nat} (hO : w 64 = some (ao, qAL (g.2 4) 1)) (hl : l.stackTraces = false) (p1 : Int) (σ : qSt) : qCTH l yL_sum cL_sum 4 (some .int) [(0, 8, 11, 24)] (qrk 4 1 6) g z0 w [.ref (ad 0), .int (qI p1), .ref ao] σ (fL_sum p1 σ) qri := by
  refine qCTH.of [(0, some (.ref (ad 0))), (1, some (.int (qI p1))), (2, some (.ref ao))] (by decide +kernel) (Nat.le_of_ble_eq_true rfl) rfl ?_
  intro p e s m args below meth c cx htab
  unfold fL_sum
  refine r_aload_n (pc := 0) cx dL_sum_0 rfl ?_
  refine r_iconst (pc := 1) cx dL_sum_1 ?_
  refine r_aload_n (pc := 2) cx dL_sum_2 rfl ?_
  refine r_iload_n (pc := 3) cx dL_sum_3 rfl ?_
  refine r_xj (pc := 4) cx (tX5_sum hB hl p1 σ) qm_X5_sum qv_X5_sum hcl_X5 (lw0 hB) wm_L_59 dL_sum_4 rfl rfl (Nat.le_of_ble_eq_true rfl) ⟨Nat.le_of_ble_eq_true rfl, Nat.le_of_ble_eq_true rfl⟩ ⟨Nat.le_of_ble_eq_true rfl, Nat.le_of_ble_eq_true rfl⟩ (fun r σ1 => ?_) (fun v r σ1 E hE => ?_)
  · refine qS.eqF (if_pos rfl) ?_
    refine r_lastore (pc := 7) cx hO rfl (by decide) dL_sum_7 (fun σ2 => ?_)
    refine r_goto (pc := 8) (tgt := 14) cx dL_sum_8 (by decide) ?_
    refine r_iconst (pc := 14) cx dL_sum_14 ?_
    exact r_ireturn (pc := 15) (w0 := w) (mc := 1) (ms := 6) (fun _ _ h => h) (Nat.le_of_ble_eq_true rfl) (Nat.le_of_ble_eq_true rfl) cx dL_sum_15 rfl
  · rcases qEn_cases hE with ⟨rfl, rfl⟩ | ⟨rfl, rfl⟩ | ⟨rfl, rfl⟩
    · exact Or.inl rfl
    · refine Or.inr ⟨11, ⟨[], ⟨0, 8, 11, 24⟩, [], qE2, htab, (fun z hz => absurd hz List.not_mem_nil), by decide, by decide, wc_L_24, qcast_qE2, rfl⟩, fun q => ?_⟩
      refine qS.eqF (show _ = some (1, σ1) from rfl) ?_
      refine r_astore_n (pc := 11) cx dL_sum_11 (by decide) rfl ?_
      refine r_iconst (pc := 12) cx dL_sum_12 ?_
      exact r_ireturn (pc := 13) (w0 := w) (mc := 1) (ms := 6) (fun _ _ h => h) (Nat.le_of_ble_eq_true rfl) (Nat.le_of_ble_eq_true rfl) cx dL_sum_13 rfl
    · exact Or.inl rfl
def fL_average (p1 p2 p3 p4 p5 p6 : Int) (σ : qSt) : Option (Int × qSt) :=
  qbx (fX5_average p1 p2 p3 p4 p5 p6 σ) fun (e : Int) (r : Int) (σ1 : qSt) => if e = 0 then (if 0 ≤ (0 : Int) ∧ (0 : Int) < 1 then qb (qset σ1 64 0 r) fun (σ2 : qSt) => some (0, σ2) else none) else if e = 1 then none else if e = 2 then some (1, σ1) else if e = 3 then none else none
set_option maxRecDepth 100000 in
set_option maxHeartbeats 4000000 in
theorem tL_average {l : Launch} {z0 : Nat} {g : qG} {w : qWd} {ad : Nat → Nat} (hB : qBC g ad w) {ao : Nat} (hO : w 64 = some (ao, qAL (g.2 4) 1)) (h66 : w 66 = none) (h67 : w 67 = none) (h68 : w 68 = none) (hl : l.stackTraces = false) (p1 p2 p3 p4 p5 p6 : Int) (σ : qSt) : qCTH l yL_average cL_average 9 (some .int) [(0, 17, 20, 24)] (qrk 5 2 7) g z0 w [.ref (ad 0), .int (qI p1), .int (qI p2), .int (qI p3), .int (qI p4), .int (qI p5), .int (qI p6), .ref ao] σ (fL_average p1 p2 p3 p4 p5 p6 σ) qri := by
  refine qCTH.of [(0, some (.ref (ad 0))), (1, some (.int (qI p1))), (2, some (.int (qI p2))), (3, some (.int (qI p3))), (4, some (.int (qI p4))), (5, some (.int (qI p5))), (6, some (.int (qI p6))), (7, some (.ref ao))] (by decide +kernel) (Nat.le_of_ble_eq_true rfl) rfl ?_
  intro p e s m args below meth c cx htab
  unfold fL_average
  refine r_aload (pc := 0) cx dL_average_0 rfl ?_
  refine r_iconst (pc := 2) cx dL_average_2 ?_
  refine r_aload_n (pc := 3) cx dL_average_3 rfl ?_
  refine r_iload_n (pc := 4) cx dL_average_4 rfl ?_
  refine r_iload_n (pc := 5) cx dL_average_5 rfl ?_
  refine r_iload_n (pc := 6) cx dL_average_6 rfl ?_
  refine r_iload (pc := 7) cx dL_average_7 rfl ?_
  refine r_iload (pc := 9) cx dL_average_9 rfl ?_
  refine r_iload (pc := 11) cx dL_average_11 rfl ?_
  refine r_xj (pc := 13) cx (tX5_average hB h66 h67 h68 hl p1 p2 p3 p4 p5 p6 σ) qm_X5_average qv_X5_average hcl_X5 (lw0 hB) wm_L_62 dL_average_13 rfl rfl (Nat.le_of_ble_eq_true rfl) ⟨Nat.le_of_ble_eq_true rfl, Nat.le_of_ble_eq_true rfl⟩ ⟨Nat.le_of_ble_eq_true rfl, Nat.le_of_ble_eq_true rfl⟩ (fun r σ1 => ?_) (fun v r σ1 E hE => ?_)
  · refine qS.eqF (if_pos rfl) ?_
    refine r_lastore (pc := 16) cx hO rfl (by decide) dL_average_16 (fun σ2 => ?_)
    refine r_goto (pc := 17) (tgt := 24) cx dL_average_17 (by decide) ?_
    refine r_iconst (pc := 24) cx dL_average_24 ?_
    exact r_ireturn (pc := 25) (w0 := w) (mc := 2) (ms := 7) (fun _ _ h => h) (Nat.le_of_ble_eq_true rfl) (Nat.le_of_ble_eq_true rfl) cx dL_average_25 rfl
  · rcases qEn_cases hE with ⟨rfl, rfl⟩ | ⟨rfl, rfl⟩ | ⟨rfl, rfl⟩
    · exact Or.inl rfl
    · refine Or.inr ⟨20, ⟨[], ⟨0, 17, 20, 24⟩, [], qE2, htab, (fun z hz => absurd hz List.not_mem_nil), by decide, by decide, wc_L_24, qcast_qE2, rfl⟩, fun q => ?_⟩
      refine qS.eqF (show _ = some (1, σ1) from rfl) ?_
      refine r_astore (pc := 20) cx dL_average_20 (by decide) rfl ?_
      refine r_iconst (pc := 22) cx dL_average_22 ?_
      exact r_ireturn (pc := 23) (w0 := w) (mc := 2) (ms := 7) (fun _ _ h => h) (Nat.le_of_ble_eq_true rfl) (Nat.le_of_ble_eq_true rfl) cx dL_average_23 rfl
    · exact Or.inl rfl
def fL_scatter (p1 p2 p3 p4 p5 p6 : Int) (σ : qSt) : Option (Int × qSt) :=
  qbx (fX5_scatter p1 p2 p3 p4 p5 p6 σ) fun (e : Int) (r : Int) (σ1 : qSt) => if e = 0 then (if 0 ≤ (0 : Int) ∧ (0 : Int) < 1 then qb (qset σ1 64 0 r) fun (σ2 : qSt) => some (0, σ2) else none) else if e = 1 then none else if e = 2 then some (1, σ1) else if e = 3 then none else none
set_option maxRecDepth 100000 in
set_option maxHeartbeats 4000000 in
theorem tL_scatter {l : Launch} {z0 : Nat} {g : qG} {w : qWd} {ad : Nat → Nat} (hB : qBC g ad w) {ao : Nat} (hO : w 64 = some (ao, qAL (g.2 4) 1)) (h66 : w 66 = none) (h67 : w 67 = none) (h68 : w 68 = none) (hl : l.stackTraces = false) (p1 p2 p3 p4 p5 p6 : Int) (σ : qSt) : qCTH l yL_scatter cL_scatter 9 (some .int) [(0, 17, 20, 24)] (qrk 5 2 7) g z0 w [.ref (ad 0), .int (qI p1), .int (qI p2), .int (qI p3), .int (qI p4), .int (qI p5), .int (qI p6), .ref ao] σ (fL_scatter p1 p2 p3 p4 p5 p6 σ) qri := by
  refine qCTH.of [(0, some (.ref (ad 0))), (1, some (.int (qI p1))), (2, some (.int (qI p2))), (3, some (.int (qI p3))), (4, some (.int (qI p4))), (5, some (.int (qI p5))), (6, some (.int (qI p6))), (7, some (.ref ao))] (by decide +kernel) (Nat.le_of_ble_eq_true rfl) rfl ?_
  intro p e s m args below meth c cx htab
  unfold fL_scatter
  refine r_aload (pc := 0) cx dL_scatter_0 rfl ?_
  refine r_iconst (pc := 2) cx dL_scatter_2 ?_
  refine r_aload_n (pc := 3) cx dL_scatter_3 rfl ?_
  refine r_iload_n (pc := 4) cx dL_scatter_4 rfl ?_
  refine r_iload_n (pc := 5) cx dL_scatter_5 rfl ?_
  refine r_iload_n (pc := 6) cx dL_scatter_6 rfl ?_
  refine r_iload (pc := 7) cx dL_scatter_7 rfl ?_
  refine r_iload (pc := 9) cx dL_scatter_9 rfl ?_
  refine r_iload (pc := 11) cx dL_scatter_11 rfl ?_
  refine r_xj (pc := 13) cx (tX5_scatter hB h66 h67 h68 hl p1 p2 p3 p4 p5 p6 σ) qm_X5_scatter qv_X5_scatter hcl_X5 (lw0 hB) wm_L_66 dL_scatter_13 rfl rfl (Nat.le_of_ble_eq_true rfl) ⟨Nat.le_of_ble_eq_true rfl, Nat.le_of_ble_eq_true rfl⟩ ⟨Nat.le_of_ble_eq_true rfl, Nat.le_of_ble_eq_true rfl⟩ (fun r σ1 => ?_) (fun v r σ1 E hE => ?_)
  · refine qS.eqF (if_pos rfl) ?_
    refine r_lastore (pc := 16) cx hO rfl (by decide) dL_scatter_16 (fun σ2 => ?_)
    refine r_goto (pc := 17) (tgt := 24) cx dL_scatter_17 (by decide) ?_
    refine r_iconst (pc := 24) cx dL_scatter_24 ?_
    exact r_ireturn (pc := 25) (w0 := w) (mc := 2) (ms := 7) (fun _ _ h => h) (Nat.le_of_ble_eq_true rfl) (Nat.le_of_ble_eq_true rfl) cx dL_scatter_25 rfl
  · rcases qEn_cases hE with ⟨rfl, rfl⟩ | ⟨rfl, rfl⟩ | ⟨rfl, rfl⟩
    · exact Or.inl rfl
    · refine Or.inr ⟨20, ⟨[], ⟨0, 17, 20, 24⟩, [], qE2, htab, (fun z hz => absurd hz List.not_mem_nil), by decide, by decide, wc_L_24, qcast_qE2, rfl⟩, fun q => ?_⟩
      refine qS.eqF (show _ = some (1, σ1) from rfl) ?_
      refine r_astore (pc := 20) cx dL_scatter_20 (by decide) rfl ?_
      refine r_iconst (pc := 22) cx dL_scatter_22 ?_
      exact r_ireturn (pc := 23) (w0 := w) (mc := 2) (ms := 7) (fun _ _ h => h) (Nat.le_of_ble_eq_true rfl) (Nat.le_of_ble_eq_true rfl) cx dL_scatter_23 rfl
    · exact Or.inl rfl
def fL_likeness (p1 p2 p3 p4 : Int) (σ : qSt) : Option (Int × qSt) :=
  qbx (fX5_likeness p1 p2 p3 p4 σ) fun (e : Int) (r : Int) (σ1 : qSt) => if e = 0 then (if FP.f2d (UInt32.ofNat r.toNat) &&& 0x7fffffffffffffff ≤ 0x7ff0000000000000 then (if 0 ≤ (0 : Int) ∧ (0 : Int) < 1 then qb (qset σ1 65 0 ((FP.f2d (UInt32.ofNat r.toNat)).toNat : Int)) fun (σ2 : qSt) => some (0, σ2) else none) else none) else if e = 1 then none else if e = 2 then some (1, σ1) else if e = 3 then none else none
set_option maxRecDepth 100000 in
set_option maxHeartbeats 4000000 in
theorem tL_likeness {l : Launch} {z0 : Nat} {g : qG} {w : qWd} {ad : Nat → Nat} (hB : qBC g ad w) {ao : Nat} (hO : w 65 = some (ao, qAD (g.2 5) 1)) (h66 : w 66 = none) (h67 : w 67 = none) (h68 : w 68 = none) (hl : l.stackTraces = false) (p1 p2 p3 p4 : Int) (σ : qSt) : qCTH l yL_likeness cL_likeness 7 (some .int) [(0, 14, 17, 24)] (qrk 5 3 10) g z0 w [.ref (ad 0), .int (qI p1), .int (qI p2), .int (qI p3), .int (qI p4), .ref ao] σ (fL_likeness p1 p2 p3 p4 σ) qri := by
  refine qCTH.of [(0, some (.ref (ad 0))), (1, some (.int (qI p1))), (2, some (.int (qI p2))), (3, some (.int (qI p3))), (4, some (.int (qI p4))), (5, some (.ref ao))] (by decide +kernel) (Nat.le_of_ble_eq_true rfl) rfl ?_
  intro p e s m args below meth c cx htab
  unfold fL_likeness
  refine r_aload (pc := 0) cx dL_likeness_0 rfl ?_
  refine r_iconst (pc := 2) cx dL_likeness_2 ?_
  refine r_aload_n (pc := 3) cx dL_likeness_3 rfl ?_
  refine r_iload_n (pc := 4) cx dL_likeness_4 rfl ?_
  refine r_iload_n (pc := 5) cx dL_likeness_5 rfl ?_
  refine r_iload_n (pc := 6) cx dL_likeness_6 rfl ?_
  refine r_iload (pc := 7) cx dL_likeness_7 rfl ?_
  refine r_xf (pc := 9) cx (tX5_likeness hB h66 h67 h68 hl p1 p2 p3 p4 σ) qm_X5_likeness qv_X5_likeness hcl_X5 (lw0 hB) wm_L_69 dL_likeness_9 rfl rfl (Nat.le_of_ble_eq_true rfl) ⟨Nat.le_of_ble_eq_true rfl, Nat.le_of_ble_eq_true rfl⟩ ⟨Nat.le_of_ble_eq_true rfl, Nat.le_of_ble_eq_true rfl⟩ (fun r σ1 => ?_) (fun v r σ1 E hE => ?_)
  · refine qS.eqF (if_pos rfl) ?_
    refine r_f2d (pc := 12) cx dL_likeness_12 ?_
    refine r_dastore (pc := 13) cx hO rfl (by decide) dL_likeness_13 (fun σ2 => ?_)
    refine r_goto (pc := 14) (tgt := 21) cx dL_likeness_14 (by decide) ?_
    refine r_iconst (pc := 21) cx dL_likeness_21 ?_
    exact r_ireturn (pc := 22) (w0 := w) (mc := 3) (ms := 10) (fun _ _ h => h) (Nat.le_of_ble_eq_true rfl) (Nat.le_of_ble_eq_true rfl) cx dL_likeness_22 rfl
  · rcases qEn_cases hE with ⟨rfl, rfl⟩ | ⟨rfl, rfl⟩ | ⟨rfl, rfl⟩
    · exact Or.inl rfl
    · refine Or.inr ⟨17, ⟨[], ⟨0, 14, 17, 24⟩, [], qE2, htab, (fun z hz => absurd hz List.not_mem_nil), by decide, by decide, wc_L_24, qcast_qE2, rfl⟩, fun q => ?_⟩
      refine qS.eqF (show _ = some (1, σ1) from rfl) ?_
      refine r_astore (pc := 17) cx dL_likeness_17 (by decide) rfl ?_
      refine r_iconst (pc := 19) cx dL_likeness_19 ?_
      exact r_ireturn (pc := 20) (w0 := w) (mc := 3) (ms := 10) (fun _ _ h => h) (Nat.le_of_ble_eq_true rfl) (Nat.le_of_ble_eq_true rfl) cx dL_likeness_20 rfl
    · exact Or.inl rfl
def fL_ahead (p1 p2 : Int) (σ : qSt) : Option (Int × qSt) :=
  qbx (fX5_ahead p1 p2 σ) fun (e : Int) (r : Int) (σ1 : qSt) => if e = 0 then (if 0 ≤ (0 : Int) ∧ (0 : Int) < 1 then qb (qset σ1 64 0 (qi2l r)) fun (σ2 : qSt) => some (0, σ2) else none) else if e = 1 then some (1, σ1) else if e = 2 then some (2, σ1) else if e = 3 then none else none
set_option maxRecDepth 100000 in
set_option maxHeartbeats 4000000 in
theorem tL_ahead {l : Launch} {z0 : Nat} {g : qG} {w : qWd} {ad : Nat → Nat} (hB : qBC g ad w) {ao : Nat} (hO : w 64 = some (ao, qAL (g.2 4) 1)) (hl : l.stackTraces = false) (p1 p2 : Int) (σ : qSt) : qCTH l yL_ahead cL_ahead 5 (some .int) [(0, 10, 13, 13), (0, 10, 17, 24)] (qrk 6 1 6) g z0 w [.ref (ad 0), .int (qI p1), .int (qI p2), .ref ao] σ (fL_ahead p1 p2 σ) qri := by
  refine qCTH.of [(0, some (.ref (ad 0))), (1, some (.int (qI p1))), (2, some (.int (qI p2))), (3, some (.ref ao))] (by decide +kernel) (Nat.le_of_ble_eq_true rfl) rfl ?_
  intro p e s m args below meth c cx htab
  unfold fL_ahead
  refine r_aload_n (pc := 0) cx dL_ahead_0 rfl ?_
  refine r_iconst (pc := 1) cx dL_ahead_1 ?_
  refine r_aload_n (pc := 2) cx dL_ahead_2 rfl ?_
  refine r_iload_n (pc := 3) cx dL_ahead_3 rfl ?_
  refine r_iload_n (pc := 4) cx dL_ahead_4 rfl ?_
  refine r_xi (pc := 5) cx (tX5_ahead hB hl p1 p2 σ) qm_X5_ahead qv_X5_ahead hcl_X5 (lw0 hB) wm_L_73 dL_ahead_5 rfl rfl (Nat.le_of_ble_eq_true rfl) ⟨Nat.le_of_ble_eq_true rfl, Nat.le_of_ble_eq_true rfl⟩ ⟨Nat.le_of_ble_eq_true rfl, Nat.le_of_ble_eq_true rfl⟩ (fun r σ1 => ?_) (fun v r σ1 E hE => ?_)
  · refine qS.eqF (if_pos rfl) ?_
    refine r_i2l (pc := 8) cx dL_ahead_8 ?_
    refine r_lastore (pc := 9) cx hO rfl (by decide) dL_ahead_9 (fun σ2 => ?_)
    refine r_goto (pc := 10) (tgt := 21) cx dL_ahead_10 (by decide) ?_
    refine r_iconst (pc := 21) cx dL_ahead_21 ?_
    exact r_ireturn (pc := 22) (w0 := w) (mc := 1) (ms := 6) (fun _ _ h => h) (Nat.le_of_ble_eq_true rfl) (Nat.le_of_ble_eq_true rfl) cx dL_ahead_22 rfl
  · rcases qEn_cases hE with ⟨rfl, rfl⟩ | ⟨rfl, rfl⟩ | ⟨rfl, rfl⟩
    · refine Or.inr ⟨13, ⟨[], ⟨0, 10, 13, 13⟩, [⟨0, 10, 17, 24⟩], qE1, htab, (fun z hz => absurd hz List.not_mem_nil), by decide, by decide, wc_L_13, qcast_qE1, rfl⟩, fun q => ?_⟩
      refine qS.eqF (show _ = some (1, σ1) from rfl) ?_
      refine r_astore (pc := 13) cx dL_ahead_13 (by decide) rfl ?_
      refine r_iconst (pc := 15) cx dL_ahead_15 ?_
      exact r_ireturn (pc := 16) (w0 := w) (mc := 1) (ms := 6) (fun _ _ h => h) (Nat.le_of_ble_eq_true rfl) (Nat.le_of_ble_eq_true rfl) cx dL_ahead_16 rfl
    · refine Or.inr ⟨17, ⟨[(⟨0, 10, 13, 13⟩ : ExceptionTableEntry)], ⟨0, 10, 17, 24⟩, [], qE2, htab, (fun z hz => by rw [List.mem_singleton.mp hz]; exact Or.inr ⟨(by decide), _, wc_L_13, (qNc12 cx.2.2.2.2.1).2.2.1⟩), by decide, by decide, wc_L_24, qcast_qE2, rfl⟩, fun q => ?_⟩
      refine qS.eqF (show _ = some (2, σ1) from rfl) ?_
      refine r_astore (pc := 17) cx dL_ahead_17 (by decide) rfl ?_
      refine r_iconst (pc := 19) cx dL_ahead_19 ?_
      exact r_ireturn (pc := 20) (w0 := w) (mc := 1) (ms := 6) (fun _ _ h => h) (Nat.le_of_ble_eq_true rfl) (Nat.le_of_ble_eq_true rfl) cx dL_ahead_20 rfl
    · exact Or.inl rfl
def fL_aheadAnew (p1 p2 : Int) (σ : qSt) : Option (Int × qSt) :=
  qbx (fX5_aheadAnew p1 p2 σ) fun (e : Int) (r : Int) (σ1 : qSt) => if e = 0 then (if 0 ≤ (0 : Int) ∧ (0 : Int) < 1 then qb (qset σ1 64 0 (qi2l r)) fun (σ2 : qSt) => some (0, σ2) else none) else if e = 1 then some (1, σ1) else if e = 2 then some (2, σ1) else if e = 3 then none else none
set_option maxRecDepth 100000 in
set_option maxHeartbeats 4000000 in
theorem tL_aheadAnew {l : Launch} {z0 : Nat} {g : qG} {w : qWd} {ad : Nat → Nat} (hB : qBC g ad w) {ao : Nat} (hO : w 64 = some (ao, qAL (g.2 4) 1)) (hl : l.stackTraces = false) (p1 p2 : Int) (σ : qSt) : qCTH l yL_aheadAnew cL_aheadAnew 5 (some .int) [(0, 10, 13, 13), (0, 10, 17, 24)] (qrk 32 1 6) g z0 w [.ref (ad 0), .int (qI p1), .int (qI p2), .ref ao] σ (fL_aheadAnew p1 p2 σ) qri := by
  refine qCTH.of [(0, some (.ref (ad 0))), (1, some (.int (qI p1))), (2, some (.int (qI p2))), (3, some (.ref ao))] (by decide +kernel) (Nat.le_of_ble_eq_true rfl) rfl ?_
  intro p e s m args below meth c cx htab
  unfold fL_aheadAnew
  refine r_aload_n (pc := 0) cx dL_aheadAnew_0 rfl ?_
  refine r_iconst (pc := 1) cx dL_aheadAnew_1 ?_
  refine r_aload_n (pc := 2) cx dL_aheadAnew_2 rfl ?_
  refine r_iload_n (pc := 3) cx dL_aheadAnew_3 rfl ?_
  refine r_iload_n (pc := 4) cx dL_aheadAnew_4 rfl ?_
  refine r_xi (pc := 5) cx (tX5_aheadAnew hB hl p1 p2 σ) qm_X5_aheadAnew qv_X5_aheadAnew hcl_X5 (lw0 hB) wm_L_76 dL_aheadAnew_5 rfl rfl (Nat.le_of_ble_eq_true rfl) ⟨Nat.le_of_ble_eq_true rfl, Nat.le_of_ble_eq_true rfl⟩ ⟨Nat.le_of_ble_eq_true rfl, Nat.le_of_ble_eq_true rfl⟩ (fun r σ1 => ?_) (fun v r σ1 E hE => ?_)
  · refine qS.eqF (if_pos rfl) ?_
    refine r_i2l (pc := 8) cx dL_aheadAnew_8 ?_
    refine r_lastore (pc := 9) cx hO rfl (by decide) dL_aheadAnew_9 (fun σ2 => ?_)
    refine r_goto (pc := 10) (tgt := 21) cx dL_aheadAnew_10 (by decide) ?_
    refine r_iconst (pc := 21) cx dL_aheadAnew_21 ?_
    exact r_ireturn (pc := 22) (w0 := w) (mc := 1) (ms := 6) (fun _ _ h => h) (Nat.le_of_ble_eq_true rfl) (Nat.le_of_ble_eq_true rfl) cx dL_aheadAnew_22 rfl
  · rcases qEn_cases hE with ⟨rfl, rfl⟩ | ⟨rfl, rfl⟩ | ⟨rfl, rfl⟩
    · refine Or.inr ⟨13, ⟨[], ⟨0, 10, 13, 13⟩, [⟨0, 10, 17, 24⟩], qE1, htab, (fun z hz => absurd hz List.not_mem_nil), by decide, by decide, wc_L_13, qcast_qE1, rfl⟩, fun q => ?_⟩
      refine qS.eqF (show _ = some (1, σ1) from rfl) ?_
      refine r_astore (pc := 13) cx dL_aheadAnew_13 (by decide) rfl ?_
      refine r_iconst (pc := 15) cx dL_aheadAnew_15 ?_
      exact r_ireturn (pc := 16) (w0 := w) (mc := 1) (ms := 6) (fun _ _ h => h) (Nat.le_of_ble_eq_true rfl) (Nat.le_of_ble_eq_true rfl) cx dL_aheadAnew_16 rfl
    · refine Or.inr ⟨17, ⟨[(⟨0, 10, 13, 13⟩ : ExceptionTableEntry)], ⟨0, 10, 17, 24⟩, [], qE2, htab, (fun z hz => by rw [List.mem_singleton.mp hz]; exact Or.inr ⟨(by decide), _, wc_L_13, (qNc12 cx.2.2.2.2.1).2.2.1⟩), by decide, by decide, wc_L_24, qcast_qE2, rfl⟩, fun q => ?_⟩
      refine qS.eqF (show _ = some (2, σ1) from rfl) ?_
      refine r_astore (pc := 17) cx dL_aheadAnew_17 (by decide) rfl ?_
      refine r_iconst (pc := 19) cx dL_aheadAnew_19 ?_
      exact r_ireturn (pc := 20) (w0 := w) (mc := 1) (ms := 6) (fun _ _ h => h) (Nat.le_of_ble_eq_true rfl) (Nat.le_of_ble_eq_true rfl) cx dL_aheadAnew_20 rfl
    · exact Or.inl rfl
def fL_mixed (p1 : Int) (σ : qSt) : Option (Int × qSt) :=
  qbx (fX5_mixed p1 σ) fun (e : Int) (r : Int) (σ1 : qSt) => if e = 0 then (if 0 ≤ (0 : Int) ∧ (0 : Int) < 1 then qb (qset σ1 64 0 r) fun (σ2 : qSt) => some (0, σ2) else none) else if e = 1 then none else if e = 2 then some (1, σ1) else if e = 3 then none else none
set_option maxRecDepth 100000 in
set_option maxHeartbeats 4000000 in
theorem tL_mixed {l : Launch} {z0 : Nat} {g : qG} {w : qWd} {ad : Nat → Nat} (hB : qBC g ad w) {ao : Nat} (hO : w 64 = some (ao, qAL (g.2 4) 1)) (h66 : w 66 = none) (h67 : w 67 = none) (h68 : w 68 = none) (hl : l.stackTraces = false) (p1 : Int) (σ : qSt) : qCTH l yL_mixed cL_mixed 4 (some .int) [(0, 8, 11, 24)] (qrk 5 24 96) g z0 w [.ref (ad 0), .int (qI p1), .ref ao] σ (fL_mixed p1 σ) qri := by
  refine qCTH.of [(0, some (.ref (ad 0))), (1, some (.int (qI p1))), (2, some (.ref ao))] (by decide +kernel) (Nat.le_of_ble_eq_true rfl) rfl ?_
  intro p e s m args below meth c cx htab
  unfold fL_mixed
  refine r_aload_n (pc := 0) cx dL_mixed_0 rfl ?_
  refine r_iconst (pc := 1) cx dL_mixed_1 ?_
  refine r_aload_n (pc := 2) cx dL_mixed_2 rfl ?_
  refine r_iload_n (pc := 3) cx dL_mixed_3 rfl ?_
  refine r_xj (pc := 4) cx (tX5_mixed hB h66 h67 h68 hl p1 σ) qm_X5_mixed qv_X5_mixed hcl_X5 (lw0 hB) wm_L_79 dL_mixed_4 rfl rfl (Nat.le_of_ble_eq_true rfl) ⟨Nat.le_of_ble_eq_true rfl, Nat.le_of_ble_eq_true rfl⟩ ⟨Nat.le_of_ble_eq_true rfl, Nat.le_of_ble_eq_true rfl⟩ (fun r σ1 => ?_) (fun v r σ1 E hE => ?_)
  · refine qS.eqF (if_pos rfl) ?_
    refine r_lastore (pc := 7) cx hO rfl (by decide) dL_mixed_7 (fun σ2 => ?_)
    refine r_goto (pc := 8) (tgt := 14) cx dL_mixed_8 (by decide) ?_
    refine r_iconst (pc := 14) cx dL_mixed_14 ?_
    exact r_ireturn (pc := 15) (w0 := w) (mc := 24) (ms := 96) (fun _ _ h => h) (Nat.le_of_ble_eq_true rfl) (Nat.le_of_ble_eq_true rfl) cx dL_mixed_15 rfl
  · rcases qEn_cases hE with ⟨rfl, rfl⟩ | ⟨rfl, rfl⟩ | ⟨rfl, rfl⟩
    · exact Or.inl rfl
    · refine Or.inr ⟨11, ⟨[], ⟨0, 8, 11, 24⟩, [], qE2, htab, (fun z hz => absurd hz List.not_mem_nil), by decide, by decide, wc_L_24, qcast_qE2, rfl⟩, fun q => ?_⟩
      refine qS.eqF (show _ = some (1, σ1) from rfl) ?_
      refine r_astore_n (pc := 11) cx dL_mixed_11 (by decide) rfl ?_
      refine r_iconst (pc := 12) cx dL_mixed_12 ?_
      exact r_ireturn (pc := 13) (w0 := w) (mc := 24) (ms := 96) (fun _ _ h => h) (Nat.le_of_ble_eq_true rfl) (Nat.le_of_ble_eq_true rfl) cx dL_mixed_13 rfl
    · exact Or.inl rfl
def fL_record (p1 p2 : Int) (σ : qSt) : Option (Int × qSt) :=
  qbx (fX5_record p1 p2 σ) fun (e : Int) (r : Int) (σ1 : qSt) => if e = 0 then (if 0 ≤ (0 : Int) ∧ (0 : Int) < 1 then qb (qset σ1 64 0 (qi2l r)) fun (σ2 : qSt) => some (0, σ2) else none) else if e = 1 then some (1, σ1) else if e = 2 then none else if e = 3 then none else none
set_option maxRecDepth 100000 in
set_option maxHeartbeats 4000000 in
theorem tL_record {l : Launch} {z0 : Nat} {g : qG} {w : qWd} {ad : Nat → Nat} (hB : qBC g ad w) {ao : Nat} (hO : w 64 = some (ao, qAL (g.2 4) 1)) (hl : l.stackTraces = false) (p1 p2 : Int) (σ : qSt) : qCTH l yL_record cL_record 5 (some .int) [(0, 10, 13, 13)] (qrk 2 1 6) g z0 w [.ref (ad 0), .int (qI p1), .int (qI p2), .ref ao] σ (fL_record p1 p2 σ) qri := by
  refine qCTH.of [(0, some (.ref (ad 0))), (1, some (.int (qI p1))), (2, some (.int (qI p2))), (3, some (.ref ao))] (by decide +kernel) (Nat.le_of_ble_eq_true rfl) rfl ?_
  intro p e s m args below meth c cx htab
  unfold fL_record
  refine r_aload_n (pc := 0) cx dL_record_0 rfl ?_
  refine r_iconst (pc := 1) cx dL_record_1 ?_
  refine r_aload_n (pc := 2) cx dL_record_2 rfl ?_
  refine r_iload_n (pc := 3) cx dL_record_3 rfl ?_
  refine r_iload_n (pc := 4) cx dL_record_4 rfl ?_
  refine r_xi (pc := 5) cx (tX5_record hB hl p1 p2 σ) qm_X5_record qv_X5_record hcl_X5 (lw0 hB) wm_L_82 dL_record_5 rfl rfl (Nat.le_of_ble_eq_true rfl) ⟨Nat.le_of_ble_eq_true rfl, Nat.le_of_ble_eq_true rfl⟩ ⟨Nat.le_of_ble_eq_true rfl, Nat.le_of_ble_eq_true rfl⟩ (fun r σ1 => ?_) (fun v r σ1 E hE => ?_)
  · refine qS.eqF (if_pos rfl) ?_
    refine r_i2l (pc := 8) cx dL_record_8 ?_
    refine r_lastore (pc := 9) cx hO rfl (by decide) dL_record_9 (fun σ2 => ?_)
    refine r_goto (pc := 10) (tgt := 17) cx dL_record_10 (by decide) ?_
    refine r_iconst (pc := 17) cx dL_record_17 ?_
    exact r_ireturn (pc := 18) (w0 := w) (mc := 1) (ms := 6) (fun _ _ h => h) (Nat.le_of_ble_eq_true rfl) (Nat.le_of_ble_eq_true rfl) cx dL_record_18 rfl
  · rcases qEn_cases hE with ⟨rfl, rfl⟩ | ⟨rfl, rfl⟩ | ⟨rfl, rfl⟩
    · refine Or.inr ⟨13, ⟨[], ⟨0, 10, 13, 13⟩, [], qE1, htab, (fun z hz => absurd hz List.not_mem_nil), by decide, by decide, wc_L_13, qcast_qE1, rfl⟩, fun q => ?_⟩
      refine qS.eqF (show _ = some (1, σ1) from rfl) ?_
      refine r_astore (pc := 13) cx dL_record_13 (by decide) rfl ?_
      refine r_iconst (pc := 15) cx dL_record_15 ?_
      exact r_ireturn (pc := 16) (w0 := w) (mc := 1) (ms := 6) (fun _ _ h => h) (Nat.le_of_ble_eq_true rfl) (Nat.le_of_ble_eq_true rfl) cx dL_record_16 rfl
    · exact Or.inl rfl
    · exact Or.inl rfl
def fL_beat (p1 : Int) (σ : qSt) : Option (Int × qSt) :=
  qbx (fX5_beat p1 σ) fun (e : Int) (r : Int) (σ1 : qSt) => if e = 0 then (if 0 ≤ (0 : Int) ∧ (0 : Int) < 1 then qb (qset σ1 64 0 (qi2l r)) fun (σ2 : qSt) => some (0, σ2) else none) else if e = 1 then some (1, σ1) else if e = 2 then none else if e = 3 then none else none
set_option maxRecDepth 100000 in
set_option maxHeartbeats 4000000 in
theorem tL_beat {l : Launch} {z0 : Nat} {g : qG} {w : qWd} {ad : Nat → Nat} (hB : qBC g ad w) {ao : Nat} (hO : w 64 = some (ao, qAL (g.2 4) 1)) (hl : l.stackTraces = false) (p1 : Int) (σ : qSt) : qCTH l yL_beat cL_beat 4 (some .int) [(0, 9, 12, 13)] (qrk 2 1 6) g z0 w [.ref (ad 0), .int (qI p1), .ref ao] σ (fL_beat p1 σ) qri := by
  refine qCTH.of [(0, some (.ref (ad 0))), (1, some (.int (qI p1))), (2, some (.ref ao))] (by decide +kernel) (Nat.le_of_ble_eq_true rfl) rfl ?_
  intro p e s m args below meth c cx htab
  unfold fL_beat
  refine r_aload_n (pc := 0) cx dL_beat_0 rfl ?_
  refine r_iconst (pc := 1) cx dL_beat_1 ?_
  refine r_aload_n (pc := 2) cx dL_beat_2 rfl ?_
  refine r_iload_n (pc := 3) cx dL_beat_3 rfl ?_
  refine r_xi (pc := 4) cx (tX5_beat hB hl p1 σ) qm_X5_beat qv_X5_beat hcl_X5 (lw0 hB) wm_L_85 dL_beat_4 rfl rfl (Nat.le_of_ble_eq_true rfl) ⟨Nat.le_of_ble_eq_true rfl, Nat.le_of_ble_eq_true rfl⟩ ⟨Nat.le_of_ble_eq_true rfl, Nat.le_of_ble_eq_true rfl⟩ (fun r σ1 => ?_) (fun v r σ1 E hE => ?_)
  · refine qS.eqF (if_pos rfl) ?_
    refine r_i2l (pc := 7) cx dL_beat_7 ?_
    refine r_lastore (pc := 8) cx hO rfl (by decide) dL_beat_8 (fun σ2 => ?_)
    refine r_goto (pc := 9) (tgt := 15) cx dL_beat_9 (by decide) ?_
    refine r_iconst (pc := 15) cx dL_beat_15 ?_
    exact r_ireturn (pc := 16) (w0 := w) (mc := 1) (ms := 6) (fun _ _ h => h) (Nat.le_of_ble_eq_true rfl) (Nat.le_of_ble_eq_true rfl) cx dL_beat_16 rfl
  · rcases qEn_cases hE with ⟨rfl, rfl⟩ | ⟨rfl, rfl⟩ | ⟨rfl, rfl⟩
    · refine Or.inr ⟨12, ⟨[], ⟨0, 9, 12, 13⟩, [], qE1, htab, (fun z hz => absurd hz List.not_mem_nil), by decide, by decide, wc_L_13, qcast_qE1, rfl⟩, fun q => ?_⟩
      refine qS.eqF (show _ = some (1, σ1) from rfl) ?_
      refine r_astore_n (pc := 12) cx dL_beat_12 (by decide) rfl ?_
      refine r_iconst (pc := 13) cx dL_beat_13 ?_
      exact r_ireturn (pc := 14) (w0 := w) (mc := 1) (ms := 6) (fun _ _ h => h) (Nat.le_of_ble_eq_true rfl) (Nat.le_of_ble_eq_true rfl) cx dL_beat_14 rfl
    · exact Or.inl rfl
    · exact Or.inl rfl
def fL_better (p1 p2 : Int) (σ : qSt) : Option (Int × qSt) :=
  qbx (fX5_better p1 p2 σ) fun (e : Int) (r : Int) (σ1 : qSt) => if e = 0 then (if 0 ≤ (0 : Int) ∧ (0 : Int) < 1 then qb (qset σ1 64 0 (qi2l r)) fun (σ2 : qSt) => some (0, σ2) else none) else if e = 1 then some (1, σ1) else if e = 2 then some (2, σ1) else if e = 3 then none else none
set_option maxRecDepth 100000 in
set_option maxHeartbeats 4000000 in
theorem tL_better {l : Launch} {z0 : Nat} {g : qG} {w : qWd} {ad : Nat → Nat} (hB : qBC g ad w) {ao : Nat} (hO : w 64 = some (ao, qAL (g.2 4) 1)) (hl : l.stackTraces = false) (p1 p2 : Int) (σ : qSt) : qCTH l yL_better cL_better 5 (some .int) [(0, 10, 13, 13), (0, 10, 17, 24)] (qrk 7 1 6) g z0 w [.ref (ad 0), .int (qI p1), .int (qI p2), .ref ao] σ (fL_better p1 p2 σ) qri := by
  refine qCTH.of [(0, some (.ref (ad 0))), (1, some (.int (qI p1))), (2, some (.int (qI p2))), (3, some (.ref ao))] (by decide +kernel) (Nat.le_of_ble_eq_true rfl) rfl ?_
  intro p e s m args below meth c cx htab
  unfold fL_better
  refine r_aload_n (pc := 0) cx dL_better_0 rfl ?_
  refine r_iconst (pc := 1) cx dL_better_1 ?_
  refine r_aload_n (pc := 2) cx dL_better_2 rfl ?_
  refine r_iload_n (pc := 3) cx dL_better_3 rfl ?_
  refine r_iload_n (pc := 4) cx dL_better_4 rfl ?_
  refine r_xi (pc := 5) cx (tX5_better hB hl p1 p2 σ) qm_X5_better qv_X5_better hcl_X5 (lw0 hB) wm_L_88 dL_better_5 rfl rfl (Nat.le_of_ble_eq_true rfl) ⟨Nat.le_of_ble_eq_true rfl, Nat.le_of_ble_eq_true rfl⟩ ⟨Nat.le_of_ble_eq_true rfl, Nat.le_of_ble_eq_true rfl⟩ (fun r σ1 => ?_) (fun v r σ1 E hE => ?_)
  · refine qS.eqF (if_pos rfl) ?_
    refine r_i2l (pc := 8) cx dL_better_8 ?_
    refine r_lastore (pc := 9) cx hO rfl (by decide) dL_better_9 (fun σ2 => ?_)
    refine r_goto (pc := 10) (tgt := 21) cx dL_better_10 (by decide) ?_
    refine r_iconst (pc := 21) cx dL_better_21 ?_
    exact r_ireturn (pc := 22) (w0 := w) (mc := 1) (ms := 6) (fun _ _ h => h) (Nat.le_of_ble_eq_true rfl) (Nat.le_of_ble_eq_true rfl) cx dL_better_22 rfl
  · rcases qEn_cases hE with ⟨rfl, rfl⟩ | ⟨rfl, rfl⟩ | ⟨rfl, rfl⟩
    · refine Or.inr ⟨13, ⟨[], ⟨0, 10, 13, 13⟩, [⟨0, 10, 17, 24⟩], qE1, htab, (fun z hz => absurd hz List.not_mem_nil), by decide, by decide, wc_L_13, qcast_qE1, rfl⟩, fun q => ?_⟩
      refine qS.eqF (show _ = some (1, σ1) from rfl) ?_
      refine r_astore (pc := 13) cx dL_better_13 (by decide) rfl ?_
      refine r_iconst (pc := 15) cx dL_better_15 ?_
      exact r_ireturn (pc := 16) (w0 := w) (mc := 1) (ms := 6) (fun _ _ h => h) (Nat.le_of_ble_eq_true rfl) (Nat.le_of_ble_eq_true rfl) cx dL_better_16 rfl
    · refine Or.inr ⟨17, ⟨[(⟨0, 10, 13, 13⟩ : ExceptionTableEntry)], ⟨0, 10, 17, 24⟩, [], qE2, htab, (fun z hz => by rw [List.mem_singleton.mp hz]; exact Or.inr ⟨(by decide), _, wc_L_13, (qNc12 cx.2.2.2.2.1).2.2.1⟩), by decide, by decide, wc_L_24, qcast_qE2, rfl⟩, fun q => ?_⟩
      refine qS.eqF (show _ = some (2, σ1) from rfl) ?_
      refine r_astore (pc := 17) cx dL_better_17 (by decide) rfl ?_
      refine r_iconst (pc := 19) cx dL_better_19 ?_
      exact r_ireturn (pc := 20) (w0 := w) (mc := 1) (ms := 6) (fun _ _ h => h) (Nat.le_of_ble_eq_true rfl) (Nat.le_of_ble_eq_true rfl) cx dL_better_20 rfl
    · exact Or.inl rfl
