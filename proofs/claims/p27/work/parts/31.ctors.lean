theorem qAI_at {cA : ClassId} {N : Nat} : True := trivial
theorem qR.relay {g : qG} {z0 : Nat} {w : qWd} {σ : qSt} {H : Heap} {k a : Nat} {f f' : qLay} (h : qR g z0 w σ H) (hw : w k = some (a, f)) (he : ∀ H, va_at g.1 qCl (a, f (σ k)) H → va_at g.1 qCl (a, f' (σ k)) H) : qR g z0 (qWput w k (a, f')) σ H := by
  have key : ∀ (i a' : Nat) (f1 : qLay), qWput w k (a, f') i = some (a', f1) → ∃ f3, w i = some (a', f3) := fun i a' f1 h => by
    by_cases e9 : i = k
    · subst e9
      rw [qWput_self] at h
      cases h
      exact ⟨_, hw⟩
    · rw [qWput_ne _ e9] at h
      exact ⟨_, h⟩
  refine ⟨fun j b f1 hj => ?_, fun i j b f1 f2 hi hj => ?_⟩
  · by_cases e : j = k
    · subst e
      rw [qWput_self] at hj
      cases hj
      obtain ⟨h1, h2⟩ := h.1 _ _ _ hw
      exact ⟨he H h1, h2⟩
    · rw [qWput_ne _ e] at hj
      exact h.1 j b f1 hj
  · obtain ⟨f3, g3⟩ := key i b f1 hi
    obtain ⟨f4, g4⟩ := key j b f2 hj
    exact h.2 i j b f3 f4 g3 g4
theorem qAR_cong {D : va_G} {cA : ClassId} {N a : Nat} {f f' : Nat → Nat} {r : Int → Int} (h : ∀ j, j < N → f j = f' j) (H : Heap) (hat : va_at D qCl (a, qAR cA N f r) H) : va_at D qCl (a, qAR cA N f' r) H := by
  have h1 : H[a]? = some (vp_cell cA (N, .inr (.inr (.inr (.inr (fun j => some (f j))))))) := hat
  show H[a]? = some (vp_cell cA (N, .inr (.inr (.inr (.inr (fun j => some (f' j)))))))
  rw [h1, vp_cell_q, vp_cell_q]
  exact congrArg some (arrV_cong (fun j hj => by rw [h j hj]))
theorem qS.relay {Y : Type} {p : Program} {l : Launch} {e : Env} {R : Room} {s : State} {m : MethodId} {args : Array Value} {below : List Frame} {meth : Method} {c : Code} {nL : Nat} {g : qG} {z0 : Nat} {w : qWd} {k n : Nat} {Q : Y → State → Prop} {F : Option Y} {σ : qSt} {pc : Nat} {lo : qLo} {st : List Value} (k0 : Nat) {a : Nat} {f f' : qLay} (hw : w k0 = some (a, f)) (he : ∀ H, va_at g.1 qCl (a, f (σ k0)) H → va_at g.1 qCl (a, f' (σ k0)) H) (kk : qS p l e R s m args below meth c nL g z0 (qWput w k0 (a, f')) k n Q F σ pc lo st) : qS p l e R s m args below meth c nL g z0 w k n Q F σ pc lo st :=
  fun y hy H locs ls hH hS hV => kk y hy H locs ls (hH.relay hw he) hS hV
def qPW (g : qG) (w : qWd) (B aB : Nat) (w1 : qWd) : Prop := ∃ ad : Nat → Nat, ad B = aB ∧ w1 B = some (ad B, qOb 3 (fun r => [.ref (ad (B + 1)), .ref (ad (B + 2)), .ref (ad (B + 3)), .ref (ad (B + 4)), .ref (ad (B + 5)), .ref (ad (B + 6)), .ref (ad (B + 7)), .ref (ad (B + 8)), .ref (ad (B + 9)), .ref (ad (B + 10)), .ref (ad (B + 11)), .ref (ad (B + 12)), .int (qI (r 12))])) ∧ w1 (B + 1) = some (ad (B + 1), qAI (g.2 0) 96) ∧ w1 (B + 2) = some (ad (B + 2), qAI (g.2 0) 96) ∧ w1 (B + 3) = some (ad (B + 3), qAI (g.2 0) 96) ∧ w1 (B + 4) = some (ad (B + 4), qAI (g.2 0) 96) ∧ w1 (B + 5) = some (ad (B + 5), qAI (g.2 0) 96) ∧ w1 (B + 6) = some (ad (B + 6), qAI (g.2 0) 96) ∧ w1 (B + 7) = some (ad (B + 7), qAI (g.2 0) 4) ∧ w1 (B + 8) = some (ad (B + 8), qAI (g.2 0) 4) ∧ w1 (B + 9) = some (ad (B + 9), qAI (g.2 0) 4) ∧ w1 (B + 10) = some (ad (B + 10), qAI (g.2 0) 4) ∧ w1 (B + 11) = some (ad (B + 11), qAI (g.2 0) 4) ∧ w1 (B + 12) = some (ad (B + 12), qAI (g.2 0) 4) ∧ ∀ j, (j < B ∨ B + 13 ≤ j) → w1 j = w j
def qPC (g : qG) (w : qWd) (aB : Nat) (w1 : qWd) : Prop := ∃ ad : Nat → Nat, ad 27 = aB ∧ w1 27 = some (ad 27, qOb 0 (fun r => [.ref (ad 28), .ref (ad 29), .int (qI (r 2)), .long (qJ (r 3))])) ∧ w1 28 = some (ad 28, qAR (g.2 2) 4 (fun j => ad (30 + j))) ∧ w1 29 = some (ad 29, qAR (g.2 2) 4 (fun j => ad (34 + j))) ∧ w1 30 = some (ad 30, qAI (g.2 0) 96) ∧ w1 31 = some (ad 31, qAI (g.2 0) 96) ∧ w1 32 = some (ad 32, qAI (g.2 0) 96) ∧ w1 33 = some (ad 33, qAI (g.2 0) 96) ∧ w1 34 = some (ad 34, qAI (g.2 0) 96) ∧ w1 35 = some (ad 35, qAI (g.2 0) 96) ∧ w1 36 = some (ad 36, qAI (g.2 0) 96) ∧ w1 37 = some (ad 37, qAI (g.2 0) 96) ∧ ∀ j, (j < 27 ∨ 38 ≤ j) → w1 j = w j
def qPP (g : qG) (w : qWd) (aB : Nat) (w1 : qWd) : Prop := ∃ ad : Nat → Nat, ad 38 = aB ∧ w1 38 = some (ad 38, qOb 1 (fun r => [.ref (ad 39), .ref (ad 40), .ref (ad 41), .int (qI (r 3))])) ∧ w1 39 = some (ad 39, qAI (g.2 0) 4) ∧ w1 40 = some (ad 40, qAI (g.2 0) 4) ∧ w1 41 = some (ad 41, qAR (g.2 3) 4 (fun j => ad (42 + j))) ∧ w1 42 = some (ad 42, qAI (g.2 1) 5000) ∧ w1 43 = some (ad 43, qAI (g.2 1) 5000) ∧ w1 44 = some (ad 44, qAI (g.2 1) 5000) ∧ w1 45 = some (ad 45, qAI (g.2 1) 5000) ∧ ∀ j, (j < 38 ∨ 46 ≤ j) → w1 j = w j
def qPE (g : qG) (w : qWd) (aB : Nat) (w1 : qWd) : Prop := ∃ ad : Nat → Nat, ad 0 = aB ∧ qBC g ad w1 ∧ ∀ j, 47 ≤ j → w1 j = w j
theorem qac_int : Cond.arrayClass .int ∈ lw_tbl := List.mem_of_getElem? (i := 125) (by decide +kernel)
theorem qac_byte : Cond.arrayClass .byte ∈ lw_tbl := List.mem_of_getElem? (i := 173) (by decide +kernel)
theorem qao_int : Cond.arrayOver (.array .int) ∈ lw_tbl := List.mem_of_getElem? (i := 133) (by decide +kernel)
theorem qao_byte : Cond.arrayOver (.array .byte) ∈ lw_tbl := List.mem_of_getElem? (i := 156) (by decide +kernel)
theorem wcm_X0_9 : Cond.classLink RX0 9 ("[" ++ (FieldType.array .int).toString) ∈ lw_tbl := List.mem_of_getElem? (i := 132) (by decide +kernel)
theorem wcm_X1_18 : Cond.classLink RX1 18 ("[" ++ (FieldType.array .byte).toString) ∈ lw_tbl := List.mem_of_getElem? (i := 155) (by decide +kernel)
theorem qmna_ne {w : qWd} {k0 k1 a K j : Nat} {cO cI : ClassId} (h : ¬ (j = k0 ∨ (k1 ≤ j ∧ j < k1 + 4))) : qWmna w k0 k1 a cO cI K j = w j := by
  unfold qWmna
  rw [if_neg (fun z => h (Or.inl z)), if_neg (fun z => h (Or.inr z))]
theorem qmna_get {w : qWd} {k0 k1 a K j : Nat} {cO cI : ClassId} {y : Nat × qLay} (hy : w j = some y) (h : ¬ (j = k0 ∨ (k1 ≤ j ∧ j < k1 + 4))) : qWmna w k0 k1 a cO cI K j = some y := by
  rw [qmna_ne h]
  exact hy
def fX3_init (B : Nat) (σ : qSt) : Option (Int × qSt) :=
  (qb (qrow σ (B + 1) (fun _ => 0)) fun (σ2 : qSt) => (qb (qrow σ2 B (σ2 B)) fun (σ4 : qSt) => (qb (qrow σ4 (B + 2) (fun _ => 0)) fun (σ7 : qSt) => (qb (qrow σ7 B (σ7 B)) fun (σ9 : qSt) => (qb (qrow σ9 (B + 3) (fun _ => 0)) fun (σ12 : qSt) => (qb (qrow σ12 B (σ12 B)) fun (σ14 : qSt) => (qb (qrow σ14 (B + 4) (fun _ => 0)) fun (σ17 : qSt) => (qb (qrow σ17 B (σ17 B)) fun (σ19 : qSt) => (qb (qrow σ19 (B + 5) (fun _ => 0)) fun (σ22 : qSt) => (qb (qrow σ22 B (σ22 B)) fun (σ24 : qSt) => (qb (qrow σ24 (B + 6) (fun _ => 0)) fun (σ27 : qSt) => (qb (qrow σ27 B (σ27 B)) fun (σ29 : qSt) => (qb (qrow σ29 (B + 7) (fun _ => 0)) fun (σ32 : qSt) => (qb (qrow σ32 B (σ32 B)) fun (σ34 : qSt) => (qb (qrow σ34 (B + 8) (fun _ => 0)) fun (σ37 : qSt) => (qb (qrow σ37 B (σ37 B)) fun (σ39 : qSt) => (qb (qrow σ39 (B + 9) (fun _ => 0)) fun (σ42 : qSt) => (qb (qrow σ42 B (σ42 B)) fun (σ44 : qSt) => (qb (qrow σ44 (B + 10) (fun _ => 0)) fun (σ47 : qSt) => (qb (qrow σ47 B (σ47 B)) fun (σ49 : qSt) => (qb (qrow σ49 (B + 11) (fun _ => 0)) fun (σ52 : qSt) => (qb (qrow σ52 B (σ52 B)) fun (σ54 : qSt) => (qb (qrow σ54 (B + 12) (fun _ => 0)) fun (σ57 : qSt) => (qb (qrow σ57 B (σ57 B)) fun (σ59 : qSt) => (qbd (fJ7_fill_53178 (B + 2) (-1) σ59) fun (_ : Int) (σ61 : qSt) => some (0, σ61))))))))))))))))))))))))))
set_option maxRecDepth 100000 in
set_option maxHeartbeats 4000000 in
theorem tX3_init {l : Launch} {z0 : Nat} {g : qG} {w : qWd} {B aB : Nat} (hT : w B = some (aB, qOb 3 (fun r => [.null, .null, .null, .null, .null, .null, .null, .null, .null, .null, .null, .null, .int (qI (r 12))]))) (hB9 : 1 ≤ B) (σ : qSt) : qNT l yX3_init cX3_init 1 (qrk 3 12 600) g z0 w [.ref aB] σ (fX3_init B σ) (qPW g w B aB) := by
  refine qNT.of [(0, some (.ref aB))] (by decide +kernel) (Nat.le_of_ble_eq_true rfl) rfl ?_
  intro p e s m args below meth c cx hin
  unfold fX3_init
  have hrest : ∀ j, (j < B ∨ B + 13 ≤ j) → w j = w j := fun _ _ => rfl
  refine r_aload_n (pc := 0) cx dX3_init_0 rfl ?_
  refine r_objInit (pc := 1) cx wm_X3_3 qobj1 qobj2 (Nat.le_of_ble_eq_true rfl) (Nat.le_of_ble_eq_true rfl) dX3_init_1 ?_
  refine r_aload_n (pc := 4) cx dX3_init_4 rfl ?_
  refine r_bipush (pc := 5) (v := 96) cx dX3_init_5 (by decide +kernel) ?_
  refine r_newarr_i (pc := 7) cx (B + 1) 96 rfl (by decide) qac_int (Nat.le_of_ble_eq_true rfl) (Nat.le_of_ble_eq_true rfl) dX3_init_7 (fun q1 σ2 => ?_)
  refine qS.wnm (fun w3 ew3 => ?_)
  have hT : w3 B = some (aB, qOb 3 (fun r => [.null, .null, .null, .null, .null, .null, .null, .null, .null, .null, .null, .null, .int (qI (r 12))])) := by rw [ew3]; exact qWput_get hT (by omega)
  have hCkinds : w3 (B + 1) = some (q1, qAI (g.2 0) 96) := by rw [ew3]; exact qWput_self _ _ _
  have hrest : ∀ j, (j < B ∨ B + 13 ≤ j) → w3 j = w j := fun j hj => by rw [ew3]; rw [qWput_ne _ (by omega)] <;> exact hrest j hj
  clear ew3
  refine r_putF (pc := 9) (fl' := (fun r => [.ref q1, .null, .null, .null, .null, .null, .null, .null, .null, .null, .null, .null, .int (qI (r 12))])) (r' := σ2 B) cx hcl_X3 qc_X3 hT (j := 0) (by decide) tyX3_ok nmX3 wf_X3_9 rfl hin rfl (tyX3_ok 0 (by decide)) rfl rfl (Nat.le_of_ble_eq_true rfl) rfl dX3_init_9 (fun σ4 => ?_)
  refine qS.wnm (fun w5 ew5 => ?_)
  have hCkinds : w5 (B + 1) = some (q1, qAI (g.2 0) 96) := by rw [ew5]; exact qWput_get hCkinds (by omega)
  have hT : w5 B = some (aB, qOb 3 (fun r => [.ref q1, .null, .null, .null, .null, .null, .null, .null, .null, .null, .null, .null, .int (qI (r 12))])) := by rw [ew5]; exact qWput_self _ _ _
  have hrest : ∀ j, (j < B ∨ B + 13 ≤ j) → w5 j = w j := fun j hj => by rw [ew5]; rw [qWput_ne _ (by omega)] <;> exact hrest j hj
  clear ew5
  refine r_aload_n (pc := 12) cx dX3_init_12 rfl ?_
  refine r_bipush (pc := 13) (v := 96) cx dX3_init_13 (by decide +kernel) ?_
  refine r_newarr_i (pc := 15) cx (B + 2) 96 rfl (by decide) qac_int (Nat.le_of_ble_eq_true rfl) (Nat.le_of_ble_eq_true rfl) dX3_init_15 (fun q6 σ7 => ?_)
  refine qS.wnm (fun w8 ew8 => ?_)
  have hCkinds : w8 (B + 1) = some (q1, qAI (g.2 0) 96) := by rw [ew8]; exact qWput_get hCkinds (by omega)
  have hT : w8 B = some (aB, qOb 3 (fun r => [.ref q1, .null, .null, .null, .null, .null, .null, .null, .null, .null, .null, .null, .int (qI (r 12))])) := by rw [ew8]; exact qWput_get hT (by omega)
  have hCbodies : w8 (B + 2) = some (q6, qAI (g.2 0) 96) := by rw [ew8]; exact qWput_self _ _ _
  have hrest : ∀ j, (j < B ∨ B + 13 ≤ j) → w8 j = w j := fun j hj => by rw [ew8]; rw [qWput_ne _ (by omega)] <;> exact hrest j hj
  clear ew8
  refine r_putF (pc := 17) (fl' := (fun r => [.ref q1, .ref q6, .null, .null, .null, .null, .null, .null, .null, .null, .null, .null, .int (qI (r 12))])) (r' := σ7 B) cx hcl_X3 qc_X3 hT (j := 1) (by decide) tyX3_ok nmX3 wf_X3_15 rfl hin rfl (tyX3_ok 1 (by decide)) rfl rfl (Nat.le_of_ble_eq_true rfl) rfl dX3_init_17 (fun σ9 => ?_)
  refine qS.wnm (fun w10 ew10 => ?_)
  have hCkinds : w10 (B + 1) = some (q1, qAI (g.2 0) 96) := by rw [ew10]; exact qWput_get hCkinds (by omega)
  have hCbodies : w10 (B + 2) = some (q6, qAI (g.2 0) 96) := by rw [ew10]; exact qWput_get hCbodies (by omega)
  have hT : w10 B = some (aB, qOb 3 (fun r => [.ref q1, .ref q6, .null, .null, .null, .null, .null, .null, .null, .null, .null, .null, .int (qI (r 12))])) := by rw [ew10]; exact qWput_self _ _ _
  have hrest : ∀ j, (j < B ∨ B + 13 ≤ j) → w10 j = w j := fun j hj => by rw [ew10]; rw [qWput_ne _ (by omega)] <;> exact hrest j hj
  clear ew10
  refine r_aload_n (pc := 20) cx dX3_init_20 rfl ?_
  refine r_bipush (pc := 21) (v := 96) cx dX3_init_21 (by decide +kernel) ?_
  refine r_newarr_i (pc := 23) cx (B + 3) 96 rfl (by decide) qac_int (Nat.le_of_ble_eq_true rfl) (Nat.le_of_ble_eq_true rfl) dX3_init_23 (fun q11 σ12 => ?_)
  refine qS.wnm (fun w13 ew13 => ?_)
  have hCkinds : w13 (B + 1) = some (q1, qAI (g.2 0) 96) := by rw [ew13]; exact qWput_get hCkinds (by omega)
  have hCbodies : w13 (B + 2) = some (q6, qAI (g.2 0) 96) := by rw [ew13]; exact qWput_get hCbodies (by omega)
  have hT : w13 B = some (aB, qOb 3 (fun r => [.ref q1, .ref q6, .null, .null, .null, .null, .null, .null, .null, .null, .null, .null, .int (qI (r 12))])) := by rw [ew13]; exact qWput_get hT (by omega)
  have hCparticles : w13 (B + 3) = some (q11, qAI (g.2 0) 96) := by rw [ew13]; exact qWput_self _ _ _
  have hrest : ∀ j, (j < B ∨ B + 13 ≤ j) → w13 j = w j := fun j hj => by rw [ew13]; rw [qWput_ne _ (by omega)] <;> exact hrest j hj
  clear ew13
  refine r_putF (pc := 25) (fl' := (fun r => [.ref q1, .ref q6, .ref q11, .null, .null, .null, .null, .null, .null, .null, .null, .null, .int (qI (r 12))])) (r' := σ12 B) cx hcl_X3 qc_X3 hT (j := 2) (by decide) tyX3_ok nmX3 wf_X3_18 rfl hin rfl (tyX3_ok 2 (by decide)) rfl rfl (Nat.le_of_ble_eq_true rfl) rfl dX3_init_25 (fun σ14 => ?_)
  refine qS.wnm (fun w15 ew15 => ?_)
  have hCkinds : w15 (B + 1) = some (q1, qAI (g.2 0) 96) := by rw [ew15]; exact qWput_get hCkinds (by omega)
  have hCbodies : w15 (B + 2) = some (q6, qAI (g.2 0) 96) := by rw [ew15]; exact qWput_get hCbodies (by omega)
  have hCparticles : w15 (B + 3) = some (q11, qAI (g.2 0) 96) := by rw [ew15]; exact qWput_get hCparticles (by omega)
  have hT : w15 B = some (aB, qOb 3 (fun r => [.ref q1, .ref q6, .ref q11, .null, .null, .null, .null, .null, .null, .null, .null, .null, .int (qI (r 12))])) := by rw [ew15]; exact qWput_self _ _ _
  have hrest : ∀ j, (j < B ∨ B + 13 ≤ j) → w15 j = w j := fun j hj => by rw [ew15]; rw [qWput_ne _ (by omega)] <;> exact hrest j hj
  clear ew15
  refine r_aload_n (pc := 28) cx dX3_init_28 rfl ?_
  refine r_bipush (pc := 29) (v := 96) cx dX3_init_29 (by decide +kernel) ?_
  refine r_newarr_i (pc := 31) cx (B + 4) 96 rfl (by decide) qac_int (Nat.le_of_ble_eq_true rfl) (Nat.le_of_ble_eq_true rfl) dX3_init_31 (fun q16 σ17 => ?_)
  refine qS.wnm (fun w18 ew18 => ?_)
  have hCkinds : w18 (B + 1) = some (q1, qAI (g.2 0) 96) := by rw [ew18]; exact qWput_get hCkinds (by omega)
  have hCbodies : w18 (B + 2) = some (q6, qAI (g.2 0) 96) := by rw [ew18]; exact qWput_get hCbodies (by omega)
  have hCparticles : w18 (B + 3) = some (q11, qAI (g.2 0) 96) := by rw [ew18]; exact qWput_get hCparticles (by omega)
  have hT : w18 B = some (aB, qOb 3 (fun r => [.ref q1, .ref q6, .ref q11, .null, .null, .null, .null, .null, .null, .null, .null, .null, .int (qI (r 12))])) := by rw [ew18]; exact qWput_get hT (by omega)
  have hCdyed : w18 (B + 4) = some (q16, qAI (g.2 0) 96) := by rw [ew18]; exact qWput_self _ _ _
  have hrest : ∀ j, (j < B ∨ B + 13 ≤ j) → w18 j = w j := fun j hj => by rw [ew18]; rw [qWput_ne _ (by omega)] <;> exact hrest j hj
  clear ew18
  refine r_putF (pc := 33) (fl' := (fun r => [.ref q1, .ref q6, .ref q11, .ref q16, .null, .null, .null, .null, .null, .null, .null, .null, .int (qI (r 12))])) (r' := σ17 B) cx hcl_X3 qc_X3 hT (j := 3) (by decide) tyX3_ok nmX3 wf_X3_21 rfl hin rfl (tyX3_ok 3 (by decide)) rfl rfl (Nat.le_of_ble_eq_true rfl) rfl dX3_init_33 (fun σ19 => ?_)
  refine qS.wnm (fun w20 ew20 => ?_)
  have hCkinds : w20 (B + 1) = some (q1, qAI (g.2 0) 96) := by rw [ew20]; exact qWput_get hCkinds (by omega)
  have hCbodies : w20 (B + 2) = some (q6, qAI (g.2 0) 96) := by rw [ew20]; exact qWput_get hCbodies (by omega)
  have hCparticles : w20 (B + 3) = some (q11, qAI (g.2 0) 96) := by rw [ew20]; exact qWput_get hCparticles (by omega)
  have hCdyed : w20 (B + 4) = some (q16, qAI (g.2 0) 96) := by rw [ew20]; exact qWput_get hCdyed (by omega)
  have hT : w20 B = some (aB, qOb 3 (fun r => [.ref q1, .ref q6, .ref q11, .ref q16, .null, .null, .null, .null, .null, .null, .null, .null, .int (qI (r 12))])) := by rw [ew20]; exact qWput_self _ _ _
  have hrest : ∀ j, (j < B ∨ B + 13 ≤ j) → w20 j = w j := fun j hj => by rw [ew20]; rw [qWput_ne _ (by omega)] <;> exact hrest j hj
  clear ew20
  refine r_aload_n (pc := 36) cx dX3_init_36 rfl ?_
  refine r_bipush (pc := 37) (v := 96) cx dX3_init_37 (by decide +kernel) ?_
  refine r_newarr_i (pc := 39) cx (B + 5) 96 rfl (by decide) qac_int (Nat.le_of_ble_eq_true rfl) (Nat.le_of_ble_eq_true rfl) dX3_init_39 (fun q21 σ22 => ?_)
  refine qS.wnm (fun w23 ew23 => ?_)
  have hCkinds : w23 (B + 1) = some (q1, qAI (g.2 0) 96) := by rw [ew23]; exact qWput_get hCkinds (by omega)
  have hCbodies : w23 (B + 2) = some (q6, qAI (g.2 0) 96) := by rw [ew23]; exact qWput_get hCbodies (by omega)
  have hCparticles : w23 (B + 3) = some (q11, qAI (g.2 0) 96) := by rw [ew23]; exact qWput_get hCparticles (by omega)
  have hCdyed : w23 (B + 4) = some (q16, qAI (g.2 0) 96) := by rw [ew23]; exact qWput_get hCdyed (by omega)
  have hT : w23 B = some (aB, qOb 3 (fun r => [.ref q1, .ref q6, .ref q11, .ref q16, .null, .null, .null, .null, .null, .null, .null, .null, .int (qI (r 12))])) := by rw [ew23]; exact qWput_get hT (by omega)
  have hChoppedParticles : w23 (B + 5) = some (q21, qAI (g.2 0) 96) := by rw [ew23]; exact qWput_self _ _ _
  have hrest : ∀ j, (j < B ∨ B + 13 ≤ j) → w23 j = w j := fun j hj => by rw [ew23]; rw [qWput_ne _ (by omega)] <;> exact hrest j hj
  clear ew23
  refine r_putF (pc := 41) (fl' := (fun r => [.ref q1, .ref q6, .ref q11, .ref q16, .ref q21, .null, .null, .null, .null, .null, .null, .null, .int (qI (r 12))])) (r' := σ22 B) cx hcl_X3 qc_X3 hT (j := 4) (by decide) tyX3_ok nmX3 wf_X3_24 rfl hin rfl (tyX3_ok 4 (by decide)) rfl rfl (Nat.le_of_ble_eq_true rfl) rfl dX3_init_41 (fun σ24 => ?_)
  refine qS.wnm (fun w25 ew25 => ?_)
  have hCkinds : w25 (B + 1) = some (q1, qAI (g.2 0) 96) := by rw [ew25]; exact qWput_get hCkinds (by omega)
  have hCbodies : w25 (B + 2) = some (q6, qAI (g.2 0) 96) := by rw [ew25]; exact qWput_get hCbodies (by omega)
  have hCparticles : w25 (B + 3) = some (q11, qAI (g.2 0) 96) := by rw [ew25]; exact qWput_get hCparticles (by omega)
  have hCdyed : w25 (B + 4) = some (q16, qAI (g.2 0) 96) := by rw [ew25]; exact qWput_get hCdyed (by omega)
  have hChoppedParticles : w25 (B + 5) = some (q21, qAI (g.2 0) 96) := by rw [ew25]; exact qWput_get hChoppedParticles (by omega)
  have hT : w25 B = some (aB, qOb 3 (fun r => [.ref q1, .ref q6, .ref q11, .ref q16, .ref q21, .null, .null, .null, .null, .null, .null, .null, .int (qI (r 12))])) := by rw [ew25]; exact qWput_self _ _ _
  have hrest : ∀ j, (j < B ∨ B + 13 ≤ j) → w25 j = w j := fun j hj => by rw [ew25]; rw [qWput_ne _ (by omega)] <;> exact hrest j hj
  clear ew25
  refine r_aload_n (pc := 44) cx dX3_init_44 rfl ?_
  refine r_bipush (pc := 45) (v := 96) cx dX3_init_45 (by decide +kernel) ?_
  refine r_newarr_i (pc := 47) cx (B + 6) 96 rfl (by decide) qac_int (Nat.le_of_ble_eq_true rfl) (Nat.le_of_ble_eq_true rfl) dX3_init_47 (fun q26 σ27 => ?_)
  refine qS.wnm (fun w28 ew28 => ?_)
  have hCkinds : w28 (B + 1) = some (q1, qAI (g.2 0) 96) := by rw [ew28]; exact qWput_get hCkinds (by omega)
  have hCbodies : w28 (B + 2) = some (q6, qAI (g.2 0) 96) := by rw [ew28]; exact qWput_get hCbodies (by omega)
  have hCparticles : w28 (B + 3) = some (q11, qAI (g.2 0) 96) := by rw [ew28]; exact qWput_get hCparticles (by omega)
  have hCdyed : w28 (B + 4) = some (q16, qAI (g.2 0) 96) := by rw [ew28]; exact qWput_get hCdyed (by omega)
  have hChoppedParticles : w28 (B + 5) = some (q21, qAI (g.2 0) 96) := by rw [ew28]; exact qWput_get hChoppedParticles (by omega)
  have hT : w28 B = some (aB, qOb 3 (fun r => [.ref q1, .ref q6, .ref q11, .ref q16, .ref q21, .null, .null, .null, .null, .null, .null, .null, .int (qI (r 12))])) := by rw [ew28]; exact qWput_get hT (by omega)
  have hChoppedDyed : w28 (B + 6) = some (q26, qAI (g.2 0) 96) := by rw [ew28]; exact qWput_self _ _ _
  have hrest : ∀ j, (j < B ∨ B + 13 ≤ j) → w28 j = w j := fun j hj => by rw [ew28]; rw [qWput_ne _ (by omega)] <;> exact hrest j hj
  clear ew28
  refine r_putF (pc := 49) (fl' := (fun r => [.ref q1, .ref q6, .ref q11, .ref q16, .ref q21, .ref q26, .null, .null, .null, .null, .null, .null, .int (qI (r 12))])) (r' := σ27 B) cx hcl_X3 qc_X3 hT (j := 5) (by decide) tyX3_ok nmX3 wf_X3_27 rfl hin rfl (tyX3_ok 5 (by decide)) rfl rfl (Nat.le_of_ble_eq_true rfl) rfl dX3_init_49 (fun σ29 => ?_)
  refine qS.wnm (fun w30 ew30 => ?_)
  have hCkinds : w30 (B + 1) = some (q1, qAI (g.2 0) 96) := by rw [ew30]; exact qWput_get hCkinds (by omega)
  have hCbodies : w30 (B + 2) = some (q6, qAI (g.2 0) 96) := by rw [ew30]; exact qWput_get hCbodies (by omega)
  have hCparticles : w30 (B + 3) = some (q11, qAI (g.2 0) 96) := by rw [ew30]; exact qWput_get hCparticles (by omega)
  have hCdyed : w30 (B + 4) = some (q16, qAI (g.2 0) 96) := by rw [ew30]; exact qWput_get hCdyed (by omega)
  have hChoppedParticles : w30 (B + 5) = some (q21, qAI (g.2 0) 96) := by rw [ew30]; exact qWput_get hChoppedParticles (by omega)
  have hChoppedDyed : w30 (B + 6) = some (q26, qAI (g.2 0) 96) := by rw [ew30]; exact qWput_get hChoppedDyed (by omega)
  have hT : w30 B = some (aB, qOb 3 (fun r => [.ref q1, .ref q6, .ref q11, .ref q16, .ref q21, .ref q26, .null, .null, .null, .null, .null, .null, .int (qI (r 12))])) := by rw [ew30]; exact qWput_self _ _ _
  have hrest : ∀ j, (j < B ∨ B + 13 ≤ j) → w30 j = w j := fun j hj => by rw [ew30]; rw [qWput_ne _ (by omega)] <;> exact hrest j hj
  clear ew30
  refine r_aload_n (pc := 52) cx dX3_init_52 rfl ?_
  refine r_iconst (pc := 53) cx dX3_init_53 ?_
  refine r_newarr_i (pc := 54) cx (B + 7) 4 rfl (by decide) qac_int (Nat.le_of_ble_eq_true rfl) (Nat.le_of_ble_eq_true rfl) dX3_init_54 (fun q31 σ32 => ?_)
  refine qS.wnm (fun w33 ew33 => ?_)
  have hCkinds : w33 (B + 1) = some (q1, qAI (g.2 0) 96) := by rw [ew33]; exact qWput_get hCkinds (by omega)
  have hCbodies : w33 (B + 2) = some (q6, qAI (g.2 0) 96) := by rw [ew33]; exact qWput_get hCbodies (by omega)
  have hCparticles : w33 (B + 3) = some (q11, qAI (g.2 0) 96) := by rw [ew33]; exact qWput_get hCparticles (by omega)
  have hCdyed : w33 (B + 4) = some (q16, qAI (g.2 0) 96) := by rw [ew33]; exact qWput_get hCdyed (by omega)
  have hChoppedParticles : w33 (B + 5) = some (q21, qAI (g.2 0) 96) := by rw [ew33]; exact qWput_get hChoppedParticles (by omega)
  have hChoppedDyed : w33 (B + 6) = some (q26, qAI (g.2 0) 96) := by rw [ew33]; exact qWput_get hChoppedDyed (by omega)
  have hT : w33 B = some (aB, qOb 3 (fun r => [.ref q1, .ref q6, .ref q11, .ref q16, .ref q21, .ref q26, .null, .null, .null, .null, .null, .null, .int (qI (r 12))])) := by rw [ew33]; exact qWput_get hT (by omega)
  have hChits : w33 (B + 7) = some (q31, qAI (g.2 0) 4) := by rw [ew33]; exact qWput_self _ _ _
  have hrest : ∀ j, (j < B ∨ B + 13 ≤ j) → w33 j = w j := fun j hj => by rw [ew33]; rw [qWput_ne _ (by omega)] <;> exact hrest j hj
  clear ew33
  refine r_putF (pc := 56) (fl' := (fun r => [.ref q1, .ref q6, .ref q11, .ref q16, .ref q21, .ref q26, .ref q31, .null, .null, .null, .null, .null, .int (qI (r 12))])) (r' := σ32 B) cx hcl_X3 qc_X3 hT (j := 6) (by decide) tyX3_ok nmX3 wf_X3_30 rfl hin rfl (tyX3_ok 6 (by decide)) rfl rfl (Nat.le_of_ble_eq_true rfl) rfl dX3_init_56 (fun σ34 => ?_)
  refine qS.wnm (fun w35 ew35 => ?_)
  have hCkinds : w35 (B + 1) = some (q1, qAI (g.2 0) 96) := by rw [ew35]; exact qWput_get hCkinds (by omega)
  have hCbodies : w35 (B + 2) = some (q6, qAI (g.2 0) 96) := by rw [ew35]; exact qWput_get hCbodies (by omega)
  have hCparticles : w35 (B + 3) = some (q11, qAI (g.2 0) 96) := by rw [ew35]; exact qWput_get hCparticles (by omega)
  have hCdyed : w35 (B + 4) = some (q16, qAI (g.2 0) 96) := by rw [ew35]; exact qWput_get hCdyed (by omega)
  have hChoppedParticles : w35 (B + 5) = some (q21, qAI (g.2 0) 96) := by rw [ew35]; exact qWput_get hChoppedParticles (by omega)
  have hChoppedDyed : w35 (B + 6) = some (q26, qAI (g.2 0) 96) := by rw [ew35]; exact qWput_get hChoppedDyed (by omega)
  have hChits : w35 (B + 7) = some (q31, qAI (g.2 0) 4) := by rw [ew35]; exact qWput_get hChits (by omega)
  have hT : w35 B = some (aB, qOb 3 (fun r => [.ref q1, .ref q6, .ref q11, .ref q16, .ref q21, .ref q26, .ref q31, .null, .null, .null, .null, .null, .int (qI (r 12))])) := by rw [ew35]; exact qWput_self _ _ _
  have hrest : ∀ j, (j < B ∨ B + 13 ≤ j) → w35 j = w j := fun j hj => by rw [ew35]; rw [qWput_ne _ (by omega)] <;> exact hrest j hj
  clear ew35
  refine r_aload_n (pc := 59) cx dX3_init_59 rfl ?_
  refine r_iconst (pc := 60) cx dX3_init_60 ?_
  refine r_newarr_i (pc := 61) cx (B + 8) 4 rfl (by decide) qac_int (Nat.le_of_ble_eq_true rfl) (Nat.le_of_ble_eq_true rfl) dX3_init_61 (fun q36 σ37 => ?_)
  refine qS.wnm (fun w38 ew38 => ?_)
  have hCkinds : w38 (B + 1) = some (q1, qAI (g.2 0) 96) := by rw [ew38]; exact qWput_get hCkinds (by omega)
  have hCbodies : w38 (B + 2) = some (q6, qAI (g.2 0) 96) := by rw [ew38]; exact qWput_get hCbodies (by omega)
  have hCparticles : w38 (B + 3) = some (q11, qAI (g.2 0) 96) := by rw [ew38]; exact qWput_get hCparticles (by omega)
  have hCdyed : w38 (B + 4) = some (q16, qAI (g.2 0) 96) := by rw [ew38]; exact qWput_get hCdyed (by omega)
  have hChoppedParticles : w38 (B + 5) = some (q21, qAI (g.2 0) 96) := by rw [ew38]; exact qWput_get hChoppedParticles (by omega)
  have hChoppedDyed : w38 (B + 6) = some (q26, qAI (g.2 0) 96) := by rw [ew38]; exact qWput_get hChoppedDyed (by omega)
  have hChits : w38 (B + 7) = some (q31, qAI (g.2 0) 4) := by rw [ew38]; exact qWput_get hChits (by omega)
  have hT : w38 B = some (aB, qOb 3 (fun r => [.ref q1, .ref q6, .ref q11, .ref q16, .ref q21, .ref q26, .ref q31, .null, .null, .null, .null, .null, .int (qI (r 12))])) := by rw [ew38]; exact qWput_get hT (by omega)
  have hCpushRight : w38 (B + 8) = some (q36, qAI (g.2 0) 4) := by rw [ew38]; exact qWput_self _ _ _
  have hrest : ∀ j, (j < B ∨ B + 13 ≤ j) → w38 j = w j := fun j hj => by rw [ew38]; rw [qWput_ne _ (by omega)] <;> exact hrest j hj
  clear ew38
  refine r_putF (pc := 63) (fl' := (fun r => [.ref q1, .ref q6, .ref q11, .ref q16, .ref q21, .ref q26, .ref q31, .ref q36, .null, .null, .null, .null, .int (qI (r 12))])) (r' := σ37 B) cx hcl_X3 qc_X3 hT (j := 7) (by decide) tyX3_ok nmX3 wf_X3_33 rfl hin rfl (tyX3_ok 7 (by decide)) rfl rfl (Nat.le_of_ble_eq_true rfl) rfl dX3_init_63 (fun σ39 => ?_)
  refine qS.wnm (fun w40 ew40 => ?_)
  have hCkinds : w40 (B + 1) = some (q1, qAI (g.2 0) 96) := by rw [ew40]; exact qWput_get hCkinds (by omega)
  have hCbodies : w40 (B + 2) = some (q6, qAI (g.2 0) 96) := by rw [ew40]; exact qWput_get hCbodies (by omega)
  have hCparticles : w40 (B + 3) = some (q11, qAI (g.2 0) 96) := by rw [ew40]; exact qWput_get hCparticles (by omega)
  have hCdyed : w40 (B + 4) = some (q16, qAI (g.2 0) 96) := by rw [ew40]; exact qWput_get hCdyed (by omega)
  have hChoppedParticles : w40 (B + 5) = some (q21, qAI (g.2 0) 96) := by rw [ew40]; exact qWput_get hChoppedParticles (by omega)
  have hChoppedDyed : w40 (B + 6) = some (q26, qAI (g.2 0) 96) := by rw [ew40]; exact qWput_get hChoppedDyed (by omega)
  have hChits : w40 (B + 7) = some (q31, qAI (g.2 0) 4) := by rw [ew40]; exact qWput_get hChits (by omega)
  have hCpushRight : w40 (B + 8) = some (q36, qAI (g.2 0) 4) := by rw [ew40]; exact qWput_get hCpushRight (by omega)
  have hT : w40 B = some (aB, qOb 3 (fun r => [.ref q1, .ref q6, .ref q11, .ref q16, .ref q21, .ref q26, .ref q31, .ref q36, .null, .null, .null, .null, .int (qI (r 12))])) := by rw [ew40]; exact qWput_self _ _ _
  have hrest : ∀ j, (j < B ∨ B + 13 ≤ j) → w40 j = w j := fun j hj => by rw [ew40]; rw [qWput_ne _ (by omega)] <;> exact hrest j hj
  clear ew40
  refine r_aload_n (pc := 66) cx dX3_init_66 rfl ?_
  refine r_iconst (pc := 67) cx dX3_init_67 ?_
  refine r_newarr_i (pc := 68) cx (B + 9) 4 rfl (by decide) qac_int (Nat.le_of_ble_eq_true rfl) (Nat.le_of_ble_eq_true rfl) dX3_init_68 (fun q41 σ42 => ?_)
  refine qS.wnm (fun w43 ew43 => ?_)
  have hCkinds : w43 (B + 1) = some (q1, qAI (g.2 0) 96) := by rw [ew43]; exact qWput_get hCkinds (by omega)
  have hCbodies : w43 (B + 2) = some (q6, qAI (g.2 0) 96) := by rw [ew43]; exact qWput_get hCbodies (by omega)
  have hCparticles : w43 (B + 3) = some (q11, qAI (g.2 0) 96) := by rw [ew43]; exact qWput_get hCparticles (by omega)
  have hCdyed : w43 (B + 4) = some (q16, qAI (g.2 0) 96) := by rw [ew43]; exact qWput_get hCdyed (by omega)
  have hChoppedParticles : w43 (B + 5) = some (q21, qAI (g.2 0) 96) := by rw [ew43]; exact qWput_get hChoppedParticles (by omega)
  have hChoppedDyed : w43 (B + 6) = some (q26, qAI (g.2 0) 96) := by rw [ew43]; exact qWput_get hChoppedDyed (by omega)
  have hChits : w43 (B + 7) = some (q31, qAI (g.2 0) 4) := by rw [ew43]; exact qWput_get hChits (by omega)
  have hCpushRight : w43 (B + 8) = some (q36, qAI (g.2 0) 4) := by rw [ew43]; exact qWput_get hCpushRight (by omega)
  have hT : w43 B = some (aB, qOb 3 (fun r => [.ref q1, .ref q6, .ref q11, .ref q16, .ref q21, .ref q26, .ref q31, .ref q36, .null, .null, .null, .null, .int (qI (r 12))])) := by rw [ew43]; exact qWput_get hT (by omega)
  have hCpushUp : w43 (B + 9) = some (q41, qAI (g.2 0) 4) := by rw [ew43]; exact qWput_self _ _ _
  have hrest : ∀ j, (j < B ∨ B + 13 ≤ j) → w43 j = w j := fun j hj => by rw [ew43]; rw [qWput_ne _ (by omega)] <;> exact hrest j hj
  clear ew43
  refine r_putF (pc := 70) (fl' := (fun r => [.ref q1, .ref q6, .ref q11, .ref q16, .ref q21, .ref q26, .ref q31, .ref q36, .ref q41, .null, .null, .null, .int (qI (r 12))])) (r' := σ42 B) cx hcl_X3 qc_X3 hT (j := 8) (by decide) tyX3_ok nmX3 wf_X3_36 rfl hin rfl (tyX3_ok 8 (by decide)) rfl rfl (Nat.le_of_ble_eq_true rfl) rfl dX3_init_70 (fun σ44 => ?_)
  refine qS.wnm (fun w45 ew45 => ?_)
  have hCkinds : w45 (B + 1) = some (q1, qAI (g.2 0) 96) := by rw [ew45]; exact qWput_get hCkinds (by omega)
  have hCbodies : w45 (B + 2) = some (q6, qAI (g.2 0) 96) := by rw [ew45]; exact qWput_get hCbodies (by omega)
  have hCparticles : w45 (B + 3) = some (q11, qAI (g.2 0) 96) := by rw [ew45]; exact qWput_get hCparticles (by omega)
  have hCdyed : w45 (B + 4) = some (q16, qAI (g.2 0) 96) := by rw [ew45]; exact qWput_get hCdyed (by omega)
  have hChoppedParticles : w45 (B + 5) = some (q21, qAI (g.2 0) 96) := by rw [ew45]; exact qWput_get hChoppedParticles (by omega)
  have hChoppedDyed : w45 (B + 6) = some (q26, qAI (g.2 0) 96) := by rw [ew45]; exact qWput_get hChoppedDyed (by omega)
  have hChits : w45 (B + 7) = some (q31, qAI (g.2 0) 4) := by rw [ew45]; exact qWput_get hChits (by omega)
  have hCpushRight : w45 (B + 8) = some (q36, qAI (g.2 0) 4) := by rw [ew45]; exact qWput_get hCpushRight (by omega)
  have hCpushUp : w45 (B + 9) = some (q41, qAI (g.2 0) 4) := by rw [ew45]; exact qWput_get hCpushUp (by omega)
  have hT : w45 B = some (aB, qOb 3 (fun r => [.ref q1, .ref q6, .ref q11, .ref q16, .ref q21, .ref q26, .ref q31, .ref q36, .ref q41, .null, .null, .null, .int (qI (r 12))])) := by rw [ew45]; exact qWput_self _ _ _
  have hrest : ∀ j, (j < B ∨ B + 13 ≤ j) → w45 j = w j := fun j hj => by rw [ew45]; rw [qWput_ne _ (by omega)] <;> exact hrest j hj
  clear ew45
  refine r_aload_n (pc := 73) cx dX3_init_73 rfl ?_
  refine r_iconst (pc := 74) cx dX3_init_74 ?_
  refine r_newarr_i (pc := 75) cx (B + 10) 4 rfl (by decide) qac_int (Nat.le_of_ble_eq_true rfl) (Nat.le_of_ble_eq_true rfl) dX3_init_75 (fun q46 σ47 => ?_)
  refine qS.wnm (fun w48 ew48 => ?_)
  have hCkinds : w48 (B + 1) = some (q1, qAI (g.2 0) 96) := by rw [ew48]; exact qWput_get hCkinds (by omega)
  have hCbodies : w48 (B + 2) = some (q6, qAI (g.2 0) 96) := by rw [ew48]; exact qWput_get hCbodies (by omega)
  have hCparticles : w48 (B + 3) = some (q11, qAI (g.2 0) 96) := by rw [ew48]; exact qWput_get hCparticles (by omega)
  have hCdyed : w48 (B + 4) = some (q16, qAI (g.2 0) 96) := by rw [ew48]; exact qWput_get hCdyed (by omega)
  have hChoppedParticles : w48 (B + 5) = some (q21, qAI (g.2 0) 96) := by rw [ew48]; exact qWput_get hChoppedParticles (by omega)
  have hChoppedDyed : w48 (B + 6) = some (q26, qAI (g.2 0) 96) := by rw [ew48]; exact qWput_get hChoppedDyed (by omega)
  have hChits : w48 (B + 7) = some (q31, qAI (g.2 0) 4) := by rw [ew48]; exact qWput_get hChits (by omega)
  have hCpushRight : w48 (B + 8) = some (q36, qAI (g.2 0) 4) := by rw [ew48]; exact qWput_get hCpushRight (by omega)
  have hCpushUp : w48 (B + 9) = some (q41, qAI (g.2 0) 4) := by rw [ew48]; exact qWput_get hCpushUp (by omega)
  have hT : w48 B = some (aB, qOb 3 (fun r => [.ref q1, .ref q6, .ref q11, .ref q16, .ref q21, .ref q26, .ref q31, .ref q36, .ref q41, .null, .null, .null, .int (qI (r 12))])) := by rw [ew48]; exact qWput_get hT (by omega)
  have hCcame : w48 (B + 10) = some (q46, qAI (g.2 0) 4) := by rw [ew48]; exact qWput_self _ _ _
  have hrest : ∀ j, (j < B ∨ B + 13 ≤ j) → w48 j = w j := fun j hj => by rw [ew48]; rw [qWput_ne _ (by omega)] <;> exact hrest j hj
  clear ew48
  refine r_putF (pc := 77) (fl' := (fun r => [.ref q1, .ref q6, .ref q11, .ref q16, .ref q21, .ref q26, .ref q31, .ref q36, .ref q41, .ref q46, .null, .null, .int (qI (r 12))])) (r' := σ47 B) cx hcl_X3 qc_X3 hT (j := 9) (by decide) tyX3_ok nmX3 wf_X3_39 rfl hin rfl (tyX3_ok 9 (by decide)) rfl rfl (Nat.le_of_ble_eq_true rfl) rfl dX3_init_77 (fun σ49 => ?_)
  refine qS.wnm (fun w50 ew50 => ?_)
  have hCkinds : w50 (B + 1) = some (q1, qAI (g.2 0) 96) := by rw [ew50]; exact qWput_get hCkinds (by omega)
  have hCbodies : w50 (B + 2) = some (q6, qAI (g.2 0) 96) := by rw [ew50]; exact qWput_get hCbodies (by omega)
  have hCparticles : w50 (B + 3) = some (q11, qAI (g.2 0) 96) := by rw [ew50]; exact qWput_get hCparticles (by omega)
  have hCdyed : w50 (B + 4) = some (q16, qAI (g.2 0) 96) := by rw [ew50]; exact qWput_get hCdyed (by omega)
  have hChoppedParticles : w50 (B + 5) = some (q21, qAI (g.2 0) 96) := by rw [ew50]; exact qWput_get hChoppedParticles (by omega)
  have hChoppedDyed : w50 (B + 6) = some (q26, qAI (g.2 0) 96) := by rw [ew50]; exact qWput_get hChoppedDyed (by omega)
  have hChits : w50 (B + 7) = some (q31, qAI (g.2 0) 4) := by rw [ew50]; exact qWput_get hChits (by omega)
  have hCpushRight : w50 (B + 8) = some (q36, qAI (g.2 0) 4) := by rw [ew50]; exact qWput_get hCpushRight (by omega)
  have hCpushUp : w50 (B + 9) = some (q41, qAI (g.2 0) 4) := by rw [ew50]; exact qWput_get hCpushUp (by omega)
  have hCcame : w50 (B + 10) = some (q46, qAI (g.2 0) 4) := by rw [ew50]; exact qWput_get hCcame (by omega)
  have hT : w50 B = some (aB, qOb 3 (fun r => [.ref q1, .ref q6, .ref q11, .ref q16, .ref q21, .ref q26, .ref q31, .ref q36, .ref q41, .ref q46, .null, .null, .int (qI (r 12))])) := by rw [ew50]; exact qWput_self _ _ _
  have hrest : ∀ j, (j < B ∨ B + 13 ≤ j) → w50 j = w j := fun j hj => by rw [ew50]; rw [qWput_ne _ (by omega)] <;> exact hrest j hj
  clear ew50
  refine r_aload_n (pc := 80) cx dX3_init_80 rfl ?_
  refine r_iconst (pc := 81) cx dX3_init_81 ?_
  refine r_newarr_i (pc := 82) cx (B + 11) 4 rfl (by decide) qac_int (Nat.le_of_ble_eq_true rfl) (Nat.le_of_ble_eq_true rfl) dX3_init_82 (fun q51 σ52 => ?_)
  refine qS.wnm (fun w53 ew53 => ?_)
  have hCkinds : w53 (B + 1) = some (q1, qAI (g.2 0) 96) := by rw [ew53]; exact qWput_get hCkinds (by omega)
  have hCbodies : w53 (B + 2) = some (q6, qAI (g.2 0) 96) := by rw [ew53]; exact qWput_get hCbodies (by omega)
  have hCparticles : w53 (B + 3) = some (q11, qAI (g.2 0) 96) := by rw [ew53]; exact qWput_get hCparticles (by omega)
  have hCdyed : w53 (B + 4) = some (q16, qAI (g.2 0) 96) := by rw [ew53]; exact qWput_get hCdyed (by omega)
  have hChoppedParticles : w53 (B + 5) = some (q21, qAI (g.2 0) 96) := by rw [ew53]; exact qWput_get hChoppedParticles (by omega)
  have hChoppedDyed : w53 (B + 6) = some (q26, qAI (g.2 0) 96) := by rw [ew53]; exact qWput_get hChoppedDyed (by omega)
  have hChits : w53 (B + 7) = some (q31, qAI (g.2 0) 4) := by rw [ew53]; exact qWput_get hChits (by omega)
  have hCpushRight : w53 (B + 8) = some (q36, qAI (g.2 0) 4) := by rw [ew53]; exact qWput_get hCpushRight (by omega)
  have hCpushUp : w53 (B + 9) = some (q41, qAI (g.2 0) 4) := by rw [ew53]; exact qWput_get hCpushUp (by omega)
  have hCcame : w53 (B + 10) = some (q46, qAI (g.2 0) 4) := by rw [ew53]; exact qWput_get hCcame (by omega)
  have hT : w53 B = some (aB, qOb 3 (fun r => [.ref q1, .ref q6, .ref q11, .ref q16, .ref q21, .ref q26, .ref q31, .ref q36, .ref q41, .ref q46, .null, .null, .int (qI (r 12))])) := by rw [ew53]; exact qWput_get hT (by omega)
  have hCgone : w53 (B + 11) = some (q51, qAI (g.2 0) 4) := by rw [ew53]; exact qWput_self _ _ _
  have hrest : ∀ j, (j < B ∨ B + 13 ≤ j) → w53 j = w j := fun j hj => by rw [ew53]; rw [qWput_ne _ (by omega)] <;> exact hrest j hj
  clear ew53
  refine r_putF (pc := 84) (fl' := (fun r => [.ref q1, .ref q6, .ref q11, .ref q16, .ref q21, .ref q26, .ref q31, .ref q36, .ref q41, .ref q46, .ref q51, .null, .int (qI (r 12))])) (r' := σ52 B) cx hcl_X3 qc_X3 hT (j := 10) (by decide) tyX3_ok nmX3 wf_X3_42 rfl hin rfl (tyX3_ok 10 (by decide)) rfl rfl (Nat.le_of_ble_eq_true rfl) rfl dX3_init_84 (fun σ54 => ?_)
  refine qS.wnm (fun w55 ew55 => ?_)
  have hCkinds : w55 (B + 1) = some (q1, qAI (g.2 0) 96) := by rw [ew55]; exact qWput_get hCkinds (by omega)
  have hCbodies : w55 (B + 2) = some (q6, qAI (g.2 0) 96) := by rw [ew55]; exact qWput_get hCbodies (by omega)
  have hCparticles : w55 (B + 3) = some (q11, qAI (g.2 0) 96) := by rw [ew55]; exact qWput_get hCparticles (by omega)
  have hCdyed : w55 (B + 4) = some (q16, qAI (g.2 0) 96) := by rw [ew55]; exact qWput_get hCdyed (by omega)
  have hChoppedParticles : w55 (B + 5) = some (q21, qAI (g.2 0) 96) := by rw [ew55]; exact qWput_get hChoppedParticles (by omega)
  have hChoppedDyed : w55 (B + 6) = some (q26, qAI (g.2 0) 96) := by rw [ew55]; exact qWput_get hChoppedDyed (by omega)
  have hChits : w55 (B + 7) = some (q31, qAI (g.2 0) 4) := by rw [ew55]; exact qWput_get hChits (by omega)
  have hCpushRight : w55 (B + 8) = some (q36, qAI (g.2 0) 4) := by rw [ew55]; exact qWput_get hCpushRight (by omega)
  have hCpushUp : w55 (B + 9) = some (q41, qAI (g.2 0) 4) := by rw [ew55]; exact qWput_get hCpushUp (by omega)
  have hCcame : w55 (B + 10) = some (q46, qAI (g.2 0) 4) := by rw [ew55]; exact qWput_get hCcame (by omega)
  have hCgone : w55 (B + 11) = some (q51, qAI (g.2 0) 4) := by rw [ew55]; exact qWput_get hCgone (by omega)
  have hT : w55 B = some (aB, qOb 3 (fun r => [.ref q1, .ref q6, .ref q11, .ref q16, .ref q21, .ref q26, .ref q31, .ref q36, .ref q41, .ref q46, .ref q51, .null, .int (qI (r 12))])) := by rw [ew55]; exact qWput_self _ _ _
  have hrest : ∀ j, (j < B ∨ B + 13 ≤ j) → w55 j = w j := fun j hj => by rw [ew55]; rw [qWput_ne _ (by omega)] <;> exact hrest j hj
  clear ew55
  refine r_aload_n (pc := 87) cx dX3_init_87 rfl ?_
  refine r_iconst (pc := 88) cx dX3_init_88 ?_
  refine r_newarr_i (pc := 89) cx (B + 12) 4 rfl (by decide) qac_int (Nat.le_of_ble_eq_true rfl) (Nat.le_of_ble_eq_true rfl) dX3_init_89 (fun q56 σ57 => ?_)
  refine qS.wnm (fun w58 ew58 => ?_)
  have hCkinds : w58 (B + 1) = some (q1, qAI (g.2 0) 96) := by rw [ew58]; exact qWput_get hCkinds (by omega)
  have hCbodies : w58 (B + 2) = some (q6, qAI (g.2 0) 96) := by rw [ew58]; exact qWput_get hCbodies (by omega)
  have hCparticles : w58 (B + 3) = some (q11, qAI (g.2 0) 96) := by rw [ew58]; exact qWput_get hCparticles (by omega)
  have hCdyed : w58 (B + 4) = some (q16, qAI (g.2 0) 96) := by rw [ew58]; exact qWput_get hCdyed (by omega)
  have hChoppedParticles : w58 (B + 5) = some (q21, qAI (g.2 0) 96) := by rw [ew58]; exact qWput_get hChoppedParticles (by omega)
  have hChoppedDyed : w58 (B + 6) = some (q26, qAI (g.2 0) 96) := by rw [ew58]; exact qWput_get hChoppedDyed (by omega)
  have hChits : w58 (B + 7) = some (q31, qAI (g.2 0) 4) := by rw [ew58]; exact qWput_get hChits (by omega)
  have hCpushRight : w58 (B + 8) = some (q36, qAI (g.2 0) 4) := by rw [ew58]; exact qWput_get hCpushRight (by omega)
  have hCpushUp : w58 (B + 9) = some (q41, qAI (g.2 0) 4) := by rw [ew58]; exact qWput_get hCpushUp (by omega)
  have hCcame : w58 (B + 10) = some (q46, qAI (g.2 0) 4) := by rw [ew58]; exact qWput_get hCcame (by omega)
  have hCgone : w58 (B + 11) = some (q51, qAI (g.2 0) 4) := by rw [ew58]; exact qWput_get hCgone (by omega)
  have hT : w58 B = some (aB, qOb 3 (fun r => [.ref q1, .ref q6, .ref q11, .ref q16, .ref q21, .ref q26, .ref q31, .ref q36, .ref q41, .ref q46, .ref q51, .null, .int (qI (r 12))])) := by rw [ew58]; exact qWput_get hT (by omega)
  have hCstruck : w58 (B + 12) = some (q56, qAI (g.2 0) 4) := by rw [ew58]; exact qWput_self _ _ _
  have hrest : ∀ j, (j < B ∨ B + 13 ≤ j) → w58 j = w j := fun j hj => by rw [ew58]; rw [qWput_ne _ (by omega)] <;> exact hrest j hj
  clear ew58
  refine r_putF (pc := 91) (fl' := (fun r => [.ref q1, .ref q6, .ref q11, .ref q16, .ref q21, .ref q26, .ref q31, .ref q36, .ref q41, .ref q46, .ref q51, .ref q56, .int (qI (r 12))])) (r' := σ57 B) cx hcl_X3 qc_X3 hT (j := 11) (by decide) tyX3_ok nmX3 wf_X3_45 rfl hin rfl (tyX3_ok 11 (by decide)) rfl rfl (Nat.le_of_ble_eq_true rfl) rfl dX3_init_91 (fun σ59 => ?_)
  refine qS.wnm (fun w60 ew60 => ?_)
  have hCkinds : w60 (B + 1) = some (q1, qAI (g.2 0) 96) := by rw [ew60]; exact qWput_get hCkinds (by omega)
  have hCbodies : w60 (B + 2) = some (q6, qAI (g.2 0) 96) := by rw [ew60]; exact qWput_get hCbodies (by omega)
  have hCparticles : w60 (B + 3) = some (q11, qAI (g.2 0) 96) := by rw [ew60]; exact qWput_get hCparticles (by omega)
  have hCdyed : w60 (B + 4) = some (q16, qAI (g.2 0) 96) := by rw [ew60]; exact qWput_get hCdyed (by omega)
  have hChoppedParticles : w60 (B + 5) = some (q21, qAI (g.2 0) 96) := by rw [ew60]; exact qWput_get hChoppedParticles (by omega)
  have hChoppedDyed : w60 (B + 6) = some (q26, qAI (g.2 0) 96) := by rw [ew60]; exact qWput_get hChoppedDyed (by omega)
  have hChits : w60 (B + 7) = some (q31, qAI (g.2 0) 4) := by rw [ew60]; exact qWput_get hChits (by omega)
  have hCpushRight : w60 (B + 8) = some (q36, qAI (g.2 0) 4) := by rw [ew60]; exact qWput_get hCpushRight (by omega)
  have hCpushUp : w60 (B + 9) = some (q41, qAI (g.2 0) 4) := by rw [ew60]; exact qWput_get hCpushUp (by omega)
  have hCcame : w60 (B + 10) = some (q46, qAI (g.2 0) 4) := by rw [ew60]; exact qWput_get hCcame (by omega)
  have hCgone : w60 (B + 11) = some (q51, qAI (g.2 0) 4) := by rw [ew60]; exact qWput_get hCgone (by omega)
  have hCstruck : w60 (B + 12) = some (q56, qAI (g.2 0) 4) := by rw [ew60]; exact qWput_get hCstruck (by omega)
  have hT : w60 B = some (aB, qOb 3 (fun r => [.ref q1, .ref q6, .ref q11, .ref q16, .ref q21, .ref q26, .ref q31, .ref q36, .ref q41, .ref q46, .ref q51, .ref q56, .int (qI (r 12))])) := by rw [ew60]; exact qWput_self _ _ _
  have hrest : ∀ j, (j < B ∨ B + 13 ≤ j) → w60 j = w j := fun j hj => by rw [ew60]; rw [qWput_ne _ (by omega)] <;> exact hrest j hj
  clear ew60
  refine r_aload_n (pc := 94) cx dX3_init_94 rfl ?_
  refine r_get (pc := 95) cx hcl_X3 qc_X3 hT (j := 1) (by decide) wf_X3_15 dX3_init_95 (x := .ref q6) rfl ?_
  refine r_iconst (pc := 98) cx dX3_init_98 ?_
  refine r_dSv (pc := 99) cx (tJ7_fill_53178 hCbodies (-1) σ59) qm_J7_fill_53178 qs_J7_fill_53178 wm_X3_48 dX3_init_99 rfl rfl (Nat.le_of_ble_eq_true rfl) ⟨Nat.le_of_ble_eq_true rfl, Nat.le_of_ble_eq_true rfl⟩ ⟨rfl, rfl⟩ ⟨Nat.le_of_ble_eq_true rfl, Nat.le_of_ble_eq_true rfl⟩ (fun r99 σ61 => ?_)
  obtain ⟨ad, had⟩ : ∃ ad : Nat → Nat, ∀ i, ad (B + i) = ([aB, q1, q6, q11, q16, q21, q26, q31, q36, q41, q46, q51, q56] : List Nat).getD i 0 := ⟨fun k => ([aB, q1, q6, q11, q16, q21, q26, q31, q36, q41, q46, q51, q56] : List Nat).getD (k - B) 0, fun i => by simp only [Nat.add_sub_cancel_left]⟩
  have a0 : ad B = aB := had 0
  have a1 : ad (B + 1) = q1 := had 1
  have a2 : ad (B + 2) = q6 := had 2
  have a3 : ad (B + 3) = q11 := had 3
  have a4 : ad (B + 4) = q16 := had 4
  have a5 : ad (B + 5) = q21 := had 5
  have a6 : ad (B + 6) = q26 := had 6
  have a7 : ad (B + 7) = q31 := had 7
  have a8 : ad (B + 8) = q36 := had 8
  have a9 : ad (B + 9) = q41 := had 9
  have a10 : ad (B + 10) = q46 := had 10
  have a11 : ad (B + 11) = q51 := had 11
  have a12 : ad (B + 12) = q56 := had 12
  have hP : qPW g w B aB w60 := ⟨ad, a0, by rw [a0]; simp only [a1, a2, a3, a4, a5, a6, a7, a8, a9, a10, a11, a12]; exact hT, by rw [a1]; exact hCkinds, by rw [a2]; exact hCbodies, by rw [a3]; exact hCparticles, by rw [a4]; exact hCdyed, by rw [a5]; exact hChoppedParticles, by rw [a6]; exact hChoppedDyed, by rw [a7]; exact hChits, by rw [a8]; exact hCpushRight, by rw [a9]; exact hCpushUp, by rw [a10]; exact hCcame, by rw [a11]; exact hCgone, by rw [a12]; exact hCstruck, hrest⟩
  exact r_nreturn (mc := 12) (ms := 600) hP (Nat.le_of_ble_eq_true rfl) (Nat.le_of_ble_eq_true rfl) cx dX3_init_102 rfl
def fX0_init (σ : qSt) : Option (Int × qSt) :=
  (qb (qSmna σ 28 30) fun (σ2 : qSt) => (qb (qrow σ2 27 (σ2 27)) fun (σ4 : qSt) => (qb (qSmna σ4 29 34) fun (σ7 : qSt) => (qb (qrow σ7 27 (σ7 27)) fun (σ9 : qSt) => some (0, σ9)))))
set_option maxRecDepth 100000 in
set_option maxHeartbeats 4000000 in
theorem tX0_init {l : Launch} {z0 : Nat} {g : qG} {w : qWd} {aB : Nat} (hT : w 27 = some (aB, qOb 0 (fun r => [.null, .null, .int (qI (r 2)), .long (qJ (r 3))]))) (σ : qSt) : qNT l yX0_init cX0_init 1 (qrk 3 10 776) g z0 w [.ref aB] σ (fX0_init σ) (qPC g w aB) := by
  refine qNT.of [(0, some (.ref aB))] (by decide +kernel) (Nat.le_of_ble_eq_true rfl) rfl ?_
  intro p e s m args below meth c cx hin
  unfold fX0_init
  have hrest : ∀ j, (j < 27 ∨ 38 ≤ j) → w j = w j := fun _ _ => rfl
  refine r_aload_n (pc := 0) cx dX0_init_0 rfl ?_
  refine r_objInit (pc := 1) cx wm_X0_3 qobj1 qobj2 (Nat.le_of_ble_eq_true rfl) (Nat.le_of_ble_eq_true rfl) dX0_init_1 ?_
  refine r_aload_n (pc := 4) cx dX0_init_4 rfl ?_
  refine r_iconst (pc := 5) cx dX0_init_5 ?_
  refine r_bipush (pc := 6) (v := 96) cx dX0_init_6 (by decide +kernel) ?_
  refine r_mna_i (pc := 8) cx 28 30 96 rfl (by decide) (by decide) wcm_X0_9 qao_int qac_int (Nat.le_of_ble_eq_true rfl) (Nat.le_of_ble_eq_true rfl) dX0_init_8 (fun q1 σ2 => ?_)
  refine qS.wnm (fun w3 ew3 => ?_)
  have hT : w3 27 = some (aB, qOb 0 (fun r => [.null, .null, .int (qI (r 2)), .long (qJ (r 3))])) := by rw [ew3]; exact qmna_get hT (by omega)
  have hCrows : w3 28 = some (q1, qAR (g.2 2) 4 (fun i => q1 + 1 + i)) := by rw [ew3]; rfl
  have hCrows0 : w3 30 = some (q1 + 1 + 0, qAI (g.2 0) 96) := by rw [ew3]; rfl
  have hCrows1 : w3 31 = some (q1 + 1 + 1, qAI (g.2 0) 96) := by rw [ew3]; rfl
  have hCrows2 : w3 32 = some (q1 + 1 + 2, qAI (g.2 0) 96) := by rw [ew3]; rfl
  have hCrows3 : w3 33 = some (q1 + 1 + 3, qAI (g.2 0) 96) := by rw [ew3]; rfl
  have hrest : ∀ j, (j < 27 ∨ 38 ≤ j) → w3 j = w j := fun j hj => by rw [ew3]; rw [qmna_ne (by omega)] <;> exact hrest j hj
  clear ew3
  refine r_putF (pc := 12) (fl' := (fun r => [.ref q1, .null, .int (qI (r 2)), .long (qJ (r 3))])) (r' := σ2 27) cx hcl_X0 qc_X0 hT (j := 0) (by decide) tyX0_ok nmX0 wf_X0_11 rfl hin rfl (tyX0_ok 0 (by decide)) rfl rfl (Nat.le_of_ble_eq_true rfl) rfl dX0_init_12 (fun σ4 => ?_)
  refine qS.wnm (fun w5 ew5 => ?_)
  have hCrows : w5 28 = some (q1, qAR (g.2 2) 4 (fun i => q1 + 1 + i)) := by rw [ew5]; exact qWput_get hCrows (by omega)
  have hCrows0 : w5 30 = some (q1 + 1 + 0, qAI (g.2 0) 96) := by rw [ew5]; exact qWput_get hCrows0 (by omega)
  have hCrows1 : w5 31 = some (q1 + 1 + 1, qAI (g.2 0) 96) := by rw [ew5]; exact qWput_get hCrows1 (by omega)
  have hCrows2 : w5 32 = some (q1 + 1 + 2, qAI (g.2 0) 96) := by rw [ew5]; exact qWput_get hCrows2 (by omega)
  have hCrows3 : w5 33 = some (q1 + 1 + 3, qAI (g.2 0) 96) := by rw [ew5]; exact qWput_get hCrows3 (by omega)
  have hT : w5 27 = some (aB, qOb 0 (fun r => [.ref q1, .null, .int (qI (r 2)), .long (qJ (r 3))])) := by rw [ew5]; exact qWput_self _ _ _
  have hrest : ∀ j, (j < 27 ∨ 38 ≤ j) → w5 j = w j := fun j hj => by rw [ew5]; rw [qWput_ne _ (by omega)] <;> exact hrest j hj
  clear ew5
  refine r_aload_n (pc := 15) cx dX0_init_15 rfl ?_
  refine r_iconst (pc := 16) cx dX0_init_16 ?_
  refine r_bipush (pc := 17) (v := 96) cx dX0_init_17 (by decide +kernel) ?_
  refine r_mna_i (pc := 19) cx 29 34 96 rfl (by decide) (by decide) wcm_X0_9 qao_int qac_int (Nat.le_of_ble_eq_true rfl) (Nat.le_of_ble_eq_true rfl) dX0_init_19 (fun q6 σ7 => ?_)
  refine qS.wnm (fun w8 ew8 => ?_)
  have hCrows : w8 28 = some (q1, qAR (g.2 2) 4 (fun i => q1 + 1 + i)) := by rw [ew8]; exact qmna_get hCrows (by omega)
  have hCrows0 : w8 30 = some (q1 + 1 + 0, qAI (g.2 0) 96) := by rw [ew8]; exact qmna_get hCrows0 (by omega)
  have hCrows1 : w8 31 = some (q1 + 1 + 1, qAI (g.2 0) 96) := by rw [ew8]; exact qmna_get hCrows1 (by omega)
  have hCrows2 : w8 32 = some (q1 + 1 + 2, qAI (g.2 0) 96) := by rw [ew8]; exact qmna_get hCrows2 (by omega)
  have hCrows3 : w8 33 = some (q1 + 1 + 3, qAI (g.2 0) 96) := by rw [ew8]; exact qmna_get hCrows3 (by omega)
  have hT : w8 27 = some (aB, qOb 0 (fun r => [.ref q1, .null, .int (qI (r 2)), .long (qJ (r 3))])) := by rw [ew8]; exact qmna_get hT (by omega)
  have hCmoved : w8 29 = some (q6, qAR (g.2 2) 4 (fun i => q6 + 1 + i)) := by rw [ew8]; rfl
  have hCmoved0 : w8 34 = some (q6 + 1 + 0, qAI (g.2 0) 96) := by rw [ew8]; rfl
  have hCmoved1 : w8 35 = some (q6 + 1 + 1, qAI (g.2 0) 96) := by rw [ew8]; rfl
  have hCmoved2 : w8 36 = some (q6 + 1 + 2, qAI (g.2 0) 96) := by rw [ew8]; rfl
  have hCmoved3 : w8 37 = some (q6 + 1 + 3, qAI (g.2 0) 96) := by rw [ew8]; rfl
  have hrest : ∀ j, (j < 27 ∨ 38 ≤ j) → w8 j = w j := fun j hj => by rw [ew8]; rw [qmna_ne (by omega)] <;> exact hrest j hj
  clear ew8
  refine r_putF (pc := 23) (fl' := (fun r => [.ref q1, .ref q6, .int (qI (r 2)), .long (qJ (r 3))])) (r' := σ7 27) cx hcl_X0 qc_X0 hT (j := 1) (by decide) tyX0_ok nmX0 wf_X0_16 rfl hin rfl (tyX0_ok 1 (by decide)) rfl rfl (Nat.le_of_ble_eq_true rfl) rfl dX0_init_23 (fun σ9 => ?_)
  refine qS.wnm (fun w10 ew10 => ?_)
  have hCrows : w10 28 = some (q1, qAR (g.2 2) 4 (fun i => q1 + 1 + i)) := by rw [ew10]; exact qWput_get hCrows (by omega)
  have hCrows0 : w10 30 = some (q1 + 1 + 0, qAI (g.2 0) 96) := by rw [ew10]; exact qWput_get hCrows0 (by omega)
  have hCrows1 : w10 31 = some (q1 + 1 + 1, qAI (g.2 0) 96) := by rw [ew10]; exact qWput_get hCrows1 (by omega)
  have hCrows2 : w10 32 = some (q1 + 1 + 2, qAI (g.2 0) 96) := by rw [ew10]; exact qWput_get hCrows2 (by omega)
  have hCrows3 : w10 33 = some (q1 + 1 + 3, qAI (g.2 0) 96) := by rw [ew10]; exact qWput_get hCrows3 (by omega)
  have hCmoved : w10 29 = some (q6, qAR (g.2 2) 4 (fun i => q6 + 1 + i)) := by rw [ew10]; exact qWput_get hCmoved (by omega)
  have hCmoved0 : w10 34 = some (q6 + 1 + 0, qAI (g.2 0) 96) := by rw [ew10]; exact qWput_get hCmoved0 (by omega)
  have hCmoved1 : w10 35 = some (q6 + 1 + 1, qAI (g.2 0) 96) := by rw [ew10]; exact qWput_get hCmoved1 (by omega)
  have hCmoved2 : w10 36 = some (q6 + 1 + 2, qAI (g.2 0) 96) := by rw [ew10]; exact qWput_get hCmoved2 (by omega)
  have hCmoved3 : w10 37 = some (q6 + 1 + 3, qAI (g.2 0) 96) := by rw [ew10]; exact qWput_get hCmoved3 (by omega)
  have hT : w10 27 = some (aB, qOb 0 (fun r => [.ref q1, .ref q6, .int (qI (r 2)), .long (qJ (r 3))])) := by rw [ew10]; exact qWput_self _ _ _
  have hrest : ∀ j, (j < 27 ∨ 38 ≤ j) → w10 j = w j := fun j hj => by rw [ew10]; rw [qWput_ne _ (by omega)] <;> exact hrest j hj
  clear ew10
  obtain ⟨ad, had⟩ : ∃ ad : Nat → Nat, ∀ i, ad (27 + i) = ([aB, q1, q6, q1 + 1 + 0, q1 + 1 + 1, q1 + 1 + 2, q1 + 1 + 3, q6 + 1 + 0, q6 + 1 + 1, q6 + 1 + 2, q6 + 1 + 3] : List Nat).getD i 0 := ⟨fun k => ([aB, q1, q6, q1 + 1 + 0, q1 + 1 + 1, q1 + 1 + 2, q1 + 1 + 3, q6 + 1 + 0, q6 + 1 + 1, q6 + 1 + 2, q6 + 1 + 3] : List Nat).getD (k - 27) 0, fun i => by simp only [Nat.add_sub_cancel_left]⟩
  have a27 : ad 27 = aB := had 0
  have a28 : ad 28 = q1 := had 1
  have a29 : ad 29 = q6 := had 2
  have a30 : ad 30 = q1 + 1 + 0 := had 3
  have a31 : ad 31 = q1 + 1 + 1 := had 4
  have a32 : ad 32 = q1 + 1 + 2 := had 5
  have a33 : ad 33 = q1 + 1 + 3 := had 6
  have a34 : ad 34 = q6 + 1 + 0 := had 7
  have a35 : ad 35 = q6 + 1 + 1 := had 8
  have a36 : ad 36 = q6 + 1 + 2 := had 9
  have a37 : ad 37 = q6 + 1 + 3 := had 10
  refine qS.relay 28 hCrows (f' := qAR (g.2 2) 4 (fun j => ad (30 + j))) (fun H9 => qAR_cong (fun j hj => by match j, hj with | 0, _ => exact a30.symm | 1, _ => exact a31.symm | 2, _ => exact a32.symm | 3, _ => exact a33.symm) H9) ?_
  refine qS.wnm (fun w11 ew11 => ?_)
  have hCrows : w11 28 = some (q1, qAR (g.2 2) 4 (fun j => ad (30 + j))) := by rw [ew11]; exact qWput_self _ _ _
  have hCrows0 : w11 30 = some (q1 + 1 + 0, qAI (g.2 0) 96) := by rw [ew11]; exact qWput_get hCrows0 (by decide)
  have hCrows1 : w11 31 = some (q1 + 1 + 1, qAI (g.2 0) 96) := by rw [ew11]; exact qWput_get hCrows1 (by decide)
  have hCrows2 : w11 32 = some (q1 + 1 + 2, qAI (g.2 0) 96) := by rw [ew11]; exact qWput_get hCrows2 (by decide)
  have hCrows3 : w11 33 = some (q1 + 1 + 3, qAI (g.2 0) 96) := by rw [ew11]; exact qWput_get hCrows3 (by decide)
  have hCmoved : w11 29 = some (q6, qAR (g.2 2) 4 (fun i => q6 + 1 + i)) := by rw [ew11]; exact qWput_get hCmoved (by decide)
  have hCmoved0 : w11 34 = some (q6 + 1 + 0, qAI (g.2 0) 96) := by rw [ew11]; exact qWput_get hCmoved0 (by decide)
  have hCmoved1 : w11 35 = some (q6 + 1 + 1, qAI (g.2 0) 96) := by rw [ew11]; exact qWput_get hCmoved1 (by decide)
  have hCmoved2 : w11 36 = some (q6 + 1 + 2, qAI (g.2 0) 96) := by rw [ew11]; exact qWput_get hCmoved2 (by decide)
  have hCmoved3 : w11 37 = some (q6 + 1 + 3, qAI (g.2 0) 96) := by rw [ew11]; exact qWput_get hCmoved3 (by decide)
  have hT : w11 27 = some (aB, qOb 0 (fun r => [.ref q1, .ref q6, .int (qI (r 2)), .long (qJ (r 3))])) := by rw [ew11]; exact qWput_get hT (by decide)
  have hrest : ∀ j, (j < 27 ∨ 38 ≤ j) → w11 j = w j := fun j hj => by rw [ew11, qWput_ne _ (by omega)]; exact hrest j hj
  refine qS.relay 29 hCmoved (f' := qAR (g.2 2) 4 (fun j => ad (34 + j))) (fun H9 => qAR_cong (fun j hj => by match j, hj with | 0, _ => exact a34.symm | 1, _ => exact a35.symm | 2, _ => exact a36.symm | 3, _ => exact a37.symm) H9) ?_
  refine qS.wnm (fun w12 ew12 => ?_)
  have hCrows : w12 28 = some (q1, qAR (g.2 2) 4 (fun j => ad (30 + j))) := by rw [ew12]; exact qWput_get hCrows (by decide)
  have hCrows0 : w12 30 = some (q1 + 1 + 0, qAI (g.2 0) 96) := by rw [ew12]; exact qWput_get hCrows0 (by decide)
  have hCrows1 : w12 31 = some (q1 + 1 + 1, qAI (g.2 0) 96) := by rw [ew12]; exact qWput_get hCrows1 (by decide)
  have hCrows2 : w12 32 = some (q1 + 1 + 2, qAI (g.2 0) 96) := by rw [ew12]; exact qWput_get hCrows2 (by decide)
  have hCrows3 : w12 33 = some (q1 + 1 + 3, qAI (g.2 0) 96) := by rw [ew12]; exact qWput_get hCrows3 (by decide)
  have hCmoved : w12 29 = some (q6, qAR (g.2 2) 4 (fun j => ad (34 + j))) := by rw [ew12]; exact qWput_self _ _ _
  have hCmoved0 : w12 34 = some (q6 + 1 + 0, qAI (g.2 0) 96) := by rw [ew12]; exact qWput_get hCmoved0 (by decide)
  have hCmoved1 : w12 35 = some (q6 + 1 + 1, qAI (g.2 0) 96) := by rw [ew12]; exact qWput_get hCmoved1 (by decide)
  have hCmoved2 : w12 36 = some (q6 + 1 + 2, qAI (g.2 0) 96) := by rw [ew12]; exact qWput_get hCmoved2 (by decide)
  have hCmoved3 : w12 37 = some (q6 + 1 + 3, qAI (g.2 0) 96) := by rw [ew12]; exact qWput_get hCmoved3 (by decide)
  have hT : w12 27 = some (aB, qOb 0 (fun r => [.ref q1, .ref q6, .int (qI (r 2)), .long (qJ (r 3))])) := by rw [ew12]; exact qWput_get hT (by decide)
  have hrest : ∀ j, (j < 27 ∨ 38 ≤ j) → w12 j = w j := fun j hj => by rw [ew12, qWput_ne _ (by omega)]; exact hrest j hj
  have hP : qPC g w aB w12 := ⟨ad, a27, by rw [a27]; simp only [a28, a29]; exact hT, by rw [a28]; exact hCrows, by rw [a29]; exact hCmoved, by rw [a30]; exact hCrows0, by rw [a31]; exact hCrows1, by rw [a32]; exact hCrows2, by rw [a33]; exact hCrows3, by rw [a34]; exact hCmoved0, by rw [a35]; exact hCmoved1, by rw [a36]; exact hCmoved2, by rw [a37]; exact hCmoved3, hrest⟩
  exact r_nreturn (mc := 10) (ms := 776) hP (Nat.le_of_ble_eq_true rfl) (Nat.le_of_ble_eq_true rfl) cx dX0_init_26 rfl
def fX1_init (σ : qSt) : Option (Int × qSt) :=
  (qb (qrow σ 39 (fun _ => 0)) fun (σ2 : qSt) => (qb (qrow σ2 38 (σ2 38)) fun (σ4 : qSt) => (qb (qrow σ4 40 (fun _ => 0)) fun (σ7 : qSt) => (qb (qrow σ7 38 (σ7 38)) fun (σ9 : qSt) => (qb (qSmna σ9 41 42) fun (σ12 : qSt) => (qb (qrow σ12 38 (σ12 38)) fun (σ14 : qSt) => some (0, σ14)))))))
set_option maxRecDepth 100000 in
set_option maxHeartbeats 4000000 in
theorem tX1_init {l : Launch} {z0 : Nat} {g : qG} {w : qWd} {aB : Nat} (hT : w 38 = some (aB, qOb 1 (fun r => [.null, .null, .null, .int (qI (r 3))]))) (σ : qSt) : qNT l yX1_init cX1_init 1 (qrk 3 7 20012) g z0 w [.ref aB] σ (fX1_init σ) (qPP g w aB) := by
  refine qNT.of [(0, some (.ref aB))] (by decide +kernel) (Nat.le_of_ble_eq_true rfl) rfl ?_
  intro p e s m args below meth c cx hin
  unfold fX1_init
  have hrest : ∀ j, (j < 38 ∨ 46 ≤ j) → w j = w j := fun _ _ => rfl
  refine r_aload_n (pc := 0) cx dX1_init_0 rfl ?_
  refine r_objInit (pc := 1) cx wm_X1_3 qobj1 qobj2 (Nat.le_of_ble_eq_true rfl) (Nat.le_of_ble_eq_true rfl) dX1_init_1 ?_
  refine r_aload_n (pc := 4) cx dX1_init_4 rfl ?_
  refine r_iconst (pc := 5) cx dX1_init_5 ?_
  refine r_newarr_i (pc := 6) cx 39 4 rfl (by decide) qac_int (Nat.le_of_ble_eq_true rfl) (Nat.le_of_ble_eq_true rfl) dX1_init_6 (fun q1 σ2 => ?_)
  refine qS.wnm (fun w3 ew3 => ?_)
  have hT : w3 38 = some (aB, qOb 1 (fun r => [.null, .null, .null, .int (qI (r 3))])) := by rw [ew3]; exact qWput_get hT (by omega)
  have hCcells : w3 39 = some (q1, qAI (g.2 0) 4) := by rw [ew3]; exact qWput_self _ _ _
  have hrest : ∀ j, (j < 38 ∨ 46 ≤ j) → w3 j = w j := fun j hj => by rw [ew3]; rw [qWput_ne _ (by omega)] <;> exact hrest j hj
  clear ew3
  refine r_putF (pc := 8) (fl' := (fun r => [.ref q1, .null, .null, .int (qI (r 3))])) (r' := σ2 38) cx hcl_X1 qc_X1 hT (j := 0) (by decide) tyX1_ok nmX1 wf_X1_9 rfl hin rfl (tyX1_ok 0 (by decide)) rfl rfl (Nat.le_of_ble_eq_true rfl) rfl dX1_init_8 (fun σ4 => ?_)
  refine qS.wnm (fun w5 ew5 => ?_)
  have hCcells : w5 39 = some (q1, qAI (g.2 0) 4) := by rw [ew5]; exact qWput_get hCcells (by omega)
  have hT : w5 38 = some (aB, qOb 1 (fun r => [.ref q1, .null, .null, .int (qI (r 3))])) := by rw [ew5]; exact qWput_self _ _ _
  have hrest : ∀ j, (j < 38 ∨ 46 ≤ j) → w5 j = w j := fun j hj => by rw [ew5]; rw [qWput_ne _ (by omega)] <;> exact hrest j hj
  clear ew5
  refine r_aload_n (pc := 11) cx dX1_init_11 rfl ?_
  refine r_iconst (pc := 12) cx dX1_init_12 ?_
  refine r_newarr_i (pc := 13) cx 40 4 rfl (by decide) qac_int (Nat.le_of_ble_eq_true rfl) (Nat.le_of_ble_eq_true rfl) dX1_init_13 (fun q6 σ7 => ?_)
  refine qS.wnm (fun w8 ew8 => ?_)
  have hCcells : w8 39 = some (q1, qAI (g.2 0) 4) := by rw [ew8]; exact qWput_get hCcells (by omega)
  have hT : w8 38 = some (aB, qOb 1 (fun r => [.ref q1, .null, .null, .int (qI (r 3))])) := by rw [ew8]; exact qWput_get hT (by omega)
  have hCrecorded : w8 40 = some (q6, qAI (g.2 0) 4) := by rw [ew8]; exact qWput_self _ _ _
  have hrest : ∀ j, (j < 38 ∨ 46 ≤ j) → w8 j = w j := fun j hj => by rw [ew8]; rw [qWput_ne _ (by omega)] <;> exact hrest j hj
  clear ew8
  refine r_putF (pc := 15) (fl' := (fun r => [.ref q1, .ref q6, .null, .int (qI (r 3))])) (r' := σ7 38) cx hcl_X1 qc_X1 hT (j := 1) (by decide) tyX1_ok nmX1 wf_X1_15 rfl hin rfl (tyX1_ok 1 (by decide)) rfl rfl (Nat.le_of_ble_eq_true rfl) rfl dX1_init_15 (fun σ9 => ?_)
  refine qS.wnm (fun w10 ew10 => ?_)
  have hCcells : w10 39 = some (q1, qAI (g.2 0) 4) := by rw [ew10]; exact qWput_get hCcells (by omega)
  have hCrecorded : w10 40 = some (q6, qAI (g.2 0) 4) := by rw [ew10]; exact qWput_get hCrecorded (by omega)
  have hT : w10 38 = some (aB, qOb 1 (fun r => [.ref q1, .ref q6, .null, .int (qI (r 3))])) := by rw [ew10]; exact qWput_self _ _ _
  have hrest : ∀ j, (j < 38 ∨ 46 ≤ j) → w10 j = w j := fun j hj => by rw [ew10]; rw [qWput_ne _ (by omega)] <;> exact hrest j hj
  clear ew10
  refine r_aload_n (pc := 18) cx dX1_init_18 rfl ?_
  refine r_iconst (pc := 19) cx dX1_init_19 ?_
  refine r_sipush (pc := 20) (v := 5000) cx dX1_init_20 (by decide +kernel) ?_
  refine r_mna_b (pc := 23) cx 41 42 5000 rfl (by decide) (by decide) wcm_X1_18 qao_byte qac_byte (Nat.le_of_ble_eq_true rfl) (Nat.le_of_ble_eq_true rfl) dX1_init_23 (fun q11 σ12 => ?_)
  refine qS.wnm (fun w13 ew13 => ?_)
  have hCcells : w13 39 = some (q1, qAI (g.2 0) 4) := by rw [ew13]; exact qmna_get hCcells (by omega)
  have hCrecorded : w13 40 = some (q6, qAI (g.2 0) 4) := by rw [ew13]; exact qmna_get hCrecorded (by omega)
  have hT : w13 38 = some (aB, qOb 1 (fun r => [.ref q1, .ref q6, .null, .int (qI (r 3))])) := by rw [ew13]; exact qmna_get hT (by omega)
  have hCrows : w13 41 = some (q11, qAR (g.2 3) 4 (fun i => q11 + 1 + i)) := by rw [ew13]; rfl
  have hCrows0 : w13 42 = some (q11 + 1 + 0, qAI (g.2 1) 5000) := by rw [ew13]; rfl
  have hCrows1 : w13 43 = some (q11 + 1 + 1, qAI (g.2 1) 5000) := by rw [ew13]; rfl
  have hCrows2 : w13 44 = some (q11 + 1 + 2, qAI (g.2 1) 5000) := by rw [ew13]; rfl
  have hCrows3 : w13 45 = some (q11 + 1 + 3, qAI (g.2 1) 5000) := by rw [ew13]; rfl
  have hrest : ∀ j, (j < 38 ∨ 46 ≤ j) → w13 j = w j := fun j hj => by rw [ew13]; rw [qmna_ne (by omega)] <;> exact hrest j hj
  clear ew13
  refine r_putF (pc := 27) (fl' := (fun r => [.ref q1, .ref q6, .ref q11, .int (qI (r 3))])) (r' := σ12 38) cx hcl_X1 qc_X1 hT (j := 2) (by decide) tyX1_ok nmX1 wf_X1_20 rfl hin rfl (tyX1_ok 2 (by decide)) rfl rfl (Nat.le_of_ble_eq_true rfl) rfl dX1_init_27 (fun σ14 => ?_)
  refine qS.wnm (fun w15 ew15 => ?_)
  have hCcells : w15 39 = some (q1, qAI (g.2 0) 4) := by rw [ew15]; exact qWput_get hCcells (by omega)
  have hCrecorded : w15 40 = some (q6, qAI (g.2 0) 4) := by rw [ew15]; exact qWput_get hCrecorded (by omega)
  have hCrows : w15 41 = some (q11, qAR (g.2 3) 4 (fun i => q11 + 1 + i)) := by rw [ew15]; exact qWput_get hCrows (by omega)
  have hCrows0 : w15 42 = some (q11 + 1 + 0, qAI (g.2 1) 5000) := by rw [ew15]; exact qWput_get hCrows0 (by omega)
  have hCrows1 : w15 43 = some (q11 + 1 + 1, qAI (g.2 1) 5000) := by rw [ew15]; exact qWput_get hCrows1 (by omega)
  have hCrows2 : w15 44 = some (q11 + 1 + 2, qAI (g.2 1) 5000) := by rw [ew15]; exact qWput_get hCrows2 (by omega)
  have hCrows3 : w15 45 = some (q11 + 1 + 3, qAI (g.2 1) 5000) := by rw [ew15]; exact qWput_get hCrows3 (by omega)
  have hT : w15 38 = some (aB, qOb 1 (fun r => [.ref q1, .ref q6, .ref q11, .int (qI (r 3))])) := by rw [ew15]; exact qWput_self _ _ _
  have hrest : ∀ j, (j < 38 ∨ 46 ≤ j) → w15 j = w j := fun j hj => by rw [ew15]; rw [qWput_ne _ (by omega)] <;> exact hrest j hj
  clear ew15
  obtain ⟨ad, had⟩ : ∃ ad : Nat → Nat, ∀ i, ad (38 + i) = ([aB, q1, q6, q11, q11 + 1 + 0, q11 + 1 + 1, q11 + 1 + 2, q11 + 1 + 3] : List Nat).getD i 0 := ⟨fun k => ([aB, q1, q6, q11, q11 + 1 + 0, q11 + 1 + 1, q11 + 1 + 2, q11 + 1 + 3] : List Nat).getD (k - 38) 0, fun i => by simp only [Nat.add_sub_cancel_left]⟩
  have a38 : ad 38 = aB := had 0
  have a39 : ad 39 = q1 := had 1
  have a40 : ad 40 = q6 := had 2
  have a41 : ad 41 = q11 := had 3
  have a42 : ad 42 = q11 + 1 + 0 := had 4
  have a43 : ad 43 = q11 + 1 + 1 := had 5
  have a44 : ad 44 = q11 + 1 + 2 := had 6
  have a45 : ad 45 = q11 + 1 + 3 := had 7
  refine qS.relay 41 hCrows (f' := qAR (g.2 3) 4 (fun j => ad (42 + j))) (fun H9 => qAR_cong (fun j hj => by match j, hj with | 0, _ => exact a42.symm | 1, _ => exact a43.symm | 2, _ => exact a44.symm | 3, _ => exact a45.symm) H9) ?_
  refine qS.wnm (fun w16 ew16 => ?_)
  have hCcells : w16 39 = some (q1, qAI (g.2 0) 4) := by rw [ew16]; exact qWput_get hCcells (by decide)
  have hCrecorded : w16 40 = some (q6, qAI (g.2 0) 4) := by rw [ew16]; exact qWput_get hCrecorded (by decide)
  have hCrows : w16 41 = some (q11, qAR (g.2 3) 4 (fun j => ad (42 + j))) := by rw [ew16]; exact qWput_self _ _ _
  have hCrows0 : w16 42 = some (q11 + 1 + 0, qAI (g.2 1) 5000) := by rw [ew16]; exact qWput_get hCrows0 (by decide)
  have hCrows1 : w16 43 = some (q11 + 1 + 1, qAI (g.2 1) 5000) := by rw [ew16]; exact qWput_get hCrows1 (by decide)
  have hCrows2 : w16 44 = some (q11 + 1 + 2, qAI (g.2 1) 5000) := by rw [ew16]; exact qWput_get hCrows2 (by decide)
  have hCrows3 : w16 45 = some (q11 + 1 + 3, qAI (g.2 1) 5000) := by rw [ew16]; exact qWput_get hCrows3 (by decide)
  have hT : w16 38 = some (aB, qOb 1 (fun r => [.ref q1, .ref q6, .ref q11, .int (qI (r 3))])) := by rw [ew16]; exact qWput_get hT (by decide)
  have hrest : ∀ j, (j < 38 ∨ 46 ≤ j) → w16 j = w j := fun j hj => by rw [ew16, qWput_ne _ (by omega)]; exact hrest j hj
  have hP : qPP g w aB w16 := ⟨ad, a38, by rw [a38]; simp only [a39, a40, a41]; exact hT, by rw [a39]; exact hCcells, by rw [a40]; exact hCrecorded, by rw [a41]; exact hCrows, by rw [a42]; exact hCrows0, by rw [a43]; exact hCrows1, by rw [a44]; exact hCrows2, by rw [a45]; exact hCrows3, hrest⟩
  exact r_nreturn (mc := 7) (ms := 20012) hP (Nat.le_of_ble_eq_true rfl) (Nat.le_of_ble_eq_true rfl) cx dX1_init_30 rfl
def fX5_init (σ : qSt) : Option (Int × qSt) :=
  (qb (qrow σ 1 (fun _ => 0)) fun (σ2 : qSt) => (qbd (fX3_init 1 σ2) fun (_ : Int) (σ4 : qSt) => (qb (qrow σ4 0 (σ4 0)) fun (σ6 : qSt) => (qb (qrow σ6 14 (fun _ => 0)) fun (σ9 : qSt) => (qbd (fX3_init 14 σ9) fun (_ : Int) (σ11 : qSt) => (qb (qrow σ11 0 (σ11 0)) fun (σ13 : qSt) => (qb (qrow σ13 27 (fun _ => 0)) fun (σ16 : qSt) => (qbd (fX0_init σ16) fun (_ : Int) (σ18 : qSt) => (qb (qrow σ18 0 (σ18 0)) fun (σ20 : qSt) => (qb (qrow σ20 38 (fun _ => 0)) fun (σ23 : qSt) => (qbd (fX1_init σ23) fun (_ : Int) (σ25 : qSt) => (qb (qrow σ25 0 (σ25 0)) fun (σ27 : qSt) => (qb (qrow σ27 46 (fun _ => 0)) fun (σ30 : qSt) => (qb (qrow σ30 0 (σ30 0)) fun (σ32 : qSt) => some (0, σ32)))))))))))))))
set_option maxRecDepth 100000 in
set_option maxHeartbeats 4000000 in
theorem tX5_init {l : Launch} {z0 : Nat} {g : qG} {w : qWd} {aB : Nat} (hT : w 0 = some (aB, qOb 5 (fun r => [.null, .null, .null, .null, .null, .int (qI (r 5)), .int (qI (r 6))]))) (σ : qSt) : qNT l yX5_init cX5_init 1 (qrk 5 46 22026) g z0 w [.ref aB] σ (fX5_init σ) (qPE g w aB) := by
  refine qNT.of [(0, some (.ref aB))] (by decide +kernel) (Nat.le_of_ble_eq_true rfl) rfl ?_
  intro p e s m args below meth c cx hin
  unfold fX5_init
  have hrest : ∀ j, 47 ≤ j → w j = w j := fun _ _ => rfl
  refine r_aload_n (pc := 0) cx dX5_init_0 rfl ?_
  refine r_objInit (pc := 1) cx wm_X5_1 qobj1 qobj2 (Nat.le_of_ble_eq_true rfl) (Nat.le_of_ble_eq_true rfl) dX5_init_1 ?_
  refine r_aload_n (pc := 4) cx dX5_init_4 rfl ?_
  refine r_new (pc := 5) cx 1 (fun r => [.null, .null, .null, .null, .null, .null, .null, .null, .null, .null, .null, .null, .int (qI (r 12))]) hcl_X3 qc_X3 tyX3_ok wc_X5_7 qinst_X3 qini_X3 (fun j hj => by match j, hj with | 0, _ => rfl | 1, _ => rfl | 2, _ => rfl | 3, _ => rfl | 4, _ => rfl | 5, _ => rfl | 6, _ => rfl | 7, _ => rfl | 8, _ => rfl | 9, _ => rfl | 10, _ => rfl | 11, _ => rfl | 12, _ => rfl) (Nat.le_of_ble_eq_true rfl) (Nat.le_of_ble_eq_true rfl) dX5_init_5 (fun q1 σ2 => ?_)
  refine qS.wnm (fun w3 ew3 => ?_)
  have hT : w3 0 = some (aB, qOb 5 (fun r => [.null, .null, .null, .null, .null, .int (qI (r 5)), .int (qI (r 6))])) := by rw [ew3]; exact qWput_get hT (by omega)
  have hOwater : w3 1 = some (q1, qOb 3 (fun r => [.null, .null, .null, .null, .null, .null, .null, .null, .null, .null, .null, .null, .int (qI (r 12))])) := by rw [ew3]; exact qWput_self _ _ _
  have hrest : ∀ j, 47 ≤ j → w3 j = w j := fun j hj => by rw [ew3]; rw [qWput_ne _ (by omega)] <;> exact hrest j hj
  clear ew3
  refine r_dup (pc := 8) cx dX5_init_8 rfl ?_
  refine r_makeN (pc := 9) cx (tX3_init (B := 1) hOwater (by omega) σ2) qm_X3_init rfl qi_X3_init wn_X5_9 dX5_init_9 rfl rfl (Nat.le_of_ble_eq_true rfl) ⟨Nat.le_of_ble_eq_true rfl, Nat.le_of_ble_eq_true rfl⟩ ⟨Nat.le_of_ble_eq_true rfl, Nat.le_of_ble_eq_true rfl⟩ (fun w5 hPwater r9 σ4 => ?_)
  obtain ⟨adwater, eawater, hwater_0, hwater_1, hwater_2, hwater_3, hwater_4, hwater_5, hwater_6, hwater_7, hwater_8, hwater_9, hwater_10, hwater_11, hwater_12, hxwater⟩ := hPwater
  have hT : w5 0 = some (aB, qOb 5 (fun r => [.null, .null, .null, .null, .null, .int (qI (r 5)), .int (qI (r 6))])) := by rw [hxwater 0 (by omega)]; exact hT
  have hrest : ∀ j, 47 ≤ j → w5 j = w j := fun j hj => by rw [hxwater j (by omega)]; exact hrest j hj
  subst eawater
  refine r_putF (pc := 12) (fl' := (fun r => [.ref (adwater 1), .null, .null, .null, .null, .int (qI (r 5)), .int (qI (r 6))])) (r' := σ4 0) cx hcl_X5 qc_X5 hT (j := 0) (by decide) tyX5_ok nmX5 wf_X5_10 rfl hin rfl (tyX5_ok 0 (by decide)) rfl rfl (Nat.le_of_ble_eq_true rfl) rfl dX5_init_12 (fun σ6 => ?_)
  refine qS.wnm (fun w7 ew7 => ?_)
  have hwater_0 : w7 1 = some (adwater 1, qOb 3 (fun r => [.ref (adwater (1 + 1)), .ref (adwater (1 + 2)), .ref (adwater (1 + 3)), .ref (adwater (1 + 4)), .ref (adwater (1 + 5)), .ref (adwater (1 + 6)), .ref (adwater (1 + 7)), .ref (adwater (1 + 8)), .ref (adwater (1 + 9)), .ref (adwater (1 + 10)), .ref (adwater (1 + 11)), .ref (adwater (1 + 12)), .int (qI (r 12))])) := by rw [ew7]; exact qWput_get hwater_0 (by omega)
  have hwater_1 : w7 (1 + 1) = some (adwater (1 + 1), qAI (g.2 0) 96) := by rw [ew7]; exact qWput_get hwater_1 (by omega)
  have hwater_2 : w7 (1 + 2) = some (adwater (1 + 2), qAI (g.2 0) 96) := by rw [ew7]; exact qWput_get hwater_2 (by omega)
  have hwater_3 : w7 (1 + 3) = some (adwater (1 + 3), qAI (g.2 0) 96) := by rw [ew7]; exact qWput_get hwater_3 (by omega)
  have hwater_4 : w7 (1 + 4) = some (adwater (1 + 4), qAI (g.2 0) 96) := by rw [ew7]; exact qWput_get hwater_4 (by omega)
  have hwater_5 : w7 (1 + 5) = some (adwater (1 + 5), qAI (g.2 0) 96) := by rw [ew7]; exact qWput_get hwater_5 (by omega)
  have hwater_6 : w7 (1 + 6) = some (adwater (1 + 6), qAI (g.2 0) 96) := by rw [ew7]; exact qWput_get hwater_6 (by omega)
  have hwater_7 : w7 (1 + 7) = some (adwater (1 + 7), qAI (g.2 0) 4) := by rw [ew7]; exact qWput_get hwater_7 (by omega)
  have hwater_8 : w7 (1 + 8) = some (adwater (1 + 8), qAI (g.2 0) 4) := by rw [ew7]; exact qWput_get hwater_8 (by omega)
  have hwater_9 : w7 (1 + 9) = some (adwater (1 + 9), qAI (g.2 0) 4) := by rw [ew7]; exact qWput_get hwater_9 (by omega)
  have hwater_10 : w7 (1 + 10) = some (adwater (1 + 10), qAI (g.2 0) 4) := by rw [ew7]; exact qWput_get hwater_10 (by omega)
  have hwater_11 : w7 (1 + 11) = some (adwater (1 + 11), qAI (g.2 0) 4) := by rw [ew7]; exact qWput_get hwater_11 (by omega)
  have hwater_12 : w7 (1 + 12) = some (adwater (1 + 12), qAI (g.2 0) 4) := by rw [ew7]; exact qWput_get hwater_12 (by omega)
  have hT : w7 0 = some (aB, qOb 5 (fun r => [.ref (adwater 1), .null, .null, .null, .null, .int (qI (r 5)), .int (qI (r 6))])) := by rw [ew7]; exact qWput_self _ _ _
  have hrest : ∀ j, 47 ≤ j → w7 j = w j := fun j hj => by rw [ew7]; rw [qWput_ne _ (by omega)] <;> exact hrest j hj
  clear ew7
  refine r_aload_n (pc := 15) cx dX5_init_15 rfl ?_
  refine r_new (pc := 16) cx 14 (fun r => [.null, .null, .null, .null, .null, .null, .null, .null, .null, .null, .null, .null, .int (qI (r 12))]) hcl_X3 qc_X3 tyX3_ok wc_X5_7 qinst_X3 qini_X3 (fun j hj => by match j, hj with | 0, _ => rfl | 1, _ => rfl | 2, _ => rfl | 3, _ => rfl | 4, _ => rfl | 5, _ => rfl | 6, _ => rfl | 7, _ => rfl | 8, _ => rfl | 9, _ => rfl | 10, _ => rfl | 11, _ => rfl | 12, _ => rfl) (Nat.le_of_ble_eq_true rfl) (Nat.le_of_ble_eq_true rfl) dX5_init_16 (fun q8 σ9 => ?_)
  refine qS.wnm (fun w10 ew10 => ?_)
  have hwater_0 : w10 1 = some (adwater 1, qOb 3 (fun r => [.ref (adwater (1 + 1)), .ref (adwater (1 + 2)), .ref (adwater (1 + 3)), .ref (adwater (1 + 4)), .ref (adwater (1 + 5)), .ref (adwater (1 + 6)), .ref (adwater (1 + 7)), .ref (adwater (1 + 8)), .ref (adwater (1 + 9)), .ref (adwater (1 + 10)), .ref (adwater (1 + 11)), .ref (adwater (1 + 12)), .int (qI (r 12))])) := by rw [ew10]; exact qWput_get hwater_0 (by omega)
  have hwater_1 : w10 (1 + 1) = some (adwater (1 + 1), qAI (g.2 0) 96) := by rw [ew10]; exact qWput_get hwater_1 (by omega)
  have hwater_2 : w10 (1 + 2) = some (adwater (1 + 2), qAI (g.2 0) 96) := by rw [ew10]; exact qWput_get hwater_2 (by omega)
  have hwater_3 : w10 (1 + 3) = some (adwater (1 + 3), qAI (g.2 0) 96) := by rw [ew10]; exact qWput_get hwater_3 (by omega)
  have hwater_4 : w10 (1 + 4) = some (adwater (1 + 4), qAI (g.2 0) 96) := by rw [ew10]; exact qWput_get hwater_4 (by omega)
  have hwater_5 : w10 (1 + 5) = some (adwater (1 + 5), qAI (g.2 0) 96) := by rw [ew10]; exact qWput_get hwater_5 (by omega)
  have hwater_6 : w10 (1 + 6) = some (adwater (1 + 6), qAI (g.2 0) 96) := by rw [ew10]; exact qWput_get hwater_6 (by omega)
  have hwater_7 : w10 (1 + 7) = some (adwater (1 + 7), qAI (g.2 0) 4) := by rw [ew10]; exact qWput_get hwater_7 (by omega)
  have hwater_8 : w10 (1 + 8) = some (adwater (1 + 8), qAI (g.2 0) 4) := by rw [ew10]; exact qWput_get hwater_8 (by omega)
  have hwater_9 : w10 (1 + 9) = some (adwater (1 + 9), qAI (g.2 0) 4) := by rw [ew10]; exact qWput_get hwater_9 (by omega)
  have hwater_10 : w10 (1 + 10) = some (adwater (1 + 10), qAI (g.2 0) 4) := by rw [ew10]; exact qWput_get hwater_10 (by omega)
  have hwater_11 : w10 (1 + 11) = some (adwater (1 + 11), qAI (g.2 0) 4) := by rw [ew10]; exact qWput_get hwater_11 (by omega)
  have hwater_12 : w10 (1 + 12) = some (adwater (1 + 12), qAI (g.2 0) 4) := by rw [ew10]; exact qWput_get hwater_12 (by omega)
  have hT : w10 0 = some (aB, qOb 5 (fun r => [.ref (adwater 1), .null, .null, .null, .null, .int (qI (r 5)), .int (qI (r 6))])) := by rw [ew10]; exact qWput_get hT (by omega)
  have hOtrial : w10 14 = some (q8, qOb 3 (fun r => [.null, .null, .null, .null, .null, .null, .null, .null, .null, .null, .null, .null, .int (qI (r 12))])) := by rw [ew10]; exact qWput_self _ _ _
  have hrest : ∀ j, 47 ≤ j → w10 j = w j := fun j hj => by rw [ew10]; rw [qWput_ne _ (by omega)] <;> exact hrest j hj
  clear ew10
  refine r_dup (pc := 19) cx dX5_init_19 rfl ?_
  refine r_makeN (pc := 20) cx (tX3_init (B := 14) hOtrial (by omega) σ9) qm_X3_init rfl qi_X3_init wn_X5_9 dX5_init_20 rfl rfl (Nat.le_of_ble_eq_true rfl) ⟨Nat.le_of_ble_eq_true rfl, Nat.le_of_ble_eq_true rfl⟩ ⟨Nat.le_of_ble_eq_true rfl, Nat.le_of_ble_eq_true rfl⟩ (fun w12 hPtrial r20 σ11 => ?_)
  obtain ⟨adtrial, eatrial, htrial_0, htrial_1, htrial_2, htrial_3, htrial_4, htrial_5, htrial_6, htrial_7, htrial_8, htrial_9, htrial_10, htrial_11, htrial_12, hxtrial⟩ := hPtrial
  have hwater_0 : w12 1 = some (adwater 1, qOb 3 (fun r => [.ref (adwater (1 + 1)), .ref (adwater (1 + 2)), .ref (adwater (1 + 3)), .ref (adwater (1 + 4)), .ref (adwater (1 + 5)), .ref (adwater (1 + 6)), .ref (adwater (1 + 7)), .ref (adwater (1 + 8)), .ref (adwater (1 + 9)), .ref (adwater (1 + 10)), .ref (adwater (1 + 11)), .ref (adwater (1 + 12)), .int (qI (r 12))])) := by rw [hxtrial 1 (by omega)]; exact hwater_0
  have hwater_1 : w12 (1 + 1) = some (adwater (1 + 1), qAI (g.2 0) 96) := by rw [hxtrial (1 + 1) (by omega)]; exact hwater_1
  have hwater_2 : w12 (1 + 2) = some (adwater (1 + 2), qAI (g.2 0) 96) := by rw [hxtrial (1 + 2) (by omega)]; exact hwater_2
  have hwater_3 : w12 (1 + 3) = some (adwater (1 + 3), qAI (g.2 0) 96) := by rw [hxtrial (1 + 3) (by omega)]; exact hwater_3
  have hwater_4 : w12 (1 + 4) = some (adwater (1 + 4), qAI (g.2 0) 96) := by rw [hxtrial (1 + 4) (by omega)]; exact hwater_4
  have hwater_5 : w12 (1 + 5) = some (adwater (1 + 5), qAI (g.2 0) 96) := by rw [hxtrial (1 + 5) (by omega)]; exact hwater_5
  have hwater_6 : w12 (1 + 6) = some (adwater (1 + 6), qAI (g.2 0) 96) := by rw [hxtrial (1 + 6) (by omega)]; exact hwater_6
  have hwater_7 : w12 (1 + 7) = some (adwater (1 + 7), qAI (g.2 0) 4) := by rw [hxtrial (1 + 7) (by omega)]; exact hwater_7
  have hwater_8 : w12 (1 + 8) = some (adwater (1 + 8), qAI (g.2 0) 4) := by rw [hxtrial (1 + 8) (by omega)]; exact hwater_8
  have hwater_9 : w12 (1 + 9) = some (adwater (1 + 9), qAI (g.2 0) 4) := by rw [hxtrial (1 + 9) (by omega)]; exact hwater_9
  have hwater_10 : w12 (1 + 10) = some (adwater (1 + 10), qAI (g.2 0) 4) := by rw [hxtrial (1 + 10) (by omega)]; exact hwater_10
  have hwater_11 : w12 (1 + 11) = some (adwater (1 + 11), qAI (g.2 0) 4) := by rw [hxtrial (1 + 11) (by omega)]; exact hwater_11
  have hwater_12 : w12 (1 + 12) = some (adwater (1 + 12), qAI (g.2 0) 4) := by rw [hxtrial (1 + 12) (by omega)]; exact hwater_12
  have hT : w12 0 = some (aB, qOb 5 (fun r => [.ref (adwater 1), .null, .null, .null, .null, .int (qI (r 5)), .int (qI (r 6))])) := by rw [hxtrial 0 (by omega)]; exact hT
  have hrest : ∀ j, 47 ≤ j → w12 j = w j := fun j hj => by rw [hxtrial j (by omega)]; exact hrest j hj
  subst eatrial
  refine r_putF (pc := 23) (fl' := (fun r => [.ref (adwater 1), .ref (adtrial 14), .null, .null, .null, .int (qI (r 5)), .int (qI (r 6))])) (r' := σ11 0) cx hcl_X5 qc_X5 hT (j := 1) (by decide) tyX5_ok nmX5 wf_X5_16 rfl hin rfl (tyX5_ok 1 (by decide)) rfl rfl (Nat.le_of_ble_eq_true rfl) rfl dX5_init_23 (fun σ13 => ?_)
  refine qS.wnm (fun w14 ew14 => ?_)
  have hwater_0 : w14 1 = some (adwater 1, qOb 3 (fun r => [.ref (adwater (1 + 1)), .ref (adwater (1 + 2)), .ref (adwater (1 + 3)), .ref (adwater (1 + 4)), .ref (adwater (1 + 5)), .ref (adwater (1 + 6)), .ref (adwater (1 + 7)), .ref (adwater (1 + 8)), .ref (adwater (1 + 9)), .ref (adwater (1 + 10)), .ref (adwater (1 + 11)), .ref (adwater (1 + 12)), .int (qI (r 12))])) := by rw [ew14]; exact qWput_get hwater_0 (by omega)
  have hwater_1 : w14 (1 + 1) = some (adwater (1 + 1), qAI (g.2 0) 96) := by rw [ew14]; exact qWput_get hwater_1 (by omega)
  have hwater_2 : w14 (1 + 2) = some (adwater (1 + 2), qAI (g.2 0) 96) := by rw [ew14]; exact qWput_get hwater_2 (by omega)
  have hwater_3 : w14 (1 + 3) = some (adwater (1 + 3), qAI (g.2 0) 96) := by rw [ew14]; exact qWput_get hwater_3 (by omega)
  have hwater_4 : w14 (1 + 4) = some (adwater (1 + 4), qAI (g.2 0) 96) := by rw [ew14]; exact qWput_get hwater_4 (by omega)
  have hwater_5 : w14 (1 + 5) = some (adwater (1 + 5), qAI (g.2 0) 96) := by rw [ew14]; exact qWput_get hwater_5 (by omega)
  have hwater_6 : w14 (1 + 6) = some (adwater (1 + 6), qAI (g.2 0) 96) := by rw [ew14]; exact qWput_get hwater_6 (by omega)
  have hwater_7 : w14 (1 + 7) = some (adwater (1 + 7), qAI (g.2 0) 4) := by rw [ew14]; exact qWput_get hwater_7 (by omega)
  have hwater_8 : w14 (1 + 8) = some (adwater (1 + 8), qAI (g.2 0) 4) := by rw [ew14]; exact qWput_get hwater_8 (by omega)
  have hwater_9 : w14 (1 + 9) = some (adwater (1 + 9), qAI (g.2 0) 4) := by rw [ew14]; exact qWput_get hwater_9 (by omega)
  have hwater_10 : w14 (1 + 10) = some (adwater (1 + 10), qAI (g.2 0) 4) := by rw [ew14]; exact qWput_get hwater_10 (by omega)
  have hwater_11 : w14 (1 + 11) = some (adwater (1 + 11), qAI (g.2 0) 4) := by rw [ew14]; exact qWput_get hwater_11 (by omega)
  have hwater_12 : w14 (1 + 12) = some (adwater (1 + 12), qAI (g.2 0) 4) := by rw [ew14]; exact qWput_get hwater_12 (by omega)
  have htrial_0 : w14 14 = some (adtrial 14, qOb 3 (fun r => [.ref (adtrial (14 + 1)), .ref (adtrial (14 + 2)), .ref (adtrial (14 + 3)), .ref (adtrial (14 + 4)), .ref (adtrial (14 + 5)), .ref (adtrial (14 + 6)), .ref (adtrial (14 + 7)), .ref (adtrial (14 + 8)), .ref (adtrial (14 + 9)), .ref (adtrial (14 + 10)), .ref (adtrial (14 + 11)), .ref (adtrial (14 + 12)), .int (qI (r 12))])) := by rw [ew14]; exact qWput_get htrial_0 (by omega)
  have htrial_1 : w14 (14 + 1) = some (adtrial (14 + 1), qAI (g.2 0) 96) := by rw [ew14]; exact qWput_get htrial_1 (by omega)
  have htrial_2 : w14 (14 + 2) = some (adtrial (14 + 2), qAI (g.2 0) 96) := by rw [ew14]; exact qWput_get htrial_2 (by omega)
  have htrial_3 : w14 (14 + 3) = some (adtrial (14 + 3), qAI (g.2 0) 96) := by rw [ew14]; exact qWput_get htrial_3 (by omega)
  have htrial_4 : w14 (14 + 4) = some (adtrial (14 + 4), qAI (g.2 0) 96) := by rw [ew14]; exact qWput_get htrial_4 (by omega)
  have htrial_5 : w14 (14 + 5) = some (adtrial (14 + 5), qAI (g.2 0) 96) := by rw [ew14]; exact qWput_get htrial_5 (by omega)
  have htrial_6 : w14 (14 + 6) = some (adtrial (14 + 6), qAI (g.2 0) 96) := by rw [ew14]; exact qWput_get htrial_6 (by omega)
  have htrial_7 : w14 (14 + 7) = some (adtrial (14 + 7), qAI (g.2 0) 4) := by rw [ew14]; exact qWput_get htrial_7 (by omega)
  have htrial_8 : w14 (14 + 8) = some (adtrial (14 + 8), qAI (g.2 0) 4) := by rw [ew14]; exact qWput_get htrial_8 (by omega)
  have htrial_9 : w14 (14 + 9) = some (adtrial (14 + 9), qAI (g.2 0) 4) := by rw [ew14]; exact qWput_get htrial_9 (by omega)
  have htrial_10 : w14 (14 + 10) = some (adtrial (14 + 10), qAI (g.2 0) 4) := by rw [ew14]; exact qWput_get htrial_10 (by omega)
  have htrial_11 : w14 (14 + 11) = some (adtrial (14 + 11), qAI (g.2 0) 4) := by rw [ew14]; exact qWput_get htrial_11 (by omega)
  have htrial_12 : w14 (14 + 12) = some (adtrial (14 + 12), qAI (g.2 0) 4) := by rw [ew14]; exact qWput_get htrial_12 (by omega)
  have hT : w14 0 = some (aB, qOb 5 (fun r => [.ref (adwater 1), .ref (adtrial 14), .null, .null, .null, .int (qI (r 5)), .int (qI (r 6))])) := by rw [ew14]; exact qWput_self _ _ _
  have hrest : ∀ j, 47 ≤ j → w14 j = w j := fun j hj => by rw [ew14]; rw [qWput_ne _ (by omega)] <;> exact hrest j hj
  clear ew14
  refine r_aload_n (pc := 26) cx dX5_init_26 rfl ?_
  refine r_new (pc := 27) cx 27 (fun r => [.null, .null, .int (qI (r 2)), .long (qJ (r 3))]) hcl_X0 qc_X0 tyX0_ok wc_X5_19 qinst_X0 qini_X0 (fun j hj => by match j, hj with | 0, _ => rfl | 1, _ => rfl | 2, _ => rfl | 3, _ => rfl) (Nat.le_of_ble_eq_true rfl) (Nat.le_of_ble_eq_true rfl) dX5_init_27 (fun q15 σ16 => ?_)
  refine qS.wnm (fun w17 ew17 => ?_)
  have hwater_0 : w17 1 = some (adwater 1, qOb 3 (fun r => [.ref (adwater (1 + 1)), .ref (adwater (1 + 2)), .ref (adwater (1 + 3)), .ref (adwater (1 + 4)), .ref (adwater (1 + 5)), .ref (adwater (1 + 6)), .ref (adwater (1 + 7)), .ref (adwater (1 + 8)), .ref (adwater (1 + 9)), .ref (adwater (1 + 10)), .ref (adwater (1 + 11)), .ref (adwater (1 + 12)), .int (qI (r 12))])) := by rw [ew17]; exact qWput_get hwater_0 (by omega)
  have hwater_1 : w17 (1 + 1) = some (adwater (1 + 1), qAI (g.2 0) 96) := by rw [ew17]; exact qWput_get hwater_1 (by omega)
  have hwater_2 : w17 (1 + 2) = some (adwater (1 + 2), qAI (g.2 0) 96) := by rw [ew17]; exact qWput_get hwater_2 (by omega)
  have hwater_3 : w17 (1 + 3) = some (adwater (1 + 3), qAI (g.2 0) 96) := by rw [ew17]; exact qWput_get hwater_3 (by omega)
  have hwater_4 : w17 (1 + 4) = some (adwater (1 + 4), qAI (g.2 0) 96) := by rw [ew17]; exact qWput_get hwater_4 (by omega)
  have hwater_5 : w17 (1 + 5) = some (adwater (1 + 5), qAI (g.2 0) 96) := by rw [ew17]; exact qWput_get hwater_5 (by omega)
  have hwater_6 : w17 (1 + 6) = some (adwater (1 + 6), qAI (g.2 0) 96) := by rw [ew17]; exact qWput_get hwater_6 (by omega)
  have hwater_7 : w17 (1 + 7) = some (adwater (1 + 7), qAI (g.2 0) 4) := by rw [ew17]; exact qWput_get hwater_7 (by omega)
  have hwater_8 : w17 (1 + 8) = some (adwater (1 + 8), qAI (g.2 0) 4) := by rw [ew17]; exact qWput_get hwater_8 (by omega)
  have hwater_9 : w17 (1 + 9) = some (adwater (1 + 9), qAI (g.2 0) 4) := by rw [ew17]; exact qWput_get hwater_9 (by omega)
  have hwater_10 : w17 (1 + 10) = some (adwater (1 + 10), qAI (g.2 0) 4) := by rw [ew17]; exact qWput_get hwater_10 (by omega)
  have hwater_11 : w17 (1 + 11) = some (adwater (1 + 11), qAI (g.2 0) 4) := by rw [ew17]; exact qWput_get hwater_11 (by omega)
  have hwater_12 : w17 (1 + 12) = some (adwater (1 + 12), qAI (g.2 0) 4) := by rw [ew17]; exact qWput_get hwater_12 (by omega)
  have htrial_0 : w17 14 = some (adtrial 14, qOb 3 (fun r => [.ref (adtrial (14 + 1)), .ref (adtrial (14 + 2)), .ref (adtrial (14 + 3)), .ref (adtrial (14 + 4)), .ref (adtrial (14 + 5)), .ref (adtrial (14 + 6)), .ref (adtrial (14 + 7)), .ref (adtrial (14 + 8)), .ref (adtrial (14 + 9)), .ref (adtrial (14 + 10)), .ref (adtrial (14 + 11)), .ref (adtrial (14 + 12)), .int (qI (r 12))])) := by rw [ew17]; exact qWput_get htrial_0 (by omega)
  have htrial_1 : w17 (14 + 1) = some (adtrial (14 + 1), qAI (g.2 0) 96) := by rw [ew17]; exact qWput_get htrial_1 (by omega)
  have htrial_2 : w17 (14 + 2) = some (adtrial (14 + 2), qAI (g.2 0) 96) := by rw [ew17]; exact qWput_get htrial_2 (by omega)
  have htrial_3 : w17 (14 + 3) = some (adtrial (14 + 3), qAI (g.2 0) 96) := by rw [ew17]; exact qWput_get htrial_3 (by omega)
  have htrial_4 : w17 (14 + 4) = some (adtrial (14 + 4), qAI (g.2 0) 96) := by rw [ew17]; exact qWput_get htrial_4 (by omega)
  have htrial_5 : w17 (14 + 5) = some (adtrial (14 + 5), qAI (g.2 0) 96) := by rw [ew17]; exact qWput_get htrial_5 (by omega)
  have htrial_6 : w17 (14 + 6) = some (adtrial (14 + 6), qAI (g.2 0) 96) := by rw [ew17]; exact qWput_get htrial_6 (by omega)
  have htrial_7 : w17 (14 + 7) = some (adtrial (14 + 7), qAI (g.2 0) 4) := by rw [ew17]; exact qWput_get htrial_7 (by omega)
  have htrial_8 : w17 (14 + 8) = some (adtrial (14 + 8), qAI (g.2 0) 4) := by rw [ew17]; exact qWput_get htrial_8 (by omega)
  have htrial_9 : w17 (14 + 9) = some (adtrial (14 + 9), qAI (g.2 0) 4) := by rw [ew17]; exact qWput_get htrial_9 (by omega)
  have htrial_10 : w17 (14 + 10) = some (adtrial (14 + 10), qAI (g.2 0) 4) := by rw [ew17]; exact qWput_get htrial_10 (by omega)
  have htrial_11 : w17 (14 + 11) = some (adtrial (14 + 11), qAI (g.2 0) 4) := by rw [ew17]; exact qWput_get htrial_11 (by omega)
  have htrial_12 : w17 (14 + 12) = some (adtrial (14 + 12), qAI (g.2 0) 4) := by rw [ew17]; exact qWput_get htrial_12 (by omega)
  have hT : w17 0 = some (aB, qOb 5 (fun r => [.ref (adwater 1), .ref (adtrial 14), .null, .null, .null, .int (qI (r 5)), .int (qI (r 6))])) := by rw [ew17]; exact qWput_get hT (by omega)
  have hOcounts : w17 27 = some (q15, qOb 0 (fun r => [.null, .null, .int (qI (r 2)), .long (qJ (r 3))])) := by rw [ew17]; exact qWput_self _ _ _
  have hrest : ∀ j, 47 ≤ j → w17 j = w j := fun j hj => by rw [ew17]; rw [qWput_ne _ (by omega)] <;> exact hrest j hj
  clear ew17
  refine r_dup (pc := 30) cx dX5_init_30 rfl ?_
  refine r_makeN (pc := 31) cx (tX0_init hOcounts σ16) qm_X0_init rfl qi_X0_init wn_X5_21 dX5_init_31 rfl rfl (Nat.le_of_ble_eq_true rfl) ⟨Nat.le_of_ble_eq_true rfl, Nat.le_of_ble_eq_true rfl⟩ ⟨Nat.le_of_ble_eq_true rfl, Nat.le_of_ble_eq_true rfl⟩ (fun w19 hPcounts r31 σ18 => ?_)
  obtain ⟨adcounts, eacounts, hcounts_0, hcounts_1, hcounts_2, hcounts_3, hcounts_4, hcounts_5, hcounts_6, hcounts_7, hcounts_8, hcounts_9, hcounts_10, hxcounts⟩ := hPcounts
  have hwater_0 : w19 1 = some (adwater 1, qOb 3 (fun r => [.ref (adwater (1 + 1)), .ref (adwater (1 + 2)), .ref (adwater (1 + 3)), .ref (adwater (1 + 4)), .ref (adwater (1 + 5)), .ref (adwater (1 + 6)), .ref (adwater (1 + 7)), .ref (adwater (1 + 8)), .ref (adwater (1 + 9)), .ref (adwater (1 + 10)), .ref (adwater (1 + 11)), .ref (adwater (1 + 12)), .int (qI (r 12))])) := by rw [hxcounts 1 (by omega)]; exact hwater_0
  have hwater_1 : w19 (1 + 1) = some (adwater (1 + 1), qAI (g.2 0) 96) := by rw [hxcounts (1 + 1) (by omega)]; exact hwater_1
  have hwater_2 : w19 (1 + 2) = some (adwater (1 + 2), qAI (g.2 0) 96) := by rw [hxcounts (1 + 2) (by omega)]; exact hwater_2
  have hwater_3 : w19 (1 + 3) = some (adwater (1 + 3), qAI (g.2 0) 96) := by rw [hxcounts (1 + 3) (by omega)]; exact hwater_3
  have hwater_4 : w19 (1 + 4) = some (adwater (1 + 4), qAI (g.2 0) 96) := by rw [hxcounts (1 + 4) (by omega)]; exact hwater_4
  have hwater_5 : w19 (1 + 5) = some (adwater (1 + 5), qAI (g.2 0) 96) := by rw [hxcounts (1 + 5) (by omega)]; exact hwater_5
  have hwater_6 : w19 (1 + 6) = some (adwater (1 + 6), qAI (g.2 0) 96) := by rw [hxcounts (1 + 6) (by omega)]; exact hwater_6
  have hwater_7 : w19 (1 + 7) = some (adwater (1 + 7), qAI (g.2 0) 4) := by rw [hxcounts (1 + 7) (by omega)]; exact hwater_7
  have hwater_8 : w19 (1 + 8) = some (adwater (1 + 8), qAI (g.2 0) 4) := by rw [hxcounts (1 + 8) (by omega)]; exact hwater_8
  have hwater_9 : w19 (1 + 9) = some (adwater (1 + 9), qAI (g.2 0) 4) := by rw [hxcounts (1 + 9) (by omega)]; exact hwater_9
  have hwater_10 : w19 (1 + 10) = some (adwater (1 + 10), qAI (g.2 0) 4) := by rw [hxcounts (1 + 10) (by omega)]; exact hwater_10
  have hwater_11 : w19 (1 + 11) = some (adwater (1 + 11), qAI (g.2 0) 4) := by rw [hxcounts (1 + 11) (by omega)]; exact hwater_11
  have hwater_12 : w19 (1 + 12) = some (adwater (1 + 12), qAI (g.2 0) 4) := by rw [hxcounts (1 + 12) (by omega)]; exact hwater_12
  have htrial_0 : w19 14 = some (adtrial 14, qOb 3 (fun r => [.ref (adtrial (14 + 1)), .ref (adtrial (14 + 2)), .ref (adtrial (14 + 3)), .ref (adtrial (14 + 4)), .ref (adtrial (14 + 5)), .ref (adtrial (14 + 6)), .ref (adtrial (14 + 7)), .ref (adtrial (14 + 8)), .ref (adtrial (14 + 9)), .ref (adtrial (14 + 10)), .ref (adtrial (14 + 11)), .ref (adtrial (14 + 12)), .int (qI (r 12))])) := by rw [hxcounts 14 (by omega)]; exact htrial_0
  have htrial_1 : w19 (14 + 1) = some (adtrial (14 + 1), qAI (g.2 0) 96) := by rw [hxcounts (14 + 1) (by omega)]; exact htrial_1
  have htrial_2 : w19 (14 + 2) = some (adtrial (14 + 2), qAI (g.2 0) 96) := by rw [hxcounts (14 + 2) (by omega)]; exact htrial_2
  have htrial_3 : w19 (14 + 3) = some (adtrial (14 + 3), qAI (g.2 0) 96) := by rw [hxcounts (14 + 3) (by omega)]; exact htrial_3
  have htrial_4 : w19 (14 + 4) = some (adtrial (14 + 4), qAI (g.2 0) 96) := by rw [hxcounts (14 + 4) (by omega)]; exact htrial_4
  have htrial_5 : w19 (14 + 5) = some (adtrial (14 + 5), qAI (g.2 0) 96) := by rw [hxcounts (14 + 5) (by omega)]; exact htrial_5
  have htrial_6 : w19 (14 + 6) = some (adtrial (14 + 6), qAI (g.2 0) 96) := by rw [hxcounts (14 + 6) (by omega)]; exact htrial_6
  have htrial_7 : w19 (14 + 7) = some (adtrial (14 + 7), qAI (g.2 0) 4) := by rw [hxcounts (14 + 7) (by omega)]; exact htrial_7
  have htrial_8 : w19 (14 + 8) = some (adtrial (14 + 8), qAI (g.2 0) 4) := by rw [hxcounts (14 + 8) (by omega)]; exact htrial_8
  have htrial_9 : w19 (14 + 9) = some (adtrial (14 + 9), qAI (g.2 0) 4) := by rw [hxcounts (14 + 9) (by omega)]; exact htrial_9
  have htrial_10 : w19 (14 + 10) = some (adtrial (14 + 10), qAI (g.2 0) 4) := by rw [hxcounts (14 + 10) (by omega)]; exact htrial_10
  have htrial_11 : w19 (14 + 11) = some (adtrial (14 + 11), qAI (g.2 0) 4) := by rw [hxcounts (14 + 11) (by omega)]; exact htrial_11
  have htrial_12 : w19 (14 + 12) = some (adtrial (14 + 12), qAI (g.2 0) 4) := by rw [hxcounts (14 + 12) (by omega)]; exact htrial_12
  have hT : w19 0 = some (aB, qOb 5 (fun r => [.ref (adwater 1), .ref (adtrial 14), .null, .null, .null, .int (qI (r 5)), .int (qI (r 6))])) := by rw [hxcounts 0 (by omega)]; exact hT
  have hrest : ∀ j, 47 ≤ j → w19 j = w j := fun j hj => by rw [hxcounts j (by omega)]; exact hrest j hj
  subst eacounts
  refine r_putF (pc := 34) (fl' := (fun r => [.ref (adwater 1), .ref (adtrial 14), .ref (adcounts 27), .null, .null, .int (qI (r 5)), .int (qI (r 6))])) (r' := σ18 0) cx hcl_X5 qc_X5 hT (j := 2) (by decide) tyX5_ok nmX5 wf_X5_22 rfl hin rfl (tyX5_ok 2 (by decide)) rfl rfl (Nat.le_of_ble_eq_true rfl) rfl dX5_init_34 (fun σ20 => ?_)
  refine qS.wnm (fun w21 ew21 => ?_)
  have hwater_0 : w21 1 = some (adwater 1, qOb 3 (fun r => [.ref (adwater (1 + 1)), .ref (adwater (1 + 2)), .ref (adwater (1 + 3)), .ref (adwater (1 + 4)), .ref (adwater (1 + 5)), .ref (adwater (1 + 6)), .ref (adwater (1 + 7)), .ref (adwater (1 + 8)), .ref (adwater (1 + 9)), .ref (adwater (1 + 10)), .ref (adwater (1 + 11)), .ref (adwater (1 + 12)), .int (qI (r 12))])) := by rw [ew21]; exact qWput_get hwater_0 (by omega)
  have hwater_1 : w21 (1 + 1) = some (adwater (1 + 1), qAI (g.2 0) 96) := by rw [ew21]; exact qWput_get hwater_1 (by omega)
  have hwater_2 : w21 (1 + 2) = some (adwater (1 + 2), qAI (g.2 0) 96) := by rw [ew21]; exact qWput_get hwater_2 (by omega)
  have hwater_3 : w21 (1 + 3) = some (adwater (1 + 3), qAI (g.2 0) 96) := by rw [ew21]; exact qWput_get hwater_3 (by omega)
  have hwater_4 : w21 (1 + 4) = some (adwater (1 + 4), qAI (g.2 0) 96) := by rw [ew21]; exact qWput_get hwater_4 (by omega)
  have hwater_5 : w21 (1 + 5) = some (adwater (1 + 5), qAI (g.2 0) 96) := by rw [ew21]; exact qWput_get hwater_5 (by omega)
  have hwater_6 : w21 (1 + 6) = some (adwater (1 + 6), qAI (g.2 0) 96) := by rw [ew21]; exact qWput_get hwater_6 (by omega)
  have hwater_7 : w21 (1 + 7) = some (adwater (1 + 7), qAI (g.2 0) 4) := by rw [ew21]; exact qWput_get hwater_7 (by omega)
  have hwater_8 : w21 (1 + 8) = some (adwater (1 + 8), qAI (g.2 0) 4) := by rw [ew21]; exact qWput_get hwater_8 (by omega)
  have hwater_9 : w21 (1 + 9) = some (adwater (1 + 9), qAI (g.2 0) 4) := by rw [ew21]; exact qWput_get hwater_9 (by omega)
  have hwater_10 : w21 (1 + 10) = some (adwater (1 + 10), qAI (g.2 0) 4) := by rw [ew21]; exact qWput_get hwater_10 (by omega)
  have hwater_11 : w21 (1 + 11) = some (adwater (1 + 11), qAI (g.2 0) 4) := by rw [ew21]; exact qWput_get hwater_11 (by omega)
  have hwater_12 : w21 (1 + 12) = some (adwater (1 + 12), qAI (g.2 0) 4) := by rw [ew21]; exact qWput_get hwater_12 (by omega)
  have htrial_0 : w21 14 = some (adtrial 14, qOb 3 (fun r => [.ref (adtrial (14 + 1)), .ref (adtrial (14 + 2)), .ref (adtrial (14 + 3)), .ref (adtrial (14 + 4)), .ref (adtrial (14 + 5)), .ref (adtrial (14 + 6)), .ref (adtrial (14 + 7)), .ref (adtrial (14 + 8)), .ref (adtrial (14 + 9)), .ref (adtrial (14 + 10)), .ref (adtrial (14 + 11)), .ref (adtrial (14 + 12)), .int (qI (r 12))])) := by rw [ew21]; exact qWput_get htrial_0 (by omega)
  have htrial_1 : w21 (14 + 1) = some (adtrial (14 + 1), qAI (g.2 0) 96) := by rw [ew21]; exact qWput_get htrial_1 (by omega)
  have htrial_2 : w21 (14 + 2) = some (adtrial (14 + 2), qAI (g.2 0) 96) := by rw [ew21]; exact qWput_get htrial_2 (by omega)
  have htrial_3 : w21 (14 + 3) = some (adtrial (14 + 3), qAI (g.2 0) 96) := by rw [ew21]; exact qWput_get htrial_3 (by omega)
  have htrial_4 : w21 (14 + 4) = some (adtrial (14 + 4), qAI (g.2 0) 96) := by rw [ew21]; exact qWput_get htrial_4 (by omega)
  have htrial_5 : w21 (14 + 5) = some (adtrial (14 + 5), qAI (g.2 0) 96) := by rw [ew21]; exact qWput_get htrial_5 (by omega)
  have htrial_6 : w21 (14 + 6) = some (adtrial (14 + 6), qAI (g.2 0) 96) := by rw [ew21]; exact qWput_get htrial_6 (by omega)
  have htrial_7 : w21 (14 + 7) = some (adtrial (14 + 7), qAI (g.2 0) 4) := by rw [ew21]; exact qWput_get htrial_7 (by omega)
  have htrial_8 : w21 (14 + 8) = some (adtrial (14 + 8), qAI (g.2 0) 4) := by rw [ew21]; exact qWput_get htrial_8 (by omega)
  have htrial_9 : w21 (14 + 9) = some (adtrial (14 + 9), qAI (g.2 0) 4) := by rw [ew21]; exact qWput_get htrial_9 (by omega)
  have htrial_10 : w21 (14 + 10) = some (adtrial (14 + 10), qAI (g.2 0) 4) := by rw [ew21]; exact qWput_get htrial_10 (by omega)
  have htrial_11 : w21 (14 + 11) = some (adtrial (14 + 11), qAI (g.2 0) 4) := by rw [ew21]; exact qWput_get htrial_11 (by omega)
  have htrial_12 : w21 (14 + 12) = some (adtrial (14 + 12), qAI (g.2 0) 4) := by rw [ew21]; exact qWput_get htrial_12 (by omega)
  have hcounts_0 : w21 27 = some (adcounts 27, qOb 0 (fun r => [.ref (adcounts 28), .ref (adcounts 29), .int (qI (r 2)), .long (qJ (r 3))])) := by rw [ew21]; exact qWput_get hcounts_0 (by omega)
  have hcounts_1 : w21 28 = some (adcounts 28, qAR (g.2 2) 4 (fun j => adcounts (30 + j))) := by rw [ew21]; exact qWput_get hcounts_1 (by omega)
  have hcounts_2 : w21 29 = some (adcounts 29, qAR (g.2 2) 4 (fun j => adcounts (34 + j))) := by rw [ew21]; exact qWput_get hcounts_2 (by omega)
  have hcounts_3 : w21 30 = some (adcounts 30, qAI (g.2 0) 96) := by rw [ew21]; exact qWput_get hcounts_3 (by omega)
  have hcounts_4 : w21 31 = some (adcounts 31, qAI (g.2 0) 96) := by rw [ew21]; exact qWput_get hcounts_4 (by omega)
  have hcounts_5 : w21 32 = some (adcounts 32, qAI (g.2 0) 96) := by rw [ew21]; exact qWput_get hcounts_5 (by omega)
  have hcounts_6 : w21 33 = some (adcounts 33, qAI (g.2 0) 96) := by rw [ew21]; exact qWput_get hcounts_6 (by omega)
  have hcounts_7 : w21 34 = some (adcounts 34, qAI (g.2 0) 96) := by rw [ew21]; exact qWput_get hcounts_7 (by omega)
  have hcounts_8 : w21 35 = some (adcounts 35, qAI (g.2 0) 96) := by rw [ew21]; exact qWput_get hcounts_8 (by omega)
  have hcounts_9 : w21 36 = some (adcounts 36, qAI (g.2 0) 96) := by rw [ew21]; exact qWput_get hcounts_9 (by omega)
  have hcounts_10 : w21 37 = some (adcounts 37, qAI (g.2 0) 96) := by rw [ew21]; exact qWput_get hcounts_10 (by omega)
  have hT : w21 0 = some (aB, qOb 5 (fun r => [.ref (adwater 1), .ref (adtrial 14), .ref (adcounts 27), .null, .null, .int (qI (r 5)), .int (qI (r 6))])) := by rw [ew21]; exact qWput_self _ _ _
  have hrest : ∀ j, 47 ≤ j → w21 j = w j := fun j hj => by rw [ew21]; rw [qWput_ne _ (by omega)] <;> exact hrest j hj
  clear ew21
  refine r_aload_n (pc := 37) cx dX5_init_37 rfl ?_
  refine r_new (pc := 38) cx 38 (fun r => [.null, .null, .null, .int (qI (r 3))]) hcl_X1 qc_X1 tyX1_ok wc_X5_26 qinst_X1 qini_X1 (fun j hj => by match j, hj with | 0, _ => rfl | 1, _ => rfl | 2, _ => rfl | 3, _ => rfl) (Nat.le_of_ble_eq_true rfl) (Nat.le_of_ble_eq_true rfl) dX5_init_38 (fun q22 σ23 => ?_)
  refine qS.wnm (fun w24 ew24 => ?_)
  have hwater_0 : w24 1 = some (adwater 1, qOb 3 (fun r => [.ref (adwater (1 + 1)), .ref (adwater (1 + 2)), .ref (adwater (1 + 3)), .ref (adwater (1 + 4)), .ref (adwater (1 + 5)), .ref (adwater (1 + 6)), .ref (adwater (1 + 7)), .ref (adwater (1 + 8)), .ref (adwater (1 + 9)), .ref (adwater (1 + 10)), .ref (adwater (1 + 11)), .ref (adwater (1 + 12)), .int (qI (r 12))])) := by rw [ew24]; exact qWput_get hwater_0 (by omega)
  have hwater_1 : w24 (1 + 1) = some (adwater (1 + 1), qAI (g.2 0) 96) := by rw [ew24]; exact qWput_get hwater_1 (by omega)
  have hwater_2 : w24 (1 + 2) = some (adwater (1 + 2), qAI (g.2 0) 96) := by rw [ew24]; exact qWput_get hwater_2 (by omega)
  have hwater_3 : w24 (1 + 3) = some (adwater (1 + 3), qAI (g.2 0) 96) := by rw [ew24]; exact qWput_get hwater_3 (by omega)
  have hwater_4 : w24 (1 + 4) = some (adwater (1 + 4), qAI (g.2 0) 96) := by rw [ew24]; exact qWput_get hwater_4 (by omega)
  have hwater_5 : w24 (1 + 5) = some (adwater (1 + 5), qAI (g.2 0) 96) := by rw [ew24]; exact qWput_get hwater_5 (by omega)
  have hwater_6 : w24 (1 + 6) = some (adwater (1 + 6), qAI (g.2 0) 96) := by rw [ew24]; exact qWput_get hwater_6 (by omega)
  have hwater_7 : w24 (1 + 7) = some (adwater (1 + 7), qAI (g.2 0) 4) := by rw [ew24]; exact qWput_get hwater_7 (by omega)
  have hwater_8 : w24 (1 + 8) = some (adwater (1 + 8), qAI (g.2 0) 4) := by rw [ew24]; exact qWput_get hwater_8 (by omega)
  have hwater_9 : w24 (1 + 9) = some (adwater (1 + 9), qAI (g.2 0) 4) := by rw [ew24]; exact qWput_get hwater_9 (by omega)
  have hwater_10 : w24 (1 + 10) = some (adwater (1 + 10), qAI (g.2 0) 4) := by rw [ew24]; exact qWput_get hwater_10 (by omega)
  have hwater_11 : w24 (1 + 11) = some (adwater (1 + 11), qAI (g.2 0) 4) := by rw [ew24]; exact qWput_get hwater_11 (by omega)
  have hwater_12 : w24 (1 + 12) = some (adwater (1 + 12), qAI (g.2 0) 4) := by rw [ew24]; exact qWput_get hwater_12 (by omega)
  have htrial_0 : w24 14 = some (adtrial 14, qOb 3 (fun r => [.ref (adtrial (14 + 1)), .ref (adtrial (14 + 2)), .ref (adtrial (14 + 3)), .ref (adtrial (14 + 4)), .ref (adtrial (14 + 5)), .ref (adtrial (14 + 6)), .ref (adtrial (14 + 7)), .ref (adtrial (14 + 8)), .ref (adtrial (14 + 9)), .ref (adtrial (14 + 10)), .ref (adtrial (14 + 11)), .ref (adtrial (14 + 12)), .int (qI (r 12))])) := by rw [ew24]; exact qWput_get htrial_0 (by omega)
  have htrial_1 : w24 (14 + 1) = some (adtrial (14 + 1), qAI (g.2 0) 96) := by rw [ew24]; exact qWput_get htrial_1 (by omega)
  have htrial_2 : w24 (14 + 2) = some (adtrial (14 + 2), qAI (g.2 0) 96) := by rw [ew24]; exact qWput_get htrial_2 (by omega)
  have htrial_3 : w24 (14 + 3) = some (adtrial (14 + 3), qAI (g.2 0) 96) := by rw [ew24]; exact qWput_get htrial_3 (by omega)
  have htrial_4 : w24 (14 + 4) = some (adtrial (14 + 4), qAI (g.2 0) 96) := by rw [ew24]; exact qWput_get htrial_4 (by omega)
  have htrial_5 : w24 (14 + 5) = some (adtrial (14 + 5), qAI (g.2 0) 96) := by rw [ew24]; exact qWput_get htrial_5 (by omega)
  have htrial_6 : w24 (14 + 6) = some (adtrial (14 + 6), qAI (g.2 0) 96) := by rw [ew24]; exact qWput_get htrial_6 (by omega)
  have htrial_7 : w24 (14 + 7) = some (adtrial (14 + 7), qAI (g.2 0) 4) := by rw [ew24]; exact qWput_get htrial_7 (by omega)
  have htrial_8 : w24 (14 + 8) = some (adtrial (14 + 8), qAI (g.2 0) 4) := by rw [ew24]; exact qWput_get htrial_8 (by omega)
  have htrial_9 : w24 (14 + 9) = some (adtrial (14 + 9), qAI (g.2 0) 4) := by rw [ew24]; exact qWput_get htrial_9 (by omega)
  have htrial_10 : w24 (14 + 10) = some (adtrial (14 + 10), qAI (g.2 0) 4) := by rw [ew24]; exact qWput_get htrial_10 (by omega)
  have htrial_11 : w24 (14 + 11) = some (adtrial (14 + 11), qAI (g.2 0) 4) := by rw [ew24]; exact qWput_get htrial_11 (by omega)
  have htrial_12 : w24 (14 + 12) = some (adtrial (14 + 12), qAI (g.2 0) 4) := by rw [ew24]; exact qWput_get htrial_12 (by omega)
  have hcounts_0 : w24 27 = some (adcounts 27, qOb 0 (fun r => [.ref (adcounts 28), .ref (adcounts 29), .int (qI (r 2)), .long (qJ (r 3))])) := by rw [ew24]; exact qWput_get hcounts_0 (by omega)
  have hcounts_1 : w24 28 = some (adcounts 28, qAR (g.2 2) 4 (fun j => adcounts (30 + j))) := by rw [ew24]; exact qWput_get hcounts_1 (by omega)
  have hcounts_2 : w24 29 = some (adcounts 29, qAR (g.2 2) 4 (fun j => adcounts (34 + j))) := by rw [ew24]; exact qWput_get hcounts_2 (by omega)
  have hcounts_3 : w24 30 = some (adcounts 30, qAI (g.2 0) 96) := by rw [ew24]; exact qWput_get hcounts_3 (by omega)
  have hcounts_4 : w24 31 = some (adcounts 31, qAI (g.2 0) 96) := by rw [ew24]; exact qWput_get hcounts_4 (by omega)
  have hcounts_5 : w24 32 = some (adcounts 32, qAI (g.2 0) 96) := by rw [ew24]; exact qWput_get hcounts_5 (by omega)
  have hcounts_6 : w24 33 = some (adcounts 33, qAI (g.2 0) 96) := by rw [ew24]; exact qWput_get hcounts_6 (by omega)
  have hcounts_7 : w24 34 = some (adcounts 34, qAI (g.2 0) 96) := by rw [ew24]; exact qWput_get hcounts_7 (by omega)
  have hcounts_8 : w24 35 = some (adcounts 35, qAI (g.2 0) 96) := by rw [ew24]; exact qWput_get hcounts_8 (by omega)
  have hcounts_9 : w24 36 = some (adcounts 36, qAI (g.2 0) 96) := by rw [ew24]; exact qWput_get hcounts_9 (by omega)
  have hcounts_10 : w24 37 = some (adcounts 37, qAI (g.2 0) 96) := by rw [ew24]; exact qWput_get hcounts_10 (by omega)
  have hT : w24 0 = some (aB, qOb 5 (fun r => [.ref (adwater 1), .ref (adtrial 14), .ref (adcounts 27), .null, .null, .int (qI (r 5)), .int (qI (r 6))])) := by rw [ew24]; exact qWput_get hT (by omega)
  have hOprobes : w24 38 = some (q22, qOb 1 (fun r => [.null, .null, .null, .int (qI (r 3))])) := by rw [ew24]; exact qWput_self _ _ _
  have hrest : ∀ j, 47 ≤ j → w24 j = w j := fun j hj => by rw [ew24]; rw [qWput_ne _ (by omega)] <;> exact hrest j hj
  clear ew24
  refine r_dup (pc := 41) cx dX5_init_41 rfl ?_
  refine r_makeN (pc := 42) cx (tX1_init hOprobes σ23) qm_X1_init rfl qi_X1_init wn_X5_28 dX5_init_42 rfl rfl (Nat.le_of_ble_eq_true rfl) ⟨Nat.le_of_ble_eq_true rfl, Nat.le_of_ble_eq_true rfl⟩ ⟨Nat.le_of_ble_eq_true rfl, Nat.le_of_ble_eq_true rfl⟩ (fun w26 hPprobes r42 σ25 => ?_)
  obtain ⟨adprobes, eaprobes, hprobes_0, hprobes_1, hprobes_2, hprobes_3, hprobes_4, hprobes_5, hprobes_6, hprobes_7, hxprobes⟩ := hPprobes
  have hwater_0 : w26 1 = some (adwater 1, qOb 3 (fun r => [.ref (adwater (1 + 1)), .ref (adwater (1 + 2)), .ref (adwater (1 + 3)), .ref (adwater (1 + 4)), .ref (adwater (1 + 5)), .ref (adwater (1 + 6)), .ref (adwater (1 + 7)), .ref (adwater (1 + 8)), .ref (adwater (1 + 9)), .ref (adwater (1 + 10)), .ref (adwater (1 + 11)), .ref (adwater (1 + 12)), .int (qI (r 12))])) := by rw [hxprobes 1 (by omega)]; exact hwater_0
  have hwater_1 : w26 (1 + 1) = some (adwater (1 + 1), qAI (g.2 0) 96) := by rw [hxprobes (1 + 1) (by omega)]; exact hwater_1
  have hwater_2 : w26 (1 + 2) = some (adwater (1 + 2), qAI (g.2 0) 96) := by rw [hxprobes (1 + 2) (by omega)]; exact hwater_2
  have hwater_3 : w26 (1 + 3) = some (adwater (1 + 3), qAI (g.2 0) 96) := by rw [hxprobes (1 + 3) (by omega)]; exact hwater_3
  have hwater_4 : w26 (1 + 4) = some (adwater (1 + 4), qAI (g.2 0) 96) := by rw [hxprobes (1 + 4) (by omega)]; exact hwater_4
  have hwater_5 : w26 (1 + 5) = some (adwater (1 + 5), qAI (g.2 0) 96) := by rw [hxprobes (1 + 5) (by omega)]; exact hwater_5
  have hwater_6 : w26 (1 + 6) = some (adwater (1 + 6), qAI (g.2 0) 96) := by rw [hxprobes (1 + 6) (by omega)]; exact hwater_6
  have hwater_7 : w26 (1 + 7) = some (adwater (1 + 7), qAI (g.2 0) 4) := by rw [hxprobes (1 + 7) (by omega)]; exact hwater_7
  have hwater_8 : w26 (1 + 8) = some (adwater (1 + 8), qAI (g.2 0) 4) := by rw [hxprobes (1 + 8) (by omega)]; exact hwater_8
  have hwater_9 : w26 (1 + 9) = some (adwater (1 + 9), qAI (g.2 0) 4) := by rw [hxprobes (1 + 9) (by omega)]; exact hwater_9
  have hwater_10 : w26 (1 + 10) = some (adwater (1 + 10), qAI (g.2 0) 4) := by rw [hxprobes (1 + 10) (by omega)]; exact hwater_10
  have hwater_11 : w26 (1 + 11) = some (adwater (1 + 11), qAI (g.2 0) 4) := by rw [hxprobes (1 + 11) (by omega)]; exact hwater_11
  have hwater_12 : w26 (1 + 12) = some (adwater (1 + 12), qAI (g.2 0) 4) := by rw [hxprobes (1 + 12) (by omega)]; exact hwater_12
  have htrial_0 : w26 14 = some (adtrial 14, qOb 3 (fun r => [.ref (adtrial (14 + 1)), .ref (adtrial (14 + 2)), .ref (adtrial (14 + 3)), .ref (adtrial (14 + 4)), .ref (adtrial (14 + 5)), .ref (adtrial (14 + 6)), .ref (adtrial (14 + 7)), .ref (adtrial (14 + 8)), .ref (adtrial (14 + 9)), .ref (adtrial (14 + 10)), .ref (adtrial (14 + 11)), .ref (adtrial (14 + 12)), .int (qI (r 12))])) := by rw [hxprobes 14 (by omega)]; exact htrial_0
  have htrial_1 : w26 (14 + 1) = some (adtrial (14 + 1), qAI (g.2 0) 96) := by rw [hxprobes (14 + 1) (by omega)]; exact htrial_1
  have htrial_2 : w26 (14 + 2) = some (adtrial (14 + 2), qAI (g.2 0) 96) := by rw [hxprobes (14 + 2) (by omega)]; exact htrial_2
  have htrial_3 : w26 (14 + 3) = some (adtrial (14 + 3), qAI (g.2 0) 96) := by rw [hxprobes (14 + 3) (by omega)]; exact htrial_3
  have htrial_4 : w26 (14 + 4) = some (adtrial (14 + 4), qAI (g.2 0) 96) := by rw [hxprobes (14 + 4) (by omega)]; exact htrial_4
  have htrial_5 : w26 (14 + 5) = some (adtrial (14 + 5), qAI (g.2 0) 96) := by rw [hxprobes (14 + 5) (by omega)]; exact htrial_5
  have htrial_6 : w26 (14 + 6) = some (adtrial (14 + 6), qAI (g.2 0) 96) := by rw [hxprobes (14 + 6) (by omega)]; exact htrial_6
  have htrial_7 : w26 (14 + 7) = some (adtrial (14 + 7), qAI (g.2 0) 4) := by rw [hxprobes (14 + 7) (by omega)]; exact htrial_7
  have htrial_8 : w26 (14 + 8) = some (adtrial (14 + 8), qAI (g.2 0) 4) := by rw [hxprobes (14 + 8) (by omega)]; exact htrial_8
  have htrial_9 : w26 (14 + 9) = some (adtrial (14 + 9), qAI (g.2 0) 4) := by rw [hxprobes (14 + 9) (by omega)]; exact htrial_9
  have htrial_10 : w26 (14 + 10) = some (adtrial (14 + 10), qAI (g.2 0) 4) := by rw [hxprobes (14 + 10) (by omega)]; exact htrial_10
  have htrial_11 : w26 (14 + 11) = some (adtrial (14 + 11), qAI (g.2 0) 4) := by rw [hxprobes (14 + 11) (by omega)]; exact htrial_11
  have htrial_12 : w26 (14 + 12) = some (adtrial (14 + 12), qAI (g.2 0) 4) := by rw [hxprobes (14 + 12) (by omega)]; exact htrial_12
  have hcounts_0 : w26 27 = some (adcounts 27, qOb 0 (fun r => [.ref (adcounts 28), .ref (adcounts 29), .int (qI (r 2)), .long (qJ (r 3))])) := by rw [hxprobes 27 (by omega)]; exact hcounts_0
  have hcounts_1 : w26 28 = some (adcounts 28, qAR (g.2 2) 4 (fun j => adcounts (30 + j))) := by rw [hxprobes 28 (by omega)]; exact hcounts_1
  have hcounts_2 : w26 29 = some (adcounts 29, qAR (g.2 2) 4 (fun j => adcounts (34 + j))) := by rw [hxprobes 29 (by omega)]; exact hcounts_2
  have hcounts_3 : w26 30 = some (adcounts 30, qAI (g.2 0) 96) := by rw [hxprobes 30 (by omega)]; exact hcounts_3
  have hcounts_4 : w26 31 = some (adcounts 31, qAI (g.2 0) 96) := by rw [hxprobes 31 (by omega)]; exact hcounts_4
  have hcounts_5 : w26 32 = some (adcounts 32, qAI (g.2 0) 96) := by rw [hxprobes 32 (by omega)]; exact hcounts_5
  have hcounts_6 : w26 33 = some (adcounts 33, qAI (g.2 0) 96) := by rw [hxprobes 33 (by omega)]; exact hcounts_6
  have hcounts_7 : w26 34 = some (adcounts 34, qAI (g.2 0) 96) := by rw [hxprobes 34 (by omega)]; exact hcounts_7
  have hcounts_8 : w26 35 = some (adcounts 35, qAI (g.2 0) 96) := by rw [hxprobes 35 (by omega)]; exact hcounts_8
  have hcounts_9 : w26 36 = some (adcounts 36, qAI (g.2 0) 96) := by rw [hxprobes 36 (by omega)]; exact hcounts_9
  have hcounts_10 : w26 37 = some (adcounts 37, qAI (g.2 0) 96) := by rw [hxprobes 37 (by omega)]; exact hcounts_10
  have hT : w26 0 = some (aB, qOb 5 (fun r => [.ref (adwater 1), .ref (adtrial 14), .ref (adcounts 27), .null, .null, .int (qI (r 5)), .int (qI (r 6))])) := by rw [hxprobes 0 (by omega)]; exact hT
  have hrest : ∀ j, 47 ≤ j → w26 j = w j := fun j hj => by rw [hxprobes j (by omega)]; exact hrest j hj
  subst eaprobes
  refine r_putF (pc := 45) (fl' := (fun r => [.ref (adwater 1), .ref (adtrial 14), .ref (adcounts 27), .ref (adprobes 38), .null, .int (qI (r 5)), .int (qI (r 6))])) (r' := σ25 0) cx hcl_X5 qc_X5 hT (j := 3) (by decide) tyX5_ok nmX5 wf_X5_29 rfl hin rfl (tyX5_ok 3 (by decide)) rfl rfl (Nat.le_of_ble_eq_true rfl) rfl dX5_init_45 (fun σ27 => ?_)
  refine qS.wnm (fun w28 ew28 => ?_)
  have hwater_0 : w28 1 = some (adwater 1, qOb 3 (fun r => [.ref (adwater (1 + 1)), .ref (adwater (1 + 2)), .ref (adwater (1 + 3)), .ref (adwater (1 + 4)), .ref (adwater (1 + 5)), .ref (adwater (1 + 6)), .ref (adwater (1 + 7)), .ref (adwater (1 + 8)), .ref (adwater (1 + 9)), .ref (adwater (1 + 10)), .ref (adwater (1 + 11)), .ref (adwater (1 + 12)), .int (qI (r 12))])) := by rw [ew28]; exact qWput_get hwater_0 (by omega)
  have hwater_1 : w28 (1 + 1) = some (adwater (1 + 1), qAI (g.2 0) 96) := by rw [ew28]; exact qWput_get hwater_1 (by omega)
  have hwater_2 : w28 (1 + 2) = some (adwater (1 + 2), qAI (g.2 0) 96) := by rw [ew28]; exact qWput_get hwater_2 (by omega)
  have hwater_3 : w28 (1 + 3) = some (adwater (1 + 3), qAI (g.2 0) 96) := by rw [ew28]; exact qWput_get hwater_3 (by omega)
  have hwater_4 : w28 (1 + 4) = some (adwater (1 + 4), qAI (g.2 0) 96) := by rw [ew28]; exact qWput_get hwater_4 (by omega)
  have hwater_5 : w28 (1 + 5) = some (adwater (1 + 5), qAI (g.2 0) 96) := by rw [ew28]; exact qWput_get hwater_5 (by omega)
  have hwater_6 : w28 (1 + 6) = some (adwater (1 + 6), qAI (g.2 0) 96) := by rw [ew28]; exact qWput_get hwater_6 (by omega)
  have hwater_7 : w28 (1 + 7) = some (adwater (1 + 7), qAI (g.2 0) 4) := by rw [ew28]; exact qWput_get hwater_7 (by omega)
  have hwater_8 : w28 (1 + 8) = some (adwater (1 + 8), qAI (g.2 0) 4) := by rw [ew28]; exact qWput_get hwater_8 (by omega)
  have hwater_9 : w28 (1 + 9) = some (adwater (1 + 9), qAI (g.2 0) 4) := by rw [ew28]; exact qWput_get hwater_9 (by omega)
  have hwater_10 : w28 (1 + 10) = some (adwater (1 + 10), qAI (g.2 0) 4) := by rw [ew28]; exact qWput_get hwater_10 (by omega)
  have hwater_11 : w28 (1 + 11) = some (adwater (1 + 11), qAI (g.2 0) 4) := by rw [ew28]; exact qWput_get hwater_11 (by omega)
  have hwater_12 : w28 (1 + 12) = some (adwater (1 + 12), qAI (g.2 0) 4) := by rw [ew28]; exact qWput_get hwater_12 (by omega)
  have htrial_0 : w28 14 = some (adtrial 14, qOb 3 (fun r => [.ref (adtrial (14 + 1)), .ref (adtrial (14 + 2)), .ref (adtrial (14 + 3)), .ref (adtrial (14 + 4)), .ref (adtrial (14 + 5)), .ref (adtrial (14 + 6)), .ref (adtrial (14 + 7)), .ref (adtrial (14 + 8)), .ref (adtrial (14 + 9)), .ref (adtrial (14 + 10)), .ref (adtrial (14 + 11)), .ref (adtrial (14 + 12)), .int (qI (r 12))])) := by rw [ew28]; exact qWput_get htrial_0 (by omega)
  have htrial_1 : w28 (14 + 1) = some (adtrial (14 + 1), qAI (g.2 0) 96) := by rw [ew28]; exact qWput_get htrial_1 (by omega)
  have htrial_2 : w28 (14 + 2) = some (adtrial (14 + 2), qAI (g.2 0) 96) := by rw [ew28]; exact qWput_get htrial_2 (by omega)
  have htrial_3 : w28 (14 + 3) = some (adtrial (14 + 3), qAI (g.2 0) 96) := by rw [ew28]; exact qWput_get htrial_3 (by omega)
  have htrial_4 : w28 (14 + 4) = some (adtrial (14 + 4), qAI (g.2 0) 96) := by rw [ew28]; exact qWput_get htrial_4 (by omega)
  have htrial_5 : w28 (14 + 5) = some (adtrial (14 + 5), qAI (g.2 0) 96) := by rw [ew28]; exact qWput_get htrial_5 (by omega)
  have htrial_6 : w28 (14 + 6) = some (adtrial (14 + 6), qAI (g.2 0) 96) := by rw [ew28]; exact qWput_get htrial_6 (by omega)
  have htrial_7 : w28 (14 + 7) = some (adtrial (14 + 7), qAI (g.2 0) 4) := by rw [ew28]; exact qWput_get htrial_7 (by omega)
  have htrial_8 : w28 (14 + 8) = some (adtrial (14 + 8), qAI (g.2 0) 4) := by rw [ew28]; exact qWput_get htrial_8 (by omega)
  have htrial_9 : w28 (14 + 9) = some (adtrial (14 + 9), qAI (g.2 0) 4) := by rw [ew28]; exact qWput_get htrial_9 (by omega)
  have htrial_10 : w28 (14 + 10) = some (adtrial (14 + 10), qAI (g.2 0) 4) := by rw [ew28]; exact qWput_get htrial_10 (by omega)
  have htrial_11 : w28 (14 + 11) = some (adtrial (14 + 11), qAI (g.2 0) 4) := by rw [ew28]; exact qWput_get htrial_11 (by omega)
  have htrial_12 : w28 (14 + 12) = some (adtrial (14 + 12), qAI (g.2 0) 4) := by rw [ew28]; exact qWput_get htrial_12 (by omega)
  have hcounts_0 : w28 27 = some (adcounts 27, qOb 0 (fun r => [.ref (adcounts 28), .ref (adcounts 29), .int (qI (r 2)), .long (qJ (r 3))])) := by rw [ew28]; exact qWput_get hcounts_0 (by omega)
  have hcounts_1 : w28 28 = some (adcounts 28, qAR (g.2 2) 4 (fun j => adcounts (30 + j))) := by rw [ew28]; exact qWput_get hcounts_1 (by omega)
  have hcounts_2 : w28 29 = some (adcounts 29, qAR (g.2 2) 4 (fun j => adcounts (34 + j))) := by rw [ew28]; exact qWput_get hcounts_2 (by omega)
  have hcounts_3 : w28 30 = some (adcounts 30, qAI (g.2 0) 96) := by rw [ew28]; exact qWput_get hcounts_3 (by omega)
  have hcounts_4 : w28 31 = some (adcounts 31, qAI (g.2 0) 96) := by rw [ew28]; exact qWput_get hcounts_4 (by omega)
  have hcounts_5 : w28 32 = some (adcounts 32, qAI (g.2 0) 96) := by rw [ew28]; exact qWput_get hcounts_5 (by omega)
  have hcounts_6 : w28 33 = some (adcounts 33, qAI (g.2 0) 96) := by rw [ew28]; exact qWput_get hcounts_6 (by omega)
  have hcounts_7 : w28 34 = some (adcounts 34, qAI (g.2 0) 96) := by rw [ew28]; exact qWput_get hcounts_7 (by omega)
  have hcounts_8 : w28 35 = some (adcounts 35, qAI (g.2 0) 96) := by rw [ew28]; exact qWput_get hcounts_8 (by omega)
  have hcounts_9 : w28 36 = some (adcounts 36, qAI (g.2 0) 96) := by rw [ew28]; exact qWput_get hcounts_9 (by omega)
  have hcounts_10 : w28 37 = some (adcounts 37, qAI (g.2 0) 96) := by rw [ew28]; exact qWput_get hcounts_10 (by omega)
  have hprobes_0 : w28 38 = some (adprobes 38, qOb 1 (fun r => [.ref (adprobes 39), .ref (adprobes 40), .ref (adprobes 41), .int (qI (r 3))])) := by rw [ew28]; exact qWput_get hprobes_0 (by omega)
  have hprobes_1 : w28 39 = some (adprobes 39, qAI (g.2 0) 4) := by rw [ew28]; exact qWput_get hprobes_1 (by omega)
  have hprobes_2 : w28 40 = some (adprobes 40, qAI (g.2 0) 4) := by rw [ew28]; exact qWput_get hprobes_2 (by omega)
  have hprobes_3 : w28 41 = some (adprobes 41, qAR (g.2 3) 4 (fun j => adprobes (42 + j))) := by rw [ew28]; exact qWput_get hprobes_3 (by omega)
  have hprobes_4 : w28 42 = some (adprobes 42, qAI (g.2 1) 5000) := by rw [ew28]; exact qWput_get hprobes_4 (by omega)
  have hprobes_5 : w28 43 = some (adprobes 43, qAI (g.2 1) 5000) := by rw [ew28]; exact qWput_get hprobes_5 (by omega)
  have hprobes_6 : w28 44 = some (adprobes 44, qAI (g.2 1) 5000) := by rw [ew28]; exact qWput_get hprobes_6 (by omega)
  have hprobes_7 : w28 45 = some (adprobes 45, qAI (g.2 1) 5000) := by rw [ew28]; exact qWput_get hprobes_7 (by omega)
  have hT : w28 0 = some (aB, qOb 5 (fun r => [.ref (adwater 1), .ref (adtrial 14), .ref (adcounts 27), .ref (adprobes 38), .null, .int (qI (r 5)), .int (qI (r 6))])) := by rw [ew28]; exact qWput_self _ _ _
  have hrest : ∀ j, 47 ≤ j → w28 j = w j := fun j hj => by rw [ew28]; rw [qWput_ne _ (by omega)] <;> exact hrest j hj
  clear ew28
  refine r_aload_n (pc := 48) cx dX5_init_48 rfl ?_
  refine r_iconst (pc := 49) cx dX5_init_49 ?_
  refine r_newarr_i (pc := 50) cx 46 4 rfl (by decide) qac_int (Nat.le_of_ble_eq_true rfl) (Nat.le_of_ble_eq_true rfl) dX5_init_50 (fun q29 σ30 => ?_)
  refine qS.wnm (fun w31 ew31 => ?_)
  have hwater_0 : w31 1 = some (adwater 1, qOb 3 (fun r => [.ref (adwater (1 + 1)), .ref (adwater (1 + 2)), .ref (adwater (1 + 3)), .ref (adwater (1 + 4)), .ref (adwater (1 + 5)), .ref (adwater (1 + 6)), .ref (adwater (1 + 7)), .ref (adwater (1 + 8)), .ref (adwater (1 + 9)), .ref (adwater (1 + 10)), .ref (adwater (1 + 11)), .ref (adwater (1 + 12)), .int (qI (r 12))])) := by rw [ew31]; exact qWput_get hwater_0 (by omega)
  have hwater_1 : w31 (1 + 1) = some (adwater (1 + 1), qAI (g.2 0) 96) := by rw [ew31]; exact qWput_get hwater_1 (by omega)
  have hwater_2 : w31 (1 + 2) = some (adwater (1 + 2), qAI (g.2 0) 96) := by rw [ew31]; exact qWput_get hwater_2 (by omega)
  have hwater_3 : w31 (1 + 3) = some (adwater (1 + 3), qAI (g.2 0) 96) := by rw [ew31]; exact qWput_get hwater_3 (by omega)
  have hwater_4 : w31 (1 + 4) = some (adwater (1 + 4), qAI (g.2 0) 96) := by rw [ew31]; exact qWput_get hwater_4 (by omega)
  have hwater_5 : w31 (1 + 5) = some (adwater (1 + 5), qAI (g.2 0) 96) := by rw [ew31]; exact qWput_get hwater_5 (by omega)
  have hwater_6 : w31 (1 + 6) = some (adwater (1 + 6), qAI (g.2 0) 96) := by rw [ew31]; exact qWput_get hwater_6 (by omega)
  have hwater_7 : w31 (1 + 7) = some (adwater (1 + 7), qAI (g.2 0) 4) := by rw [ew31]; exact qWput_get hwater_7 (by omega)
  have hwater_8 : w31 (1 + 8) = some (adwater (1 + 8), qAI (g.2 0) 4) := by rw [ew31]; exact qWput_get hwater_8 (by omega)
  have hwater_9 : w31 (1 + 9) = some (adwater (1 + 9), qAI (g.2 0) 4) := by rw [ew31]; exact qWput_get hwater_9 (by omega)
  have hwater_10 : w31 (1 + 10) = some (adwater (1 + 10), qAI (g.2 0) 4) := by rw [ew31]; exact qWput_get hwater_10 (by omega)
  have hwater_11 : w31 (1 + 11) = some (adwater (1 + 11), qAI (g.2 0) 4) := by rw [ew31]; exact qWput_get hwater_11 (by omega)
  have hwater_12 : w31 (1 + 12) = some (adwater (1 + 12), qAI (g.2 0) 4) := by rw [ew31]; exact qWput_get hwater_12 (by omega)
  have htrial_0 : w31 14 = some (adtrial 14, qOb 3 (fun r => [.ref (adtrial (14 + 1)), .ref (adtrial (14 + 2)), .ref (adtrial (14 + 3)), .ref (adtrial (14 + 4)), .ref (adtrial (14 + 5)), .ref (adtrial (14 + 6)), .ref (adtrial (14 + 7)), .ref (adtrial (14 + 8)), .ref (adtrial (14 + 9)), .ref (adtrial (14 + 10)), .ref (adtrial (14 + 11)), .ref (adtrial (14 + 12)), .int (qI (r 12))])) := by rw [ew31]; exact qWput_get htrial_0 (by omega)
  have htrial_1 : w31 (14 + 1) = some (adtrial (14 + 1), qAI (g.2 0) 96) := by rw [ew31]; exact qWput_get htrial_1 (by omega)
  have htrial_2 : w31 (14 + 2) = some (adtrial (14 + 2), qAI (g.2 0) 96) := by rw [ew31]; exact qWput_get htrial_2 (by omega)
  have htrial_3 : w31 (14 + 3) = some (adtrial (14 + 3), qAI (g.2 0) 96) := by rw [ew31]; exact qWput_get htrial_3 (by omega)
  have htrial_4 : w31 (14 + 4) = some (adtrial (14 + 4), qAI (g.2 0) 96) := by rw [ew31]; exact qWput_get htrial_4 (by omega)
  have htrial_5 : w31 (14 + 5) = some (adtrial (14 + 5), qAI (g.2 0) 96) := by rw [ew31]; exact qWput_get htrial_5 (by omega)
  have htrial_6 : w31 (14 + 6) = some (adtrial (14 + 6), qAI (g.2 0) 96) := by rw [ew31]; exact qWput_get htrial_6 (by omega)
  have htrial_7 : w31 (14 + 7) = some (adtrial (14 + 7), qAI (g.2 0) 4) := by rw [ew31]; exact qWput_get htrial_7 (by omega)
  have htrial_8 : w31 (14 + 8) = some (adtrial (14 + 8), qAI (g.2 0) 4) := by rw [ew31]; exact qWput_get htrial_8 (by omega)
  have htrial_9 : w31 (14 + 9) = some (adtrial (14 + 9), qAI (g.2 0) 4) := by rw [ew31]; exact qWput_get htrial_9 (by omega)
  have htrial_10 : w31 (14 + 10) = some (adtrial (14 + 10), qAI (g.2 0) 4) := by rw [ew31]; exact qWput_get htrial_10 (by omega)
  have htrial_11 : w31 (14 + 11) = some (adtrial (14 + 11), qAI (g.2 0) 4) := by rw [ew31]; exact qWput_get htrial_11 (by omega)
  have htrial_12 : w31 (14 + 12) = some (adtrial (14 + 12), qAI (g.2 0) 4) := by rw [ew31]; exact qWput_get htrial_12 (by omega)
  have hcounts_0 : w31 27 = some (adcounts 27, qOb 0 (fun r => [.ref (adcounts 28), .ref (adcounts 29), .int (qI (r 2)), .long (qJ (r 3))])) := by rw [ew31]; exact qWput_get hcounts_0 (by omega)
  have hcounts_1 : w31 28 = some (adcounts 28, qAR (g.2 2) 4 (fun j => adcounts (30 + j))) := by rw [ew31]; exact qWput_get hcounts_1 (by omega)
  have hcounts_2 : w31 29 = some (adcounts 29, qAR (g.2 2) 4 (fun j => adcounts (34 + j))) := by rw [ew31]; exact qWput_get hcounts_2 (by omega)
  have hcounts_3 : w31 30 = some (adcounts 30, qAI (g.2 0) 96) := by rw [ew31]; exact qWput_get hcounts_3 (by omega)
  have hcounts_4 : w31 31 = some (adcounts 31, qAI (g.2 0) 96) := by rw [ew31]; exact qWput_get hcounts_4 (by omega)
  have hcounts_5 : w31 32 = some (adcounts 32, qAI (g.2 0) 96) := by rw [ew31]; exact qWput_get hcounts_5 (by omega)
  have hcounts_6 : w31 33 = some (adcounts 33, qAI (g.2 0) 96) := by rw [ew31]; exact qWput_get hcounts_6 (by omega)
  have hcounts_7 : w31 34 = some (adcounts 34, qAI (g.2 0) 96) := by rw [ew31]; exact qWput_get hcounts_7 (by omega)
  have hcounts_8 : w31 35 = some (adcounts 35, qAI (g.2 0) 96) := by rw [ew31]; exact qWput_get hcounts_8 (by omega)
  have hcounts_9 : w31 36 = some (adcounts 36, qAI (g.2 0) 96) := by rw [ew31]; exact qWput_get hcounts_9 (by omega)
  have hcounts_10 : w31 37 = some (adcounts 37, qAI (g.2 0) 96) := by rw [ew31]; exact qWput_get hcounts_10 (by omega)
  have hprobes_0 : w31 38 = some (adprobes 38, qOb 1 (fun r => [.ref (adprobes 39), .ref (adprobes 40), .ref (adprobes 41), .int (qI (r 3))])) := by rw [ew31]; exact qWput_get hprobes_0 (by omega)
  have hprobes_1 : w31 39 = some (adprobes 39, qAI (g.2 0) 4) := by rw [ew31]; exact qWput_get hprobes_1 (by omega)
  have hprobes_2 : w31 40 = some (adprobes 40, qAI (g.2 0) 4) := by rw [ew31]; exact qWput_get hprobes_2 (by omega)
  have hprobes_3 : w31 41 = some (adprobes 41, qAR (g.2 3) 4 (fun j => adprobes (42 + j))) := by rw [ew31]; exact qWput_get hprobes_3 (by omega)
  have hprobes_4 : w31 42 = some (adprobes 42, qAI (g.2 1) 5000) := by rw [ew31]; exact qWput_get hprobes_4 (by omega)
  have hprobes_5 : w31 43 = some (adprobes 43, qAI (g.2 1) 5000) := by rw [ew31]; exact qWput_get hprobes_5 (by omega)
  have hprobes_6 : w31 44 = some (adprobes 44, qAI (g.2 1) 5000) := by rw [ew31]; exact qWput_get hprobes_6 (by omega)
  have hprobes_7 : w31 45 = some (adprobes 45, qAI (g.2 1) 5000) := by rw [ew31]; exact qWput_get hprobes_7 (by omega)
  have hT : w31 0 = some (aB, qOb 5 (fun r => [.ref (adwater 1), .ref (adtrial 14), .ref (adcounts 27), .ref (adprobes 38), .null, .int (qI (r 5)), .int (qI (r 6))])) := by rw [ew31]; exact qWput_get hT (by omega)
  have hCfaults : w31 46 = some (q29, qAI (g.2 0) 4) := by rw [ew31]; exact qWput_self _ _ _
  have hrest : ∀ j, 47 ≤ j → w31 j = w j := fun j hj => by rw [ew31]; rw [qWput_ne _ (by omega)] <;> exact hrest j hj
  clear ew31
  refine r_putF (pc := 52) (fl' := (fun r => [.ref (adwater 1), .ref (adtrial 14), .ref (adcounts 27), .ref (adprobes 38), .ref q29, .int (qI (r 5)), .int (qI (r 6))])) (r' := σ30 0) cx hcl_X5 qc_X5 hT (j := 4) (by decide) tyX5_ok nmX5 wf_X5_33 rfl hin rfl (tyX5_ok 4 (by decide)) rfl rfl (Nat.le_of_ble_eq_true rfl) rfl dX5_init_52 (fun σ32 => ?_)
  refine qS.wnm (fun w33 ew33 => ?_)
  have hwater_0 : w33 1 = some (adwater 1, qOb 3 (fun r => [.ref (adwater (1 + 1)), .ref (adwater (1 + 2)), .ref (adwater (1 + 3)), .ref (adwater (1 + 4)), .ref (adwater (1 + 5)), .ref (adwater (1 + 6)), .ref (adwater (1 + 7)), .ref (adwater (1 + 8)), .ref (adwater (1 + 9)), .ref (adwater (1 + 10)), .ref (adwater (1 + 11)), .ref (adwater (1 + 12)), .int (qI (r 12))])) := by rw [ew33]; exact qWput_get hwater_0 (by omega)
  have hwater_1 : w33 (1 + 1) = some (adwater (1 + 1), qAI (g.2 0) 96) := by rw [ew33]; exact qWput_get hwater_1 (by omega)
  have hwater_2 : w33 (1 + 2) = some (adwater (1 + 2), qAI (g.2 0) 96) := by rw [ew33]; exact qWput_get hwater_2 (by omega)
  have hwater_3 : w33 (1 + 3) = some (adwater (1 + 3), qAI (g.2 0) 96) := by rw [ew33]; exact qWput_get hwater_3 (by omega)
  have hwater_4 : w33 (1 + 4) = some (adwater (1 + 4), qAI (g.2 0) 96) := by rw [ew33]; exact qWput_get hwater_4 (by omega)
  have hwater_5 : w33 (1 + 5) = some (adwater (1 + 5), qAI (g.2 0) 96) := by rw [ew33]; exact qWput_get hwater_5 (by omega)
  have hwater_6 : w33 (1 + 6) = some (adwater (1 + 6), qAI (g.2 0) 96) := by rw [ew33]; exact qWput_get hwater_6 (by omega)
  have hwater_7 : w33 (1 + 7) = some (adwater (1 + 7), qAI (g.2 0) 4) := by rw [ew33]; exact qWput_get hwater_7 (by omega)
  have hwater_8 : w33 (1 + 8) = some (adwater (1 + 8), qAI (g.2 0) 4) := by rw [ew33]; exact qWput_get hwater_8 (by omega)
  have hwater_9 : w33 (1 + 9) = some (adwater (1 + 9), qAI (g.2 0) 4) := by rw [ew33]; exact qWput_get hwater_9 (by omega)
  have hwater_10 : w33 (1 + 10) = some (adwater (1 + 10), qAI (g.2 0) 4) := by rw [ew33]; exact qWput_get hwater_10 (by omega)
  have hwater_11 : w33 (1 + 11) = some (adwater (1 + 11), qAI (g.2 0) 4) := by rw [ew33]; exact qWput_get hwater_11 (by omega)
  have hwater_12 : w33 (1 + 12) = some (adwater (1 + 12), qAI (g.2 0) 4) := by rw [ew33]; exact qWput_get hwater_12 (by omega)
  have htrial_0 : w33 14 = some (adtrial 14, qOb 3 (fun r => [.ref (adtrial (14 + 1)), .ref (adtrial (14 + 2)), .ref (adtrial (14 + 3)), .ref (adtrial (14 + 4)), .ref (adtrial (14 + 5)), .ref (adtrial (14 + 6)), .ref (adtrial (14 + 7)), .ref (adtrial (14 + 8)), .ref (adtrial (14 + 9)), .ref (adtrial (14 + 10)), .ref (adtrial (14 + 11)), .ref (adtrial (14 + 12)), .int (qI (r 12))])) := by rw [ew33]; exact qWput_get htrial_0 (by omega)
  have htrial_1 : w33 (14 + 1) = some (adtrial (14 + 1), qAI (g.2 0) 96) := by rw [ew33]; exact qWput_get htrial_1 (by omega)
  have htrial_2 : w33 (14 + 2) = some (adtrial (14 + 2), qAI (g.2 0) 96) := by rw [ew33]; exact qWput_get htrial_2 (by omega)
  have htrial_3 : w33 (14 + 3) = some (adtrial (14 + 3), qAI (g.2 0) 96) := by rw [ew33]; exact qWput_get htrial_3 (by omega)
  have htrial_4 : w33 (14 + 4) = some (adtrial (14 + 4), qAI (g.2 0) 96) := by rw [ew33]; exact qWput_get htrial_4 (by omega)
  have htrial_5 : w33 (14 + 5) = some (adtrial (14 + 5), qAI (g.2 0) 96) := by rw [ew33]; exact qWput_get htrial_5 (by omega)
  have htrial_6 : w33 (14 + 6) = some (adtrial (14 + 6), qAI (g.2 0) 96) := by rw [ew33]; exact qWput_get htrial_6 (by omega)
  have htrial_7 : w33 (14 + 7) = some (adtrial (14 + 7), qAI (g.2 0) 4) := by rw [ew33]; exact qWput_get htrial_7 (by omega)
  have htrial_8 : w33 (14 + 8) = some (adtrial (14 + 8), qAI (g.2 0) 4) := by rw [ew33]; exact qWput_get htrial_8 (by omega)
  have htrial_9 : w33 (14 + 9) = some (adtrial (14 + 9), qAI (g.2 0) 4) := by rw [ew33]; exact qWput_get htrial_9 (by omega)
  have htrial_10 : w33 (14 + 10) = some (adtrial (14 + 10), qAI (g.2 0) 4) := by rw [ew33]; exact qWput_get htrial_10 (by omega)
  have htrial_11 : w33 (14 + 11) = some (adtrial (14 + 11), qAI (g.2 0) 4) := by rw [ew33]; exact qWput_get htrial_11 (by omega)
  have htrial_12 : w33 (14 + 12) = some (adtrial (14 + 12), qAI (g.2 0) 4) := by rw [ew33]; exact qWput_get htrial_12 (by omega)
  have hcounts_0 : w33 27 = some (adcounts 27, qOb 0 (fun r => [.ref (adcounts 28), .ref (adcounts 29), .int (qI (r 2)), .long (qJ (r 3))])) := by rw [ew33]; exact qWput_get hcounts_0 (by omega)
  have hcounts_1 : w33 28 = some (adcounts 28, qAR (g.2 2) 4 (fun j => adcounts (30 + j))) := by rw [ew33]; exact qWput_get hcounts_1 (by omega)
  have hcounts_2 : w33 29 = some (adcounts 29, qAR (g.2 2) 4 (fun j => adcounts (34 + j))) := by rw [ew33]; exact qWput_get hcounts_2 (by omega)
  have hcounts_3 : w33 30 = some (adcounts 30, qAI (g.2 0) 96) := by rw [ew33]; exact qWput_get hcounts_3 (by omega)
  have hcounts_4 : w33 31 = some (adcounts 31, qAI (g.2 0) 96) := by rw [ew33]; exact qWput_get hcounts_4 (by omega)
  have hcounts_5 : w33 32 = some (adcounts 32, qAI (g.2 0) 96) := by rw [ew33]; exact qWput_get hcounts_5 (by omega)
  have hcounts_6 : w33 33 = some (adcounts 33, qAI (g.2 0) 96) := by rw [ew33]; exact qWput_get hcounts_6 (by omega)
  have hcounts_7 : w33 34 = some (adcounts 34, qAI (g.2 0) 96) := by rw [ew33]; exact qWput_get hcounts_7 (by omega)
  have hcounts_8 : w33 35 = some (adcounts 35, qAI (g.2 0) 96) := by rw [ew33]; exact qWput_get hcounts_8 (by omega)
  have hcounts_9 : w33 36 = some (adcounts 36, qAI (g.2 0) 96) := by rw [ew33]; exact qWput_get hcounts_9 (by omega)
  have hcounts_10 : w33 37 = some (adcounts 37, qAI (g.2 0) 96) := by rw [ew33]; exact qWput_get hcounts_10 (by omega)
  have hprobes_0 : w33 38 = some (adprobes 38, qOb 1 (fun r => [.ref (adprobes 39), .ref (adprobes 40), .ref (adprobes 41), .int (qI (r 3))])) := by rw [ew33]; exact qWput_get hprobes_0 (by omega)
  have hprobes_1 : w33 39 = some (adprobes 39, qAI (g.2 0) 4) := by rw [ew33]; exact qWput_get hprobes_1 (by omega)
  have hprobes_2 : w33 40 = some (adprobes 40, qAI (g.2 0) 4) := by rw [ew33]; exact qWput_get hprobes_2 (by omega)
  have hprobes_3 : w33 41 = some (adprobes 41, qAR (g.2 3) 4 (fun j => adprobes (42 + j))) := by rw [ew33]; exact qWput_get hprobes_3 (by omega)
  have hprobes_4 : w33 42 = some (adprobes 42, qAI (g.2 1) 5000) := by rw [ew33]; exact qWput_get hprobes_4 (by omega)
  have hprobes_5 : w33 43 = some (adprobes 43, qAI (g.2 1) 5000) := by rw [ew33]; exact qWput_get hprobes_5 (by omega)
  have hprobes_6 : w33 44 = some (adprobes 44, qAI (g.2 1) 5000) := by rw [ew33]; exact qWput_get hprobes_6 (by omega)
  have hprobes_7 : w33 45 = some (adprobes 45, qAI (g.2 1) 5000) := by rw [ew33]; exact qWput_get hprobes_7 (by omega)
  have hCfaults : w33 46 = some (q29, qAI (g.2 0) 4) := by rw [ew33]; exact qWput_get hCfaults (by omega)
  have hT : w33 0 = some (aB, qOb 5 (fun r => [.ref (adwater 1), .ref (adtrial 14), .ref (adcounts 27), .ref (adprobes 38), .ref q29, .int (qI (r 5)), .int (qI (r 6))])) := by rw [ew33]; exact qWput_self _ _ _
  have hrest : ∀ j, 47 ≤ j → w33 j = w j := fun j hj => by rw [ew33]; rw [qWput_ne _ (by omega)] <;> exact hrest j hj
  clear ew33
  obtain ⟨ad, had⟩ : ∃ ad : Nat → Nat, ∀ i, ad i = ([aB, adwater 1, adwater (1 + 1), adwater (1 + 2), adwater (1 + 3), adwater (1 + 4), adwater (1 + 5), adwater (1 + 6), adwater (1 + 7), adwater (1 + 8), adwater (1 + 9), adwater (1 + 10), adwater (1 + 11), adwater (1 + 12), adtrial 14, adtrial (14 + 1), adtrial (14 + 2), adtrial (14 + 3), adtrial (14 + 4), adtrial (14 + 5), adtrial (14 + 6), adtrial (14 + 7), adtrial (14 + 8), adtrial (14 + 9), adtrial (14 + 10), adtrial (14 + 11), adtrial (14 + 12), adcounts 27, adcounts 28, adcounts 29, adcounts 30, adcounts 31, adcounts 32, adcounts 33, adcounts 34, adcounts 35, adcounts 36, adcounts 37, adprobes 38, adprobes 39, adprobes 40, adprobes 41, adprobes 42, adprobes 43, adprobes 44, adprobes 45, q29] : List Nat).getD i 0 := ⟨fun k => ([aB, adwater 1, adwater (1 + 1), adwater (1 + 2), adwater (1 + 3), adwater (1 + 4), adwater (1 + 5), adwater (1 + 6), adwater (1 + 7), adwater (1 + 8), adwater (1 + 9), adwater (1 + 10), adwater (1 + 11), adwater (1 + 12), adtrial 14, adtrial (14 + 1), adtrial (14 + 2), adtrial (14 + 3), adtrial (14 + 4), adtrial (14 + 5), adtrial (14 + 6), adtrial (14 + 7), adtrial (14 + 8), adtrial (14 + 9), adtrial (14 + 10), adtrial (14 + 11), adtrial (14 + 12), adcounts 27, adcounts 28, adcounts 29, adcounts 30, adcounts 31, adcounts 32, adcounts 33, adcounts 34, adcounts 35, adcounts 36, adcounts 37, adprobes 38, adprobes 39, adprobes 40, adprobes 41, adprobes 42, adprobes 43, adprobes 44, adprobes 45, q29] : List Nat).getD k 0, fun i => rfl⟩
  have a0 : ad 0 = aB := had 0
  have a1 : ad 1 = adwater 1 := had 1
  have a2 : ad 2 = adwater (1 + 1) := had 2
  have a3 : ad 3 = adwater (1 + 2) := had 3
  have a4 : ad 4 = adwater (1 + 3) := had 4
  have a5 : ad 5 = adwater (1 + 4) := had 5
  have a6 : ad 6 = adwater (1 + 5) := had 6
  have a7 : ad 7 = adwater (1 + 6) := had 7
  have a8 : ad 8 = adwater (1 + 7) := had 8
  have a9 : ad 9 = adwater (1 + 8) := had 9
  have a10 : ad 10 = adwater (1 + 9) := had 10
  have a11 : ad 11 = adwater (1 + 10) := had 11
  have a12 : ad 12 = adwater (1 + 11) := had 12
  have a13 : ad 13 = adwater (1 + 12) := had 13
  have a14 : ad 14 = adtrial 14 := had 14
  have a15 : ad 15 = adtrial (14 + 1) := had 15
  have a16 : ad 16 = adtrial (14 + 2) := had 16
  have a17 : ad 17 = adtrial (14 + 3) := had 17
  have a18 : ad 18 = adtrial (14 + 4) := had 18
  have a19 : ad 19 = adtrial (14 + 5) := had 19
  have a20 : ad 20 = adtrial (14 + 6) := had 20
  have a21 : ad 21 = adtrial (14 + 7) := had 21
  have a22 : ad 22 = adtrial (14 + 8) := had 22
  have a23 : ad 23 = adtrial (14 + 9) := had 23
  have a24 : ad 24 = adtrial (14 + 10) := had 24
  have a25 : ad 25 = adtrial (14 + 11) := had 25
  have a26 : ad 26 = adtrial (14 + 12) := had 26
  have a27 : ad 27 = adcounts 27 := had 27
  have a28 : ad 28 = adcounts 28 := had 28
  have a29 : ad 29 = adcounts 29 := had 29
  have a30 : ad 30 = adcounts 30 := had 30
  have a31 : ad 31 = adcounts 31 := had 31
  have a32 : ad 32 = adcounts 32 := had 32
  have a33 : ad 33 = adcounts 33 := had 33
  have a34 : ad 34 = adcounts 34 := had 34
  have a35 : ad 35 = adcounts 35 := had 35
  have a36 : ad 36 = adcounts 36 := had 36
  have a37 : ad 37 = adcounts 37 := had 37
  have a38 : ad 38 = adprobes 38 := had 38
  have a39 : ad 39 = adprobes 39 := had 39
  have a40 : ad 40 = adprobes 40 := had 40
  have a41 : ad 41 = adprobes 41 := had 41
  have a42 : ad 42 = adprobes 42 := had 42
  have a43 : ad 43 = adprobes 43 := had 43
  have a44 : ad 44 = adprobes 44 := had 44
  have a45 : ad 45 = adprobes 45 := had 45
  have a46 : ad 46 = q29 := had 46
  refine qS.relay 28 hcounts_1 (f' := qAR (g.2 2) 4 (fun j => ad (30 + j))) (fun H9 => qAR_cong (fun j hj => by match j, hj with | 0, _ => exact a30.symm | 1, _ => exact a31.symm | 2, _ => exact a32.symm | 3, _ => exact a33.symm) H9) ?_
  refine qS.wnm (fun w34 ew34 => ?_)
  have hT : w34 0 = some (aB, qOb 5 (fun r => [.ref (adwater 1), .ref (adtrial 14), .ref (adcounts 27), .ref (adprobes 38), .ref q29, .int (qI (r 5)), .int (qI (r 6))])) := by rw [ew34]; exact qWput_get hT (by decide)
  have hwater_0 : w34 1 = some (adwater 1, qOb 3 (fun r => [.ref (adwater (1 + 1)), .ref (adwater (1 + 2)), .ref (adwater (1 + 3)), .ref (adwater (1 + 4)), .ref (adwater (1 + 5)), .ref (adwater (1 + 6)), .ref (adwater (1 + 7)), .ref (adwater (1 + 8)), .ref (adwater (1 + 9)), .ref (adwater (1 + 10)), .ref (adwater (1 + 11)), .ref (adwater (1 + 12)), .int (qI (r 12))])) := by rw [ew34]; exact qWput_get hwater_0 (by decide)
  have hwater_1 : w34 2 = some (adwater (1 + 1), qAI (g.2 0) 96) := by rw [ew34]; exact qWput_get hwater_1 (by decide)
  have hwater_2 : w34 3 = some (adwater (1 + 2), qAI (g.2 0) 96) := by rw [ew34]; exact qWput_get hwater_2 (by decide)
  have hwater_3 : w34 4 = some (adwater (1 + 3), qAI (g.2 0) 96) := by rw [ew34]; exact qWput_get hwater_3 (by decide)
  have hwater_4 : w34 5 = some (adwater (1 + 4), qAI (g.2 0) 96) := by rw [ew34]; exact qWput_get hwater_4 (by decide)
  have hwater_5 : w34 6 = some (adwater (1 + 5), qAI (g.2 0) 96) := by rw [ew34]; exact qWput_get hwater_5 (by decide)
  have hwater_6 : w34 7 = some (adwater (1 + 6), qAI (g.2 0) 96) := by rw [ew34]; exact qWput_get hwater_6 (by decide)
  have hwater_7 : w34 8 = some (adwater (1 + 7), qAI (g.2 0) 4) := by rw [ew34]; exact qWput_get hwater_7 (by decide)
  have hwater_8 : w34 9 = some (adwater (1 + 8), qAI (g.2 0) 4) := by rw [ew34]; exact qWput_get hwater_8 (by decide)
  have hwater_9 : w34 10 = some (adwater (1 + 9), qAI (g.2 0) 4) := by rw [ew34]; exact qWput_get hwater_9 (by decide)
  have hwater_10 : w34 11 = some (adwater (1 + 10), qAI (g.2 0) 4) := by rw [ew34]; exact qWput_get hwater_10 (by decide)
  have hwater_11 : w34 12 = some (adwater (1 + 11), qAI (g.2 0) 4) := by rw [ew34]; exact qWput_get hwater_11 (by decide)
  have hwater_12 : w34 13 = some (adwater (1 + 12), qAI (g.2 0) 4) := by rw [ew34]; exact qWput_get hwater_12 (by decide)
  have htrial_0 : w34 14 = some (adtrial 14, qOb 3 (fun r => [.ref (adtrial (14 + 1)), .ref (adtrial (14 + 2)), .ref (adtrial (14 + 3)), .ref (adtrial (14 + 4)), .ref (adtrial (14 + 5)), .ref (adtrial (14 + 6)), .ref (adtrial (14 + 7)), .ref (adtrial (14 + 8)), .ref (adtrial (14 + 9)), .ref (adtrial (14 + 10)), .ref (adtrial (14 + 11)), .ref (adtrial (14 + 12)), .int (qI (r 12))])) := by rw [ew34]; exact qWput_get htrial_0 (by decide)
  have htrial_1 : w34 15 = some (adtrial (14 + 1), qAI (g.2 0) 96) := by rw [ew34]; exact qWput_get htrial_1 (by decide)
  have htrial_2 : w34 16 = some (adtrial (14 + 2), qAI (g.2 0) 96) := by rw [ew34]; exact qWput_get htrial_2 (by decide)
  have htrial_3 : w34 17 = some (adtrial (14 + 3), qAI (g.2 0) 96) := by rw [ew34]; exact qWput_get htrial_3 (by decide)
  have htrial_4 : w34 18 = some (adtrial (14 + 4), qAI (g.2 0) 96) := by rw [ew34]; exact qWput_get htrial_4 (by decide)
  have htrial_5 : w34 19 = some (adtrial (14 + 5), qAI (g.2 0) 96) := by rw [ew34]; exact qWput_get htrial_5 (by decide)
  have htrial_6 : w34 20 = some (adtrial (14 + 6), qAI (g.2 0) 96) := by rw [ew34]; exact qWput_get htrial_6 (by decide)
  have htrial_7 : w34 21 = some (adtrial (14 + 7), qAI (g.2 0) 4) := by rw [ew34]; exact qWput_get htrial_7 (by decide)
  have htrial_8 : w34 22 = some (adtrial (14 + 8), qAI (g.2 0) 4) := by rw [ew34]; exact qWput_get htrial_8 (by decide)
  have htrial_9 : w34 23 = some (adtrial (14 + 9), qAI (g.2 0) 4) := by rw [ew34]; exact qWput_get htrial_9 (by decide)
  have htrial_10 : w34 24 = some (adtrial (14 + 10), qAI (g.2 0) 4) := by rw [ew34]; exact qWput_get htrial_10 (by decide)
  have htrial_11 : w34 25 = some (adtrial (14 + 11), qAI (g.2 0) 4) := by rw [ew34]; exact qWput_get htrial_11 (by decide)
  have htrial_12 : w34 26 = some (adtrial (14 + 12), qAI (g.2 0) 4) := by rw [ew34]; exact qWput_get htrial_12 (by decide)
  have hcounts_0 : w34 27 = some (adcounts 27, qOb 0 (fun r => [.ref (adcounts 28), .ref (adcounts 29), .int (qI (r 2)), .long (qJ (r 3))])) := by rw [ew34]; exact qWput_get hcounts_0 (by decide)
  have hcounts_1 : w34 28 = some (adcounts 28, qAR (g.2 2) 4 (fun j => ad (30 + j))) := by rw [ew34]; exact qWput_self _ _ _
  have hcounts_2 : w34 29 = some (adcounts 29, qAR (g.2 2) 4 (fun j => adcounts (34 + j))) := by rw [ew34]; exact qWput_get hcounts_2 (by decide)
  have hcounts_3 : w34 30 = some (adcounts 30, qAI (g.2 0) 96) := by rw [ew34]; exact qWput_get hcounts_3 (by decide)
  have hcounts_4 : w34 31 = some (adcounts 31, qAI (g.2 0) 96) := by rw [ew34]; exact qWput_get hcounts_4 (by decide)
  have hcounts_5 : w34 32 = some (adcounts 32, qAI (g.2 0) 96) := by rw [ew34]; exact qWput_get hcounts_5 (by decide)
  have hcounts_6 : w34 33 = some (adcounts 33, qAI (g.2 0) 96) := by rw [ew34]; exact qWput_get hcounts_6 (by decide)
  have hcounts_7 : w34 34 = some (adcounts 34, qAI (g.2 0) 96) := by rw [ew34]; exact qWput_get hcounts_7 (by decide)
  have hcounts_8 : w34 35 = some (adcounts 35, qAI (g.2 0) 96) := by rw [ew34]; exact qWput_get hcounts_8 (by decide)
  have hcounts_9 : w34 36 = some (adcounts 36, qAI (g.2 0) 96) := by rw [ew34]; exact qWput_get hcounts_9 (by decide)
  have hcounts_10 : w34 37 = some (adcounts 37, qAI (g.2 0) 96) := by rw [ew34]; exact qWput_get hcounts_10 (by decide)
  have hprobes_0 : w34 38 = some (adprobes 38, qOb 1 (fun r => [.ref (adprobes 39), .ref (adprobes 40), .ref (adprobes 41), .int (qI (r 3))])) := by rw [ew34]; exact qWput_get hprobes_0 (by decide)
  have hprobes_1 : w34 39 = some (adprobes 39, qAI (g.2 0) 4) := by rw [ew34]; exact qWput_get hprobes_1 (by decide)
  have hprobes_2 : w34 40 = some (adprobes 40, qAI (g.2 0) 4) := by rw [ew34]; exact qWput_get hprobes_2 (by decide)
  have hprobes_3 : w34 41 = some (adprobes 41, qAR (g.2 3) 4 (fun j => adprobes (42 + j))) := by rw [ew34]; exact qWput_get hprobes_3 (by decide)
  have hprobes_4 : w34 42 = some (adprobes 42, qAI (g.2 1) 5000) := by rw [ew34]; exact qWput_get hprobes_4 (by decide)
  have hprobes_5 : w34 43 = some (adprobes 43, qAI (g.2 1) 5000) := by rw [ew34]; exact qWput_get hprobes_5 (by decide)
  have hprobes_6 : w34 44 = some (adprobes 44, qAI (g.2 1) 5000) := by rw [ew34]; exact qWput_get hprobes_6 (by decide)
  have hprobes_7 : w34 45 = some (adprobes 45, qAI (g.2 1) 5000) := by rw [ew34]; exact qWput_get hprobes_7 (by decide)
  have hCfaults : w34 46 = some (q29, qAI (g.2 0) 4) := by rw [ew34]; exact qWput_get hCfaults (by decide)
  have hrest : ∀ j, 47 ≤ j → w34 j = w j := fun j hj => by rw [ew34, qWput_ne _ (by omega)]; exact hrest j hj
  refine qS.relay 29 hcounts_2 (f' := qAR (g.2 2) 4 (fun j => ad (34 + j))) (fun H9 => qAR_cong (fun j hj => by match j, hj with | 0, _ => exact a34.symm | 1, _ => exact a35.symm | 2, _ => exact a36.symm | 3, _ => exact a37.symm) H9) ?_
  refine qS.wnm (fun w35 ew35 => ?_)
  have hT : w35 0 = some (aB, qOb 5 (fun r => [.ref (adwater 1), .ref (adtrial 14), .ref (adcounts 27), .ref (adprobes 38), .ref q29, .int (qI (r 5)), .int (qI (r 6))])) := by rw [ew35]; exact qWput_get hT (by decide)
  have hwater_0 : w35 1 = some (adwater 1, qOb 3 (fun r => [.ref (adwater (1 + 1)), .ref (adwater (1 + 2)), .ref (adwater (1 + 3)), .ref (adwater (1 + 4)), .ref (adwater (1 + 5)), .ref (adwater (1 + 6)), .ref (adwater (1 + 7)), .ref (adwater (1 + 8)), .ref (adwater (1 + 9)), .ref (adwater (1 + 10)), .ref (adwater (1 + 11)), .ref (adwater (1 + 12)), .int (qI (r 12))])) := by rw [ew35]; exact qWput_get hwater_0 (by decide)
  have hwater_1 : w35 2 = some (adwater (1 + 1), qAI (g.2 0) 96) := by rw [ew35]; exact qWput_get hwater_1 (by decide)
  have hwater_2 : w35 3 = some (adwater (1 + 2), qAI (g.2 0) 96) := by rw [ew35]; exact qWput_get hwater_2 (by decide)
  have hwater_3 : w35 4 = some (adwater (1 + 3), qAI (g.2 0) 96) := by rw [ew35]; exact qWput_get hwater_3 (by decide)
  have hwater_4 : w35 5 = some (adwater (1 + 4), qAI (g.2 0) 96) := by rw [ew35]; exact qWput_get hwater_4 (by decide)
  have hwater_5 : w35 6 = some (adwater (1 + 5), qAI (g.2 0) 96) := by rw [ew35]; exact qWput_get hwater_5 (by decide)
  have hwater_6 : w35 7 = some (adwater (1 + 6), qAI (g.2 0) 96) := by rw [ew35]; exact qWput_get hwater_6 (by decide)
  have hwater_7 : w35 8 = some (adwater (1 + 7), qAI (g.2 0) 4) := by rw [ew35]; exact qWput_get hwater_7 (by decide)
  have hwater_8 : w35 9 = some (adwater (1 + 8), qAI (g.2 0) 4) := by rw [ew35]; exact qWput_get hwater_8 (by decide)
  have hwater_9 : w35 10 = some (adwater (1 + 9), qAI (g.2 0) 4) := by rw [ew35]; exact qWput_get hwater_9 (by decide)
  have hwater_10 : w35 11 = some (adwater (1 + 10), qAI (g.2 0) 4) := by rw [ew35]; exact qWput_get hwater_10 (by decide)
  have hwater_11 : w35 12 = some (adwater (1 + 11), qAI (g.2 0) 4) := by rw [ew35]; exact qWput_get hwater_11 (by decide)
  have hwater_12 : w35 13 = some (adwater (1 + 12), qAI (g.2 0) 4) := by rw [ew35]; exact qWput_get hwater_12 (by decide)
  have htrial_0 : w35 14 = some (adtrial 14, qOb 3 (fun r => [.ref (adtrial (14 + 1)), .ref (adtrial (14 + 2)), .ref (adtrial (14 + 3)), .ref (adtrial (14 + 4)), .ref (adtrial (14 + 5)), .ref (adtrial (14 + 6)), .ref (adtrial (14 + 7)), .ref (adtrial (14 + 8)), .ref (adtrial (14 + 9)), .ref (adtrial (14 + 10)), .ref (adtrial (14 + 11)), .ref (adtrial (14 + 12)), .int (qI (r 12))])) := by rw [ew35]; exact qWput_get htrial_0 (by decide)
  have htrial_1 : w35 15 = some (adtrial (14 + 1), qAI (g.2 0) 96) := by rw [ew35]; exact qWput_get htrial_1 (by decide)
  have htrial_2 : w35 16 = some (adtrial (14 + 2), qAI (g.2 0) 96) := by rw [ew35]; exact qWput_get htrial_2 (by decide)
  have htrial_3 : w35 17 = some (adtrial (14 + 3), qAI (g.2 0) 96) := by rw [ew35]; exact qWput_get htrial_3 (by decide)
  have htrial_4 : w35 18 = some (adtrial (14 + 4), qAI (g.2 0) 96) := by rw [ew35]; exact qWput_get htrial_4 (by decide)
  have htrial_5 : w35 19 = some (adtrial (14 + 5), qAI (g.2 0) 96) := by rw [ew35]; exact qWput_get htrial_5 (by decide)
  have htrial_6 : w35 20 = some (adtrial (14 + 6), qAI (g.2 0) 96) := by rw [ew35]; exact qWput_get htrial_6 (by decide)
  have htrial_7 : w35 21 = some (adtrial (14 + 7), qAI (g.2 0) 4) := by rw [ew35]; exact qWput_get htrial_7 (by decide)
  have htrial_8 : w35 22 = some (adtrial (14 + 8), qAI (g.2 0) 4) := by rw [ew35]; exact qWput_get htrial_8 (by decide)
  have htrial_9 : w35 23 = some (adtrial (14 + 9), qAI (g.2 0) 4) := by rw [ew35]; exact qWput_get htrial_9 (by decide)
  have htrial_10 : w35 24 = some (adtrial (14 + 10), qAI (g.2 0) 4) := by rw [ew35]; exact qWput_get htrial_10 (by decide)
  have htrial_11 : w35 25 = some (adtrial (14 + 11), qAI (g.2 0) 4) := by rw [ew35]; exact qWput_get htrial_11 (by decide)
  have htrial_12 : w35 26 = some (adtrial (14 + 12), qAI (g.2 0) 4) := by rw [ew35]; exact qWput_get htrial_12 (by decide)
  have hcounts_0 : w35 27 = some (adcounts 27, qOb 0 (fun r => [.ref (adcounts 28), .ref (adcounts 29), .int (qI (r 2)), .long (qJ (r 3))])) := by rw [ew35]; exact qWput_get hcounts_0 (by decide)
  have hcounts_1 : w35 28 = some (adcounts 28, qAR (g.2 2) 4 (fun j => ad (30 + j))) := by rw [ew35]; exact qWput_get hcounts_1 (by decide)
  have hcounts_2 : w35 29 = some (adcounts 29, qAR (g.2 2) 4 (fun j => ad (34 + j))) := by rw [ew35]; exact qWput_self _ _ _
  have hcounts_3 : w35 30 = some (adcounts 30, qAI (g.2 0) 96) := by rw [ew35]; exact qWput_get hcounts_3 (by decide)
  have hcounts_4 : w35 31 = some (adcounts 31, qAI (g.2 0) 96) := by rw [ew35]; exact qWput_get hcounts_4 (by decide)
  have hcounts_5 : w35 32 = some (adcounts 32, qAI (g.2 0) 96) := by rw [ew35]; exact qWput_get hcounts_5 (by decide)
  have hcounts_6 : w35 33 = some (adcounts 33, qAI (g.2 0) 96) := by rw [ew35]; exact qWput_get hcounts_6 (by decide)
  have hcounts_7 : w35 34 = some (adcounts 34, qAI (g.2 0) 96) := by rw [ew35]; exact qWput_get hcounts_7 (by decide)
  have hcounts_8 : w35 35 = some (adcounts 35, qAI (g.2 0) 96) := by rw [ew35]; exact qWput_get hcounts_8 (by decide)
  have hcounts_9 : w35 36 = some (adcounts 36, qAI (g.2 0) 96) := by rw [ew35]; exact qWput_get hcounts_9 (by decide)
  have hcounts_10 : w35 37 = some (adcounts 37, qAI (g.2 0) 96) := by rw [ew35]; exact qWput_get hcounts_10 (by decide)
  have hprobes_0 : w35 38 = some (adprobes 38, qOb 1 (fun r => [.ref (adprobes 39), .ref (adprobes 40), .ref (adprobes 41), .int (qI (r 3))])) := by rw [ew35]; exact qWput_get hprobes_0 (by decide)
  have hprobes_1 : w35 39 = some (adprobes 39, qAI (g.2 0) 4) := by rw [ew35]; exact qWput_get hprobes_1 (by decide)
  have hprobes_2 : w35 40 = some (adprobes 40, qAI (g.2 0) 4) := by rw [ew35]; exact qWput_get hprobes_2 (by decide)
  have hprobes_3 : w35 41 = some (adprobes 41, qAR (g.2 3) 4 (fun j => adprobes (42 + j))) := by rw [ew35]; exact qWput_get hprobes_3 (by decide)
  have hprobes_4 : w35 42 = some (adprobes 42, qAI (g.2 1) 5000) := by rw [ew35]; exact qWput_get hprobes_4 (by decide)
  have hprobes_5 : w35 43 = some (adprobes 43, qAI (g.2 1) 5000) := by rw [ew35]; exact qWput_get hprobes_5 (by decide)
  have hprobes_6 : w35 44 = some (adprobes 44, qAI (g.2 1) 5000) := by rw [ew35]; exact qWput_get hprobes_6 (by decide)
  have hprobes_7 : w35 45 = some (adprobes 45, qAI (g.2 1) 5000) := by rw [ew35]; exact qWput_get hprobes_7 (by decide)
  have hCfaults : w35 46 = some (q29, qAI (g.2 0) 4) := by rw [ew35]; exact qWput_get hCfaults (by decide)
  have hrest : ∀ j, 47 ≤ j → w35 j = w j := fun j hj => by rw [ew35, qWput_ne _ (by omega)]; exact hrest j hj
  refine qS.relay 41 hprobes_3 (f' := qAR (g.2 3) 4 (fun j => ad (42 + j))) (fun H9 => qAR_cong (fun j hj => by match j, hj with | 0, _ => exact a42.symm | 1, _ => exact a43.symm | 2, _ => exact a44.symm | 3, _ => exact a45.symm) H9) ?_
  refine qS.wnm (fun w36 ew36 => ?_)
  have hT : w36 0 = some (aB, qOb 5 (fun r => [.ref (adwater 1), .ref (adtrial 14), .ref (adcounts 27), .ref (adprobes 38), .ref q29, .int (qI (r 5)), .int (qI (r 6))])) := by rw [ew36]; exact qWput_get hT (by decide)
  have hwater_0 : w36 1 = some (adwater 1, qOb 3 (fun r => [.ref (adwater (1 + 1)), .ref (adwater (1 + 2)), .ref (adwater (1 + 3)), .ref (adwater (1 + 4)), .ref (adwater (1 + 5)), .ref (adwater (1 + 6)), .ref (adwater (1 + 7)), .ref (adwater (1 + 8)), .ref (adwater (1 + 9)), .ref (adwater (1 + 10)), .ref (adwater (1 + 11)), .ref (adwater (1 + 12)), .int (qI (r 12))])) := by rw [ew36]; exact qWput_get hwater_0 (by decide)
  have hwater_1 : w36 2 = some (adwater (1 + 1), qAI (g.2 0) 96) := by rw [ew36]; exact qWput_get hwater_1 (by decide)
  have hwater_2 : w36 3 = some (adwater (1 + 2), qAI (g.2 0) 96) := by rw [ew36]; exact qWput_get hwater_2 (by decide)
  have hwater_3 : w36 4 = some (adwater (1 + 3), qAI (g.2 0) 96) := by rw [ew36]; exact qWput_get hwater_3 (by decide)
  have hwater_4 : w36 5 = some (adwater (1 + 4), qAI (g.2 0) 96) := by rw [ew36]; exact qWput_get hwater_4 (by decide)
  have hwater_5 : w36 6 = some (adwater (1 + 5), qAI (g.2 0) 96) := by rw [ew36]; exact qWput_get hwater_5 (by decide)
  have hwater_6 : w36 7 = some (adwater (1 + 6), qAI (g.2 0) 96) := by rw [ew36]; exact qWput_get hwater_6 (by decide)
  have hwater_7 : w36 8 = some (adwater (1 + 7), qAI (g.2 0) 4) := by rw [ew36]; exact qWput_get hwater_7 (by decide)
  have hwater_8 : w36 9 = some (adwater (1 + 8), qAI (g.2 0) 4) := by rw [ew36]; exact qWput_get hwater_8 (by decide)
  have hwater_9 : w36 10 = some (adwater (1 + 9), qAI (g.2 0) 4) := by rw [ew36]; exact qWput_get hwater_9 (by decide)
  have hwater_10 : w36 11 = some (adwater (1 + 10), qAI (g.2 0) 4) := by rw [ew36]; exact qWput_get hwater_10 (by decide)
  have hwater_11 : w36 12 = some (adwater (1 + 11), qAI (g.2 0) 4) := by rw [ew36]; exact qWput_get hwater_11 (by decide)
  have hwater_12 : w36 13 = some (adwater (1 + 12), qAI (g.2 0) 4) := by rw [ew36]; exact qWput_get hwater_12 (by decide)
  have htrial_0 : w36 14 = some (adtrial 14, qOb 3 (fun r => [.ref (adtrial (14 + 1)), .ref (adtrial (14 + 2)), .ref (adtrial (14 + 3)), .ref (adtrial (14 + 4)), .ref (adtrial (14 + 5)), .ref (adtrial (14 + 6)), .ref (adtrial (14 + 7)), .ref (adtrial (14 + 8)), .ref (adtrial (14 + 9)), .ref (adtrial (14 + 10)), .ref (adtrial (14 + 11)), .ref (adtrial (14 + 12)), .int (qI (r 12))])) := by rw [ew36]; exact qWput_get htrial_0 (by decide)
  have htrial_1 : w36 15 = some (adtrial (14 + 1), qAI (g.2 0) 96) := by rw [ew36]; exact qWput_get htrial_1 (by decide)
  have htrial_2 : w36 16 = some (adtrial (14 + 2), qAI (g.2 0) 96) := by rw [ew36]; exact qWput_get htrial_2 (by decide)
  have htrial_3 : w36 17 = some (adtrial (14 + 3), qAI (g.2 0) 96) := by rw [ew36]; exact qWput_get htrial_3 (by decide)
  have htrial_4 : w36 18 = some (adtrial (14 + 4), qAI (g.2 0) 96) := by rw [ew36]; exact qWput_get htrial_4 (by decide)
  have htrial_5 : w36 19 = some (adtrial (14 + 5), qAI (g.2 0) 96) := by rw [ew36]; exact qWput_get htrial_5 (by decide)
  have htrial_6 : w36 20 = some (adtrial (14 + 6), qAI (g.2 0) 96) := by rw [ew36]; exact qWput_get htrial_6 (by decide)
  have htrial_7 : w36 21 = some (adtrial (14 + 7), qAI (g.2 0) 4) := by rw [ew36]; exact qWput_get htrial_7 (by decide)
  have htrial_8 : w36 22 = some (adtrial (14 + 8), qAI (g.2 0) 4) := by rw [ew36]; exact qWput_get htrial_8 (by decide)
  have htrial_9 : w36 23 = some (adtrial (14 + 9), qAI (g.2 0) 4) := by rw [ew36]; exact qWput_get htrial_9 (by decide)
  have htrial_10 : w36 24 = some (adtrial (14 + 10), qAI (g.2 0) 4) := by rw [ew36]; exact qWput_get htrial_10 (by decide)
  have htrial_11 : w36 25 = some (adtrial (14 + 11), qAI (g.2 0) 4) := by rw [ew36]; exact qWput_get htrial_11 (by decide)
  have htrial_12 : w36 26 = some (adtrial (14 + 12), qAI (g.2 0) 4) := by rw [ew36]; exact qWput_get htrial_12 (by decide)
  have hcounts_0 : w36 27 = some (adcounts 27, qOb 0 (fun r => [.ref (adcounts 28), .ref (adcounts 29), .int (qI (r 2)), .long (qJ (r 3))])) := by rw [ew36]; exact qWput_get hcounts_0 (by decide)
  have hcounts_1 : w36 28 = some (adcounts 28, qAR (g.2 2) 4 (fun j => ad (30 + j))) := by rw [ew36]; exact qWput_get hcounts_1 (by decide)
  have hcounts_2 : w36 29 = some (adcounts 29, qAR (g.2 2) 4 (fun j => ad (34 + j))) := by rw [ew36]; exact qWput_get hcounts_2 (by decide)
  have hcounts_3 : w36 30 = some (adcounts 30, qAI (g.2 0) 96) := by rw [ew36]; exact qWput_get hcounts_3 (by decide)
  have hcounts_4 : w36 31 = some (adcounts 31, qAI (g.2 0) 96) := by rw [ew36]; exact qWput_get hcounts_4 (by decide)
  have hcounts_5 : w36 32 = some (adcounts 32, qAI (g.2 0) 96) := by rw [ew36]; exact qWput_get hcounts_5 (by decide)
  have hcounts_6 : w36 33 = some (adcounts 33, qAI (g.2 0) 96) := by rw [ew36]; exact qWput_get hcounts_6 (by decide)
  have hcounts_7 : w36 34 = some (adcounts 34, qAI (g.2 0) 96) := by rw [ew36]; exact qWput_get hcounts_7 (by decide)
  have hcounts_8 : w36 35 = some (adcounts 35, qAI (g.2 0) 96) := by rw [ew36]; exact qWput_get hcounts_8 (by decide)
  have hcounts_9 : w36 36 = some (adcounts 36, qAI (g.2 0) 96) := by rw [ew36]; exact qWput_get hcounts_9 (by decide)
  have hcounts_10 : w36 37 = some (adcounts 37, qAI (g.2 0) 96) := by rw [ew36]; exact qWput_get hcounts_10 (by decide)
  have hprobes_0 : w36 38 = some (adprobes 38, qOb 1 (fun r => [.ref (adprobes 39), .ref (adprobes 40), .ref (adprobes 41), .int (qI (r 3))])) := by rw [ew36]; exact qWput_get hprobes_0 (by decide)
  have hprobes_1 : w36 39 = some (adprobes 39, qAI (g.2 0) 4) := by rw [ew36]; exact qWput_get hprobes_1 (by decide)
  have hprobes_2 : w36 40 = some (adprobes 40, qAI (g.2 0) 4) := by rw [ew36]; exact qWput_get hprobes_2 (by decide)
  have hprobes_3 : w36 41 = some (adprobes 41, qAR (g.2 3) 4 (fun j => ad (42 + j))) := by rw [ew36]; exact qWput_self _ _ _
  have hprobes_4 : w36 42 = some (adprobes 42, qAI (g.2 1) 5000) := by rw [ew36]; exact qWput_get hprobes_4 (by decide)
  have hprobes_5 : w36 43 = some (adprobes 43, qAI (g.2 1) 5000) := by rw [ew36]; exact qWput_get hprobes_5 (by decide)
  have hprobes_6 : w36 44 = some (adprobes 44, qAI (g.2 1) 5000) := by rw [ew36]; exact qWput_get hprobes_6 (by decide)
  have hprobes_7 : w36 45 = some (adprobes 45, qAI (g.2 1) 5000) := by rw [ew36]; exact qWput_get hprobes_7 (by decide)
  have hCfaults : w36 46 = some (q29, qAI (g.2 0) 4) := by rw [ew36]; exact qWput_get hCfaults (by decide)
  have hrest : ∀ j, 47 ≤ j → w36 j = w j := fun j hj => by rw [ew36, qWput_ne _ (by omega)]; exact hrest j hj
  have hC : qBC g ad w36 := fun k hk => by match k, hk with | 0, _ => show w36 0 = some (ad 0, qOb 5 (fun r => [.ref (ad 1), .ref (ad 14), .ref (ad 27), .ref (ad 38), .ref (ad 46), .int (qI (r 5)), .int (qI (r 6))])); rw [a0]; simp only [a1, a14, a27, a38, a46]; exact hT | 1, _ => show w36 1 = some (ad 1, qOb 3 (fun r => [.ref (ad (1 + 1)), .ref (ad (1 + 2)), .ref (ad (1 + 3)), .ref (ad (1 + 4)), .ref (ad (1 + 5)), .ref (ad (1 + 6)), .ref (ad (1 + 7)), .ref (ad (1 + 8)), .ref (ad (1 + 9)), .ref (ad (1 + 10)), .ref (ad (1 + 11)), .ref (ad (1 + 12)), .int (qI (r 12))])); rw [a1]; simp only [a2, a3, a4, a5, a6, a7, a8, a9, a10, a11, a12, a13]; exact hwater_0 | 2, _ => exact (hwater_1).trans (congrArg (fun z => some (z, _)) a2.symm) | 3, _ => exact (hwater_2).trans (congrArg (fun z => some (z, _)) a3.symm) | 4, _ => exact (hwater_3).trans (congrArg (fun z => some (z, _)) a4.symm) | 5, _ => exact (hwater_4).trans (congrArg (fun z => some (z, _)) a5.symm) | 6, _ => exact (hwater_5).trans (congrArg (fun z => some (z, _)) a6.symm) | 7, _ => exact (hwater_6).trans (congrArg (fun z => some (z, _)) a7.symm) | 8, _ => exact (hwater_7).trans (congrArg (fun z => some (z, _)) a8.symm) | 9, _ => exact (hwater_8).trans (congrArg (fun z => some (z, _)) a9.symm) | 10, _ => exact (hwater_9).trans (congrArg (fun z => some (z, _)) a10.symm) | 11, _ => exact (hwater_10).trans (congrArg (fun z => some (z, _)) a11.symm) | 12, _ => exact (hwater_11).trans (congrArg (fun z => some (z, _)) a12.symm) | 13, _ => exact (hwater_12).trans (congrArg (fun z => some (z, _)) a13.symm) | 14, _ => show w36 14 = some (ad 14, qOb 3 (fun r => [.ref (ad (14 + 1)), .ref (ad (14 + 2)), .ref (ad (14 + 3)), .ref (ad (14 + 4)), .ref (ad (14 + 5)), .ref (ad (14 + 6)), .ref (ad (14 + 7)), .ref (ad (14 + 8)), .ref (ad (14 + 9)), .ref (ad (14 + 10)), .ref (ad (14 + 11)), .ref (ad (14 + 12)), .int (qI (r 12))])); rw [a14]; simp only [a15, a16, a17, a18, a19, a20, a21, a22, a23, a24, a25, a26]; exact htrial_0 | 15, _ => exact (htrial_1).trans (congrArg (fun z => some (z, _)) a15.symm) | 16, _ => exact (htrial_2).trans (congrArg (fun z => some (z, _)) a16.symm) | 17, _ => exact (htrial_3).trans (congrArg (fun z => some (z, _)) a17.symm) | 18, _ => exact (htrial_4).trans (congrArg (fun z => some (z, _)) a18.symm) | 19, _ => exact (htrial_5).trans (congrArg (fun z => some (z, _)) a19.symm) | 20, _ => exact (htrial_6).trans (congrArg (fun z => some (z, _)) a20.symm) | 21, _ => exact (htrial_7).trans (congrArg (fun z => some (z, _)) a21.symm) | 22, _ => exact (htrial_8).trans (congrArg (fun z => some (z, _)) a22.symm) | 23, _ => exact (htrial_9).trans (congrArg (fun z => some (z, _)) a23.symm) | 24, _ => exact (htrial_10).trans (congrArg (fun z => some (z, _)) a24.symm) | 25, _ => exact (htrial_11).trans (congrArg (fun z => some (z, _)) a25.symm) | 26, _ => exact (htrial_12).trans (congrArg (fun z => some (z, _)) a26.symm) | 27, _ => show w36 27 = some (ad 27, qOb 0 (fun r => [.ref (ad 28), .ref (ad 29), .int (qI (r 2)), .long (qJ (r 3))])); rw [a27]; simp only [a28, a29]; exact hcounts_0 | 28, _ => exact (hcounts_1).trans (congrArg (fun z => some (z, _)) a28.symm) | 29, _ => exact (hcounts_2).trans (congrArg (fun z => some (z, _)) a29.symm) | 30, _ => exact (hcounts_3).trans (congrArg (fun z => some (z, _)) a30.symm) | 31, _ => exact (hcounts_4).trans (congrArg (fun z => some (z, _)) a31.symm) | 32, _ => exact (hcounts_5).trans (congrArg (fun z => some (z, _)) a32.symm) | 33, _ => exact (hcounts_6).trans (congrArg (fun z => some (z, _)) a33.symm) | 34, _ => exact (hcounts_7).trans (congrArg (fun z => some (z, _)) a34.symm) | 35, _ => exact (hcounts_8).trans (congrArg (fun z => some (z, _)) a35.symm) | 36, _ => exact (hcounts_9).trans (congrArg (fun z => some (z, _)) a36.symm) | 37, _ => exact (hcounts_10).trans (congrArg (fun z => some (z, _)) a37.symm) | 38, _ => show w36 38 = some (ad 38, qOb 1 (fun r => [.ref (ad 39), .ref (ad 40), .ref (ad 41), .int (qI (r 3))])); rw [a38]; simp only [a39, a40, a41]; exact hprobes_0 | 39, _ => exact (hprobes_1).trans (congrArg (fun z => some (z, _)) a39.symm) | 40, _ => exact (hprobes_2).trans (congrArg (fun z => some (z, _)) a40.symm) | 41, _ => exact (hprobes_3).trans (congrArg (fun z => some (z, _)) a41.symm) | 42, _ => exact (hprobes_4).trans (congrArg (fun z => some (z, _)) a42.symm) | 43, _ => exact (hprobes_5).trans (congrArg (fun z => some (z, _)) a43.symm) | 44, _ => exact (hprobes_6).trans (congrArg (fun z => some (z, _)) a44.symm) | 45, _ => exact (hprobes_7).trans (congrArg (fun z => some (z, _)) a45.symm) | 46, _ => exact (hCfaults).trans (congrArg (fun z => some (z, _)) a46.symm) | k + 47, hk => exact absurd hk (by omega)
  have hP : qPE g w aB w36 := ⟨ad, a0, hC, hrest⟩
  exact r_nreturn (mc := 46) (ms := 22026) hP (Nat.le_of_ble_eq_true rfl) (Nat.le_of_ble_eq_true rfl) cx dX5_init_55 rfl
