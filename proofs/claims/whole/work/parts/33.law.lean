/-- the script, at the law's start -/
def qScr (b L : Nat) (xs : Nat → Int32) (z0 : Nat) (s : State) : Prop := va_X b L xs s s.heap ∧ b < s.heap.size ∧ b < z0 ∧ L ≤ 3584
def qXs (xs : Nat → Int32) (i : Int) : Int := (xs i.toNat).toInt
theorem r_sld {Y : Type} {p : Program} {l : Launch} {e : Env} {R : Room} {s : State} {m : MethodId} {args : Array Value} {below : List Frame} {meth : Method} {c : Code} {cc : ByteArray} {nL : Nat} {own : String} {ret : Option FieldType} {g : qG} {z0 : Nat} {w : qWd} {k n : Nat} {Q : Y → State → Prop} {F : Option Y} {σ : qSt} {pc : Nat} {lo : qLo} {rest : List Value} {b L : Nat} {xs : Nat → Int32} {i : Int} (cx : qCx p s m meth c cc nL own ret g z0) (hX : qScr b L xs z0 s) (hd : decode cc pc = .ok (.iaload, 1)) (kk : qS p l e R s m args below meth c nL g z0 w k n Q F σ (pc + 1) lo (.int (qI (qXs xs i)) :: rest)) : qS p l e R s m args below meth c nL g z0 w k n Q (if 0 ≤ i ∧ i < (L : Int) then F else none) σ pc lo (.int (qI i) :: .ref b :: rest) := by
  intro y hy H locs ls hH hS hV
  obtain ⟨h, hy⟩ := if_get hy
  obtain ⟨h1, h2, h3, h4⟩ := hX
  obtain ⟨e1, e2, e3, e4⟩ := qix h rfl (by omega)
  have hk := kk y hy H locs ls hH hS hV
  have e5 : qI (qXs xs i) = xs i.toNat := by
    unfold qXs
    exact qI_toInt _
  rw [e5, ← e1] at hk
  exact va_sld cx.1 cx.2.1 h1 h2 (Nat.not_le.mpr h3) hS e2 hd hk
theorem r_slen {Y : Type} {p : Program} {l : Launch} {e : Env} {R : Room} {s : State} {m : MethodId} {args : Array Value} {below : List Frame} {meth : Method} {c : Code} {cc : ByteArray} {nL : Nat} {own : String} {ret : Option FieldType} {g : qG} {z0 : Nat} {w : qWd} {k n : Nat} {Q : Y → State → Prop} {F : Option Y} {σ : qSt} {pc : Nat} {lo : qLo} {rest : List Value} {b L : Nat} {xs : Nat → Int32} (cx : qCx p s m meth c cc nL own ret g z0) (hX : qScr b L xs z0 s) (hd : decode cc pc = .ok (.arraylength, 1)) (kk : qS p l e R s m args below meth c nL g z0 w k n Q F σ (pc + 1) lo (.int (qI (L : Int)) :: rest)) : qS p l e R s m args below meth c nL g z0 w k n Q F σ pc lo (.ref b :: rest) := by
  intro y hy H locs ls hH hS hV
  obtain ⟨h1, h2, h3, h4⟩ := hX
  refine va_slen cx.1 cx.2.1 h1 h2 (Nat.not_le.mpr h3) hS hd ?_
  have hk := kk y hy H locs ls hH hS hV
  rw [show Int32.ofNat L = qI (L : Int) from (Int32.ofInt_eq_ofNat (n := L)).symm]
  exact hk
theorem r_pVf {Y : Type} {p : Program} {l : Launch} {e : Env} {R : Room} {s : State} {m : MethodId} {args : Array Value} {below : List Frame} {meth : Method} {c : Code} {cc : ByteArray} {nL : Nat} {own : String} {ret : Option FieldType} {g : qG} {z0 : Nat} {w : qWd} {k n : Nat} {Q : Y → State → Prop} {σ : qSt} {pc : Nat} {lo : qLo} {st rest : List Value} {ix np nL' : Nat} {y : MethodName} {cc' : ByteArray} {ret' : Option FieldType} {rm : Room} {As : List Value} {C : String} {T : u_T} {N ci k0 b : Nat} {fl : (Int → Int) → List Value} {F' : Option Int} {f : Int → Option Y} (cx : qCx p s m meth c cc nL own ret g z0) (hM : qCT l y cc' nL' ret' rm g z0 w (.ref b :: As) σ (qlift F' σ) qrf) (hy : qM y cc' nL' ret' np) (hv : qMv C y) (hcl : qCl[ci]? = some (C, T, N)) (hw : w k0 = some (b, qOb ci fl)) (hlink : Cond.methodLink own ix y ∈ lw_tbl) (hd : decode cc pc = .ok (.invokevirtual ix, 3)) (hst : st = As.reverse ++ .ref b :: rest) (hn : As.length = np) (hrest : (rest.map fun v => v.category).sum ≤ 8) (hR : rm.frames + 1 ≤ R.frames ∧ 8 + (nL' + 11) + rm.locals ≤ R.locals) (hz : rm.cells = 0 ∧ rm.slots = 0) (hf : k ≤ R.cells ∧ n ≤ R.slots) (kk : ∀ r, qS p l e R s m args below meth c nL g z0 w k n Q (f r) σ (pc + 3) lo (.float (UInt32.ofNat r.toNat) :: rest)) : qS p l e R s m args below meth c nL g z0 w k n Q (F'.bind f) σ pc lo st := by
  rw [qlift_bind (σ := σ)]
  exact r_callV cx hM hy hv hcl hw hlink hd hst hn hrest hR (by rw [hz.1, hz.2]; exact hf) (fun r σ1 h => by rw [(qlift_some h).2, hz.1, hz.2]; exact kk r)
theorem r_dVf {Y : Type} {p : Program} {l : Launch} {e : Env} {R : Room} {s : State} {m : MethodId} {args : Array Value} {below : List Frame} {meth : Method} {c : Code} {cc : ByteArray} {nL : Nat} {own : String} {ret : Option FieldType} {g : qG} {z0 : Nat} {w : qWd} {k n : Nat} {Q : Y → State → Prop} {σ : qSt} {pc : Nat} {lo : qLo} {st rest : List Value} {ix np nL' : Nat} {y : MethodName} {cc' : ByteArray} {ret' : Option FieldType} {rm : Room} {As : List Value} {C : String} {T : u_T} {N ci k0 b : Nat} {fl : (Int → Int) → List Value} {F' : Option (Int × qSt)} {f : Int → qSt → Option Y} (cx : qCx p s m meth c cc nL own ret g z0) (hM : qCT l y cc' nL' ret' rm g z0 w (.ref b :: As) σ F' qrf) (hy : qM y cc' nL' ret' np) (hv : qMv C y) (hcl : qCl[ci]? = some (C, T, N)) (hw : w k0 = some (b, qOb ci fl)) (hlink : Cond.methodLink own ix y ∈ lw_tbl) (hd : decode cc pc = .ok (.invokevirtual ix, 3)) (hst : st = As.reverse ++ .ref b :: rest) (hn : As.length = np) (hrest : (rest.map fun v => v.category).sum ≤ 8) (hR : rm.frames + 1 ≤ R.frames ∧ 8 + (nL' + 11) + rm.locals ≤ R.locals) (hz : rm.cells = 0 ∧ rm.slots = 0) (hf : k ≤ R.cells ∧ n ≤ R.slots) (kk : ∀ r σ1, qS p l e R s m args below meth c nL g z0 w k n Q (f r σ1) σ1 (pc + 3) lo (.float (UInt32.ofNat r.toNat) :: rest)) : qS p l e R s m args below meth c nL g z0 w k n Q (qbd F' f) σ pc lo st :=
  r_callV (f := fun u => f u.1 u.2) cx hM hy hv hcl hw hlink hd hst hn hrest hR (by rw [hz.1, hz.2]; exact hf) (fun r σ1 _ => by rw [hz.1, hz.2]; exact kk r σ1)
def qif {Y : Type} (c : Prop) [Decidable c] (F : Option Y) : Option Y := if c then F else none
def fL_c0 (L : Nat) (xs : Nat → Int32) (nx : Int → qSt → Option Unit) (i : Int) (σ : qSt) : Option Unit :=
  (qif (0 ≤ (i + 1) ∧ (i + 1) < (L : Int)) <| (qif (0 ≤ (i + 2) ∧ (i + 2) < (L : Int)) <| (qbd (fL_wall (qXs xs (i + 1)) (qXs xs (i + 2)) σ) fun (k2 : Int) (σ1 : qSt) => (qif (0 ≤ (i + 1) ∧ (i + 1) < (L : Int)) <| (qif (0 ≤ (i + 2) ∧ (i + 2) < (L : Int)) <| (qbd (fX6_wall (qXs xs (i + 1)) (qXs xs (i + 2)) σ1) fun (r3 : Int) (σ4 : qSt) => ((fX6_thrown σ4 ).bind fun (r5 : Int) => if qI r5 = qI k2 then nx (i + 7) σ4 else none)))))))
set_option maxRecDepth 100000 in
set_option maxHeartbeats 4000000 in
theorem tL_c0 {p : Program} {l : Launch} {e : Env} {s : State} {m : MethodId} {args : Array Value} {below : List Frame} {meth : Method} {c : Code} {z0 : Nat} {g : qG} {w : qWd} {ad am : Nat → Nat} {ao aod b L kc nc : Nat} {xs : Nat → Int32} {Q : Unit → State → Prop} {nx : Int → qSt → Option Unit} (cx : qCx p s m meth c cL_law 9 RL (some .boolean) g z0) (hX : qScr b L xs z0 s) (hB : qBC g ad w) (hM : qBM g am w) (hO : w 64 = some (ao, qAL (g.2 4) 1)) (hD : w 65 = some (aod, qAD (g.2 5) 1)) (h66 : w 66 = none) (h67 : w 67 = none) (h68 : w 68 = none) (hl : l.stackTraces = false) (hk : kc + 24 ≤ 601024 ∧ nc + 96 ≤ 7293034) (hnx : ∀ i σ, qS p l e room_1 s m args below meth c 9 g z0 w (kc + 24) (nc + 96) Q (nx i σ) σ 28 [(0, some (.ref b)), (1, some (.ref (ad 0))), (2, some (.ref (am 47))), (3, some (.ref ao)), (4, some (.ref aod)), (5, some (.int (qI i)))] []) (i : Int) (σ : qSt) : qS p l e room_1 s m args below meth c 9 g z0 w kc nc Q (fL_c0 L xs nx i σ) σ 156 [(0, some (.ref b)), (1, some (.ref (ad 0))), (2, some (.ref (am 47))), (3, some (.ref ao)), (4, some (.ref aod)), (5, some (.int (qI i)))] [] := by
  unfold fL_c0
  refine r_aload_n (pc := 156) cx dL_law_156 rfl ?_
  refine r_aload_n (pc := 157) cx dL_law_157 rfl ?_
  refine r_iload (pc := 158) cx dL_law_158 rfl ?_
  refine r_iconst (pc := 160) cx dL_law_160 ?_
  refine r_iadd (pc := 161) cx dL_law_161 ?_
  refine r_sld (pc := 162) cx hX dL_law_162 ?_
  refine r_aload_n (pc := 163) cx dL_law_163 rfl ?_
  refine r_iload (pc := 164) cx dL_law_164 rfl ?_
  refine r_iconst (pc := 166) cx dL_law_166 ?_
  refine r_iadd (pc := 167) cx dL_law_167 ?_
  refine r_sld (pc := 168) cx hX dL_law_168 ?_
  refine r_callSW (pc := 169) cx (tL_wall hB hl (qXs xs (i + 1)) (qXs xs (i + 2)) σ) qmh_L_wall wm_L_95 dL_law_169 rfl rfl (Nat.le_of_ble_eq_true rfl) ⟨Nat.le_of_ble_eq_true rfl, Nat.le_of_ble_eq_true rfl⟩ ⟨by show kc + 1 ≤ 601024; omega, by show nc + 6 ≤ 7293034; omega⟩ (fun k2 σ1 _ => ?_)
  refine r_istore (pc := 172) cx dL_law_172 (by decide) rfl ?_
  refine r_aload_n (pc := 174) cx dL_law_174 rfl ?_
  refine r_aload_n (pc := 175) cx dL_law_175 rfl ?_
  refine r_iload (pc := 176) cx dL_law_176 rfl ?_
  refine r_iconst (pc := 178) cx dL_law_178 ?_
  refine r_iadd (pc := 179) cx dL_law_179 ?_
  refine r_sld (pc := 180) cx hX dL_law_180 ?_
  refine r_aload_n (pc := 181) cx dL_law_181 rfl ?_
  refine r_iload (pc := 182) cx dL_law_182 rfl ?_
  refine r_iconst (pc := 184) cx dL_law_184 ?_
  refine r_iadd (pc := 185) cx dL_law_185 ?_
  refine r_sld (pc := 186) cx hX dL_law_186 ?_
  refine r_dVv (pc := 187) cx (tX6_wall hM (qXs xs (i + 1)) (qXs xs (i + 2)) σ1) qm_X6_wall qv_X6_wall hcl_X6 (lw47 hM) wm_L_100 dL_law_187 rfl rfl (Nat.le_of_ble_eq_true rfl) ⟨Nat.le_of_ble_eq_true rfl, Nat.le_of_ble_eq_true rfl⟩ ⟨rfl, rfl⟩ ⟨by show kc + 1 ≤ 601024; omega, by show nc + 6 ≤ 7293034; omega⟩ (fun r3 σ4 => ?_)
  refine r_aload_n (pc := 190) cx dL_law_190 rfl ?_
  refine r_pVi (pc := 191) cx (tX6_thrown hM  σ4) qm_X6_thrown qv_X6_thrown hcl_X6 (lw47 hM) wm_L_101 dL_law_191 rfl rfl (Nat.le_of_ble_eq_true rfl) ⟨Nat.le_of_ble_eq_true rfl, Nat.le_of_ble_eq_true rfl⟩ ⟨rfl, rfl⟩ ⟨by show kc + 1 ≤ 601024; omega, by show nc + 6 ≤ 7293034; omega⟩ (fun r5 => ?_)
  refine r_iload (pc := 194) cx dL_law_194 rfl ?_
  refine r_icmp_eq (pc := 196) (tgt := 201) cx dL_law_196 (by decide) ?_ ?_
  · refine r_goto (pc := 201) (tgt := 1799) cx dL_law_201 (by decide) ?_
    refine r_iinc (pc := 1799) cx dL_law_1799 rfl (by decide) rfl ?_
    refine r_goto (pc := 1802) (tgt := 28) cx dL_law_1802 (by decide) ?_
    refine qS.widen (k2 := kc + 24) (n2 := nc + 96) (by first | exact Nat.le_refl _ | exact Nat.le_add_right _ _ | exact Nat.add_le_add_left (by decide) _) (by first | exact Nat.le_refl _ | exact Nat.le_add_right _ _ | exact Nat.add_le_add_left (by decide) _) ?_
    exact qS.sub (qsub_cons rfl (qsub_cons rfl (qsub_cons rfl (qsub_cons rfl (qsub_cons rfl (qsub_cons rfl (qsub_nil _))))))) (hnx _ _)
  · exact qS.fail
def fL_c1 (L : Nat) (xs : Nat → Int32) (nx : Int → qSt → Option Unit) (i : Int) (σ : qSt) : Option Unit :=
  (qif (0 ≤ (i + 1) ∧ (i + 1) < (L : Int)) <| (qbd (fL_clear (qXs xs (i + 1)) σ) fun (k2 : Int) (σ1 : qSt) => (qif (0 ≤ (i + 1) ∧ (i + 1) < (L : Int)) <| (qbd (fX6_clear (qXs xs (i + 1)) σ1) fun (r3 : Int) (σ4 : qSt) => ((fX6_thrown σ4 ).bind fun (r5 : Int) => if qI r5 = qI k2 then if qI k2 = 0 then (qif (0 ≤ (0 : Int) ∧ (0 : Int) < 1) <| if qI (qlcmp (σ4 64 0) (qi2l r3)) = 0 then nx (i + 7) σ4 else none) else nx (i + 7) σ4 else none)))))
set_option maxRecDepth 100000 in
set_option maxHeartbeats 4000000 in
theorem tL_c1 {p : Program} {l : Launch} {e : Env} {s : State} {m : MethodId} {args : Array Value} {below : List Frame} {meth : Method} {c : Code} {z0 : Nat} {g : qG} {w : qWd} {ad am : Nat → Nat} {ao aod b L kc nc : Nat} {xs : Nat → Int32} {Q : Unit → State → Prop} {nx : Int → qSt → Option Unit} (cx : qCx p s m meth c cL_law 9 RL (some .boolean) g z0) (hX : qScr b L xs z0 s) (hB : qBC g ad w) (hM : qBM g am w) (hO : w 64 = some (ao, qAL (g.2 4) 1)) (hD : w 65 = some (aod, qAD (g.2 5) 1)) (h66 : w 66 = none) (h67 : w 67 = none) (h68 : w 68 = none) (hl : l.stackTraces = false) (hk : kc + 24 ≤ 601024 ∧ nc + 96 ≤ 7293034) (hnx : ∀ i σ, qS p l e room_1 s m args below meth c 9 g z0 w (kc + 24) (nc + 96) Q (nx i σ) σ 28 [(0, some (.ref b)), (1, some (.ref (ad 0))), (2, some (.ref (am 47))), (3, some (.ref ao)), (4, some (.ref aod)), (5, some (.int (qI i)))] []) (i : Int) (σ : qSt) : qS p l e room_1 s m args below meth c 9 g z0 w kc nc Q (fL_c1 L xs nx i σ) σ 204 [(0, some (.ref b)), (1, some (.ref (ad 0))), (2, some (.ref (am 47))), (3, some (.ref ao)), (4, some (.ref aod)), (5, some (.int (qI i)))] [] := by
  unfold fL_c1
  refine r_aload_n (pc := 204) cx dL_law_204 rfl ?_
  refine r_aload_n (pc := 205) cx dL_law_205 rfl ?_
  refine r_iload (pc := 206) cx dL_law_206 rfl ?_
  refine r_iconst (pc := 208) cx dL_law_208 ?_
  refine r_iadd (pc := 209) cx dL_law_209 ?_
  refine r_sld (pc := 210) cx hX dL_law_210 ?_
  refine r_aload_n (pc := 211) cx dL_law_211 rfl ?_
  refine r_callSW (pc := 212) cx (tL_clear hB hO hl (qXs xs (i + 1)) σ) qmh_L_clear wm_L_105 dL_law_212 rfl rfl (Nat.le_of_ble_eq_true rfl) ⟨Nat.le_of_ble_eq_true rfl, Nat.le_of_ble_eq_true rfl⟩ ⟨by show kc + 1 ≤ 601024; omega, by show nc + 6 ≤ 7293034; omega⟩ (fun k2 σ1 _ => ?_)
  refine r_istore (pc := 215) cx dL_law_215 (by decide) rfl ?_
  refine r_aload_n (pc := 217) cx dL_law_217 rfl ?_
  refine r_aload_n (pc := 218) cx dL_law_218 rfl ?_
  refine r_iload (pc := 219) cx dL_law_219 rfl ?_
  refine r_iconst (pc := 221) cx dL_law_221 ?_
  refine r_iadd (pc := 222) cx dL_law_222 ?_
  refine r_sld (pc := 223) cx hX dL_law_223 ?_
  refine r_dVi (pc := 224) cx (tX6_clear hM (qXs xs (i + 1)) σ1) qm_X6_clear qv_X6_clear hcl_X6 (lw47 hM) wm_L_108 dL_law_224 rfl rfl (Nat.le_of_ble_eq_true rfl) ⟨Nat.le_of_ble_eq_true rfl, Nat.le_of_ble_eq_true rfl⟩ ⟨rfl, rfl⟩ ⟨by show kc + 1 ≤ 601024; omega, by show nc + 6 ≤ 7293034; omega⟩ (fun r3 σ4 => ?_)
  refine r_istore (pc := 227) cx dL_law_227 (by decide) rfl ?_
  refine r_aload_n (pc := 229) cx dL_law_229 rfl ?_
  refine r_pVi (pc := 230) cx (tX6_thrown hM  σ4) qm_X6_thrown qv_X6_thrown hcl_X6 (lw47 hM) wm_L_101 dL_law_230 rfl rfl (Nat.le_of_ble_eq_true rfl) ⟨Nat.le_of_ble_eq_true rfl, Nat.le_of_ble_eq_true rfl⟩ ⟨rfl, rfl⟩ ⟨by show kc + 1 ≤ 601024; omega, by show nc + 6 ≤ 7293034; omega⟩ (fun r5 => ?_)
  refine r_iload (pc := 233) cx dL_law_233 rfl ?_
  refine r_icmp_eq (pc := 235) (tgt := 240) cx dL_law_235 (by decide) ?_ ?_
  · refine r_iload (pc := 240) cx dL_law_240 rfl ?_
    refine r_if_ne (pc := 242) (tgt := 257) cx dL_law_242 (by decide) ?_ ?_
    · refine r_goto (pc := 257) (tgt := 1799) cx dL_law_257 (by decide) ?_
      refine r_iinc (pc := 1799) cx dL_law_1799 rfl (by decide) rfl ?_
      refine r_goto (pc := 1802) (tgt := 28) cx dL_law_1802 (by decide) ?_
      refine qS.widen (k2 := kc + 24) (n2 := nc + 96) (by first | exact Nat.le_refl _ | exact Nat.le_add_right _ _ | exact Nat.add_le_add_left (by decide) _) (by first | exact Nat.le_refl _ | exact Nat.le_add_right _ _ | exact Nat.add_le_add_left (by decide) _) ?_
      exact qS.sub (qsub_cons rfl (qsub_cons rfl (qsub_cons rfl (qsub_cons rfl (qsub_cons rfl (qsub_cons rfl (qsub_nil _))))))) (hnx _ _)
    · refine r_aload_n (pc := 245) cx dL_law_245 rfl ?_
      refine r_iconst (pc := 246) cx dL_law_246 ?_
      refine r_laload (pc := 247) cx hO rfl (by decide) dL_law_247 ?_
      refine r_iload (pc := 248) cx dL_law_248 rfl ?_
      refine r_i2l (pc := 250) cx dL_law_250 ?_
      refine r_lcmp (pc := 251) cx dL_law_251 ?_
      refine r_if_eq (pc := 252) (tgt := 257) cx dL_law_252 (by decide) ?_ ?_
      · refine r_goto (pc := 257) (tgt := 1799) cx dL_law_257 (by decide) ?_
        refine r_iinc (pc := 1799) cx dL_law_1799 rfl (by decide) rfl ?_
        refine r_goto (pc := 1802) (tgt := 28) cx dL_law_1802 (by decide) ?_
        refine qS.widen (k2 := kc + 24) (n2 := nc + 96) (by first | exact Nat.le_refl _ | exact Nat.le_add_right _ _ | exact Nat.add_le_add_left (by decide) _) (by first | exact Nat.le_refl _ | exact Nat.le_add_right _ _ | exact Nat.add_le_add_left (by decide) _) ?_
        exact qS.sub (qsub_cons rfl (qsub_cons rfl (qsub_cons rfl (qsub_cons rfl (qsub_cons rfl (qsub_cons rfl (qsub_nil _))))))) (hnx _ _)
      · exact qS.fail
  · exact qS.fail
def fL_c2 (L : Nat) (xs : Nat → Int32) (nx : Int → qSt → Option Unit) (i : Int) (σ : qSt) : Option Unit :=
  (qif (0 ≤ (i + 1) ∧ (i + 1) < (L : Int)) <| (qif (0 ≤ (i + 2) ∧ (i + 2) < (L : Int)) <| (qbd (fL_open (qXs xs (i + 1)) (qXs xs (i + 2)) σ) fun (k2 : Int) (σ1 : qSt) => (qif (0 ≤ (i + 1) ∧ (i + 1) < (L : Int)) <| (qif (0 ≤ (i + 2) ∧ (i + 2) < (L : Int)) <| (qbd (fX6_open (qXs xs (i + 1)) (qXs xs (i + 2)) σ1) fun (r3 : Int) (σ4 : qSt) => ((fX6_thrown σ4 ).bind fun (r5 : Int) => if qI r5 = qI k2 then nx (i + 7) σ4 else none)))))))
set_option maxRecDepth 100000 in
set_option maxHeartbeats 4000000 in
theorem tL_c2 {p : Program} {l : Launch} {e : Env} {s : State} {m : MethodId} {args : Array Value} {below : List Frame} {meth : Method} {c : Code} {z0 : Nat} {g : qG} {w : qWd} {ad am : Nat → Nat} {ao aod b L kc nc : Nat} {xs : Nat → Int32} {Q : Unit → State → Prop} {nx : Int → qSt → Option Unit} (cx : qCx p s m meth c cL_law 9 RL (some .boolean) g z0) (hX : qScr b L xs z0 s) (hB : qBC g ad w) (hM : qBM g am w) (hO : w 64 = some (ao, qAL (g.2 4) 1)) (hD : w 65 = some (aod, qAD (g.2 5) 1)) (h66 : w 66 = none) (h67 : w 67 = none) (h68 : w 68 = none) (hl : l.stackTraces = false) (hk : kc + 24 ≤ 601024 ∧ nc + 96 ≤ 7293034) (hnx : ∀ i σ, qS p l e room_1 s m args below meth c 9 g z0 w (kc + 24) (nc + 96) Q (nx i σ) σ 28 [(0, some (.ref b)), (1, some (.ref (ad 0))), (2, some (.ref (am 47))), (3, some (.ref ao)), (4, some (.ref aod)), (5, some (.int (qI i)))] []) (i : Int) (σ : qSt) : qS p l e room_1 s m args below meth c 9 g z0 w kc nc Q (fL_c2 L xs nx i σ) σ 260 [(0, some (.ref b)), (1, some (.ref (ad 0))), (2, some (.ref (am 47))), (3, some (.ref ao)), (4, some (.ref aod)), (5, some (.int (qI i)))] [] := by
  unfold fL_c2
  refine r_aload_n (pc := 260) cx dL_law_260 rfl ?_
  refine r_aload_n (pc := 261) cx dL_law_261 rfl ?_
  refine r_iload (pc := 262) cx dL_law_262 rfl ?_
  refine r_iconst (pc := 264) cx dL_law_264 ?_
  refine r_iadd (pc := 265) cx dL_law_265 ?_
  refine r_sld (pc := 266) cx hX dL_law_266 ?_
  refine r_aload_n (pc := 267) cx dL_law_267 rfl ?_
  refine r_iload (pc := 268) cx dL_law_268 rfl ?_
  refine r_iconst (pc := 270) cx dL_law_270 ?_
  refine r_iadd (pc := 271) cx dL_law_271 ?_
  refine r_sld (pc := 272) cx hX dL_law_272 ?_
  refine r_callSW (pc := 273) cx (tL_open hB hl (qXs xs (i + 1)) (qXs xs (i + 2)) σ) qmh_L_open wm_L_109 dL_law_273 rfl rfl (Nat.le_of_ble_eq_true rfl) ⟨Nat.le_of_ble_eq_true rfl, Nat.le_of_ble_eq_true rfl⟩ ⟨by show kc + 1 ≤ 601024; omega, by show nc + 6 ≤ 7293034; omega⟩ (fun k2 σ1 _ => ?_)
  refine r_istore (pc := 276) cx dL_law_276 (by decide) rfl ?_
  refine r_aload_n (pc := 278) cx dL_law_278 rfl ?_
  refine r_aload_n (pc := 279) cx dL_law_279 rfl ?_
  refine r_iload (pc := 280) cx dL_law_280 rfl ?_
  refine r_iconst (pc := 282) cx dL_law_282 ?_
  refine r_iadd (pc := 283) cx dL_law_283 ?_
  refine r_sld (pc := 284) cx hX dL_law_284 ?_
  refine r_aload_n (pc := 285) cx dL_law_285 rfl ?_
  refine r_iload (pc := 286) cx dL_law_286 rfl ?_
  refine r_iconst (pc := 288) cx dL_law_288 ?_
  refine r_iadd (pc := 289) cx dL_law_289 ?_
  refine r_sld (pc := 290) cx hX dL_law_290 ?_
  refine r_dVv (pc := 291) cx (tX6_open hM (qXs xs (i + 1)) (qXs xs (i + 2)) σ1) qm_X6_open qv_X6_open hcl_X6 (lw47 hM) wm_L_111 dL_law_291 rfl rfl (Nat.le_of_ble_eq_true rfl) ⟨Nat.le_of_ble_eq_true rfl, Nat.le_of_ble_eq_true rfl⟩ ⟨rfl, rfl⟩ ⟨by show kc + 1 ≤ 601024; omega, by show nc + 6 ≤ 7293034; omega⟩ (fun r3 σ4 => ?_)
  refine r_aload_n (pc := 294) cx dL_law_294 rfl ?_
  refine r_pVi (pc := 295) cx (tX6_thrown hM  σ4) qm_X6_thrown qv_X6_thrown hcl_X6 (lw47 hM) wm_L_101 dL_law_295 rfl rfl (Nat.le_of_ble_eq_true rfl) ⟨Nat.le_of_ble_eq_true rfl, Nat.le_of_ble_eq_true rfl⟩ ⟨rfl, rfl⟩ ⟨by show kc + 1 ≤ 601024; omega, by show nc + 6 ≤ 7293034; omega⟩ (fun r5 => ?_)
  refine r_iload (pc := 298) cx dL_law_298 rfl ?_
  refine r_icmp_eq (pc := 300) (tgt := 305) cx dL_law_300 (by decide) ?_ ?_
  · refine r_goto (pc := 305) (tgt := 1799) cx dL_law_305 (by decide) ?_
    refine r_iinc (pc := 1799) cx dL_law_1799 rfl (by decide) rfl ?_
    refine r_goto (pc := 1802) (tgt := 28) cx dL_law_1802 (by decide) ?_
    refine qS.widen (k2 := kc + 24) (n2 := nc + 96) (by first | exact Nat.le_refl _ | exact Nat.le_add_right _ _ | exact Nat.add_le_add_left (by decide) _) (by first | exact Nat.le_refl _ | exact Nat.le_add_right _ _ | exact Nat.add_le_add_left (by decide) _) ?_
    exact qS.sub (qsub_cons rfl (qsub_cons rfl (qsub_cons rfl (qsub_cons rfl (qsub_cons rfl (qsub_cons rfl (qsub_nil _))))))) (hnx _ _)
  · exact qS.fail
def fL_c3 (L : Nat) (xs : Nat → Int32) (nx : Int → qSt → Option Unit) (i : Int) (σ : qSt) : Option Unit :=
  (qif (0 ≤ (i + 1) ∧ (i + 1) < (L : Int)) <| (qif (0 ≤ (i + 2) ∧ (i + 2) < (L : Int)) <| (qbd (fL_particle (qXs xs (i + 1)) (qXs xs (i + 2)) σ) fun (k2 : Int) (σ1 : qSt) => (qif (0 ≤ (i + 1) ∧ (i + 1) < (L : Int)) <| (qif (0 ≤ (i + 2) ∧ (i + 2) < (L : Int)) <| (qbd (fX6_particle (qXs xs (i + 1)) (qXs xs (i + 2)) σ1) fun (r3 : Int) (σ4 : qSt) => ((fX6_thrown σ4 ).bind fun (r5 : Int) => if qI r5 = qI k2 then if qI k2 = 0 then (qif (0 ≤ (0 : Int) ∧ (0 : Int) < 1) <| if qI (qlcmp (σ4 64 0) (qi2l r3)) = 0 then nx (i + 7) σ4 else none) else nx (i + 7) σ4 else none)))))))
set_option maxRecDepth 100000 in
set_option maxHeartbeats 4000000 in
theorem tL_c3 {p : Program} {l : Launch} {e : Env} {s : State} {m : MethodId} {args : Array Value} {below : List Frame} {meth : Method} {c : Code} {z0 : Nat} {g : qG} {w : qWd} {ad am : Nat → Nat} {ao aod b L kc nc : Nat} {xs : Nat → Int32} {Q : Unit → State → Prop} {nx : Int → qSt → Option Unit} (cx : qCx p s m meth c cL_law 9 RL (some .boolean) g z0) (hX : qScr b L xs z0 s) (hB : qBC g ad w) (hM : qBM g am w) (hO : w 64 = some (ao, qAL (g.2 4) 1)) (hD : w 65 = some (aod, qAD (g.2 5) 1)) (h66 : w 66 = none) (h67 : w 67 = none) (h68 : w 68 = none) (hl : l.stackTraces = false) (hk : kc + 24 ≤ 601024 ∧ nc + 96 ≤ 7293034) (hnx : ∀ i σ, qS p l e room_1 s m args below meth c 9 g z0 w (kc + 24) (nc + 96) Q (nx i σ) σ 28 [(0, some (.ref b)), (1, some (.ref (ad 0))), (2, some (.ref (am 47))), (3, some (.ref ao)), (4, some (.ref aod)), (5, some (.int (qI i)))] []) (i : Int) (σ : qSt) : qS p l e room_1 s m args below meth c 9 g z0 w kc nc Q (fL_c3 L xs nx i σ) σ 308 [(0, some (.ref b)), (1, some (.ref (ad 0))), (2, some (.ref (am 47))), (3, some (.ref ao)), (4, some (.ref aod)), (5, some (.int (qI i)))] [] := by
  unfold fL_c3
  refine r_aload_n (pc := 308) cx dL_law_308 rfl ?_
  refine r_aload_n (pc := 309) cx dL_law_309 rfl ?_
  refine r_iload (pc := 310) cx dL_law_310 rfl ?_
  refine r_iconst (pc := 312) cx dL_law_312 ?_
  refine r_iadd (pc := 313) cx dL_law_313 ?_
  refine r_sld (pc := 314) cx hX dL_law_314 ?_
  refine r_aload_n (pc := 315) cx dL_law_315 rfl ?_
  refine r_iload (pc := 316) cx dL_law_316 rfl ?_
  refine r_iconst (pc := 318) cx dL_law_318 ?_
  refine r_iadd (pc := 319) cx dL_law_319 ?_
  refine r_sld (pc := 320) cx hX dL_law_320 ?_
  refine r_aload_n (pc := 321) cx dL_law_321 rfl ?_
  refine r_callSW (pc := 322) cx (tL_particle hB hO hl (qXs xs (i + 1)) (qXs xs (i + 2)) σ) qmh_L_particle wm_L_112 dL_law_322 rfl rfl (Nat.le_of_ble_eq_true rfl) ⟨Nat.le_of_ble_eq_true rfl, Nat.le_of_ble_eq_true rfl⟩ ⟨by show kc + 1 ≤ 601024; omega, by show nc + 6 ≤ 7293034; omega⟩ (fun k2 σ1 _ => ?_)
  refine r_istore (pc := 325) cx dL_law_325 (by decide) rfl ?_
  refine r_aload_n (pc := 327) cx dL_law_327 rfl ?_
  refine r_aload_n (pc := 328) cx dL_law_328 rfl ?_
  refine r_iload (pc := 329) cx dL_law_329 rfl ?_
  refine r_iconst (pc := 331) cx dL_law_331 ?_
  refine r_iadd (pc := 332) cx dL_law_332 ?_
  refine r_sld (pc := 333) cx hX dL_law_333 ?_
  refine r_aload_n (pc := 334) cx dL_law_334 rfl ?_
  refine r_iload (pc := 335) cx dL_law_335 rfl ?_
  refine r_iconst (pc := 337) cx dL_law_337 ?_
  refine r_iadd (pc := 338) cx dL_law_338 ?_
  refine r_sld (pc := 339) cx hX dL_law_339 ?_
  refine r_dVi (pc := 340) cx (tX6_particle hM (qXs xs (i + 1)) (qXs xs (i + 2)) σ1) qm_X6_particle qv_X6_particle hcl_X6 (lw47 hM) wm_L_115 dL_law_340 rfl rfl (Nat.le_of_ble_eq_true rfl) ⟨Nat.le_of_ble_eq_true rfl, Nat.le_of_ble_eq_true rfl⟩ ⟨rfl, rfl⟩ ⟨by show kc + 1 ≤ 601024; omega, by show nc + 6 ≤ 7293034; omega⟩ (fun r3 σ4 => ?_)
  refine r_istore (pc := 343) cx dL_law_343 (by decide) rfl ?_
  refine r_aload_n (pc := 345) cx dL_law_345 rfl ?_
  refine r_pVi (pc := 346) cx (tX6_thrown hM  σ4) qm_X6_thrown qv_X6_thrown hcl_X6 (lw47 hM) wm_L_101 dL_law_346 rfl rfl (Nat.le_of_ble_eq_true rfl) ⟨Nat.le_of_ble_eq_true rfl, Nat.le_of_ble_eq_true rfl⟩ ⟨rfl, rfl⟩ ⟨by show kc + 1 ≤ 601024; omega, by show nc + 6 ≤ 7293034; omega⟩ (fun r5 => ?_)
  refine r_iload (pc := 349) cx dL_law_349 rfl ?_
  refine r_icmp_eq (pc := 351) (tgt := 356) cx dL_law_351 (by decide) ?_ ?_
  · refine r_iload (pc := 356) cx dL_law_356 rfl ?_
    refine r_if_ne (pc := 358) (tgt := 373) cx dL_law_358 (by decide) ?_ ?_
    · refine r_goto (pc := 373) (tgt := 1799) cx dL_law_373 (by decide) ?_
      refine r_iinc (pc := 1799) cx dL_law_1799 rfl (by decide) rfl ?_
      refine r_goto (pc := 1802) (tgt := 28) cx dL_law_1802 (by decide) ?_
      refine qS.widen (k2 := kc + 24) (n2 := nc + 96) (by first | exact Nat.le_refl _ | exact Nat.le_add_right _ _ | exact Nat.add_le_add_left (by decide) _) (by first | exact Nat.le_refl _ | exact Nat.le_add_right _ _ | exact Nat.add_le_add_left (by decide) _) ?_
      exact qS.sub (qsub_cons rfl (qsub_cons rfl (qsub_cons rfl (qsub_cons rfl (qsub_cons rfl (qsub_cons rfl (qsub_nil _))))))) (hnx _ _)
    · refine r_aload_n (pc := 361) cx dL_law_361 rfl ?_
      refine r_iconst (pc := 362) cx dL_law_362 ?_
      refine r_laload (pc := 363) cx hO rfl (by decide) dL_law_363 ?_
      refine r_iload (pc := 364) cx dL_law_364 rfl ?_
      refine r_i2l (pc := 366) cx dL_law_366 ?_
      refine r_lcmp (pc := 367) cx dL_law_367 ?_
      refine r_if_eq (pc := 368) (tgt := 373) cx dL_law_368 (by decide) ?_ ?_
      · refine r_goto (pc := 373) (tgt := 1799) cx dL_law_373 (by decide) ?_
        refine r_iinc (pc := 1799) cx dL_law_1799 rfl (by decide) rfl ?_
        refine r_goto (pc := 1802) (tgt := 28) cx dL_law_1802 (by decide) ?_
        refine qS.widen (k2 := kc + 24) (n2 := nc + 96) (by first | exact Nat.le_refl _ | exact Nat.le_add_right _ _ | exact Nat.add_le_add_left (by decide) _) (by first | exact Nat.le_refl _ | exact Nat.le_add_right _ _ | exact Nat.add_le_add_left (by decide) _) ?_
        exact qS.sub (qsub_cons rfl (qsub_cons rfl (qsub_cons rfl (qsub_cons rfl (qsub_cons rfl (qsub_cons rfl (qsub_nil _))))))) (hnx _ _)
      · exact qS.fail
  · exact qS.fail
def fL_c4 (L : Nat) (xs : Nat → Int32) (nx : Int → qSt → Option Unit) (i : Int) (σ : qSt) : Option Unit :=
  (qif (0 ≤ (i + 1) ∧ (i + 1) < (L : Int)) <| (qbd (fL_ink (qXs xs (i + 1)) σ) fun (k2 : Int) (σ1 : qSt) => (qif (0 ≤ (i + 1) ∧ (i + 1) < (L : Int)) <| (qbd (fX6_ink (qXs xs (i + 1)) σ1) fun (r3 : Int) (σ4 : qSt) => ((fX6_thrown σ4 ).bind fun (r5 : Int) => if qI r5 = qI k2 then if qI k2 = 0 then (qif (0 ≤ (0 : Int) ∧ (0 : Int) < 1) <| if qI (qlcmp (σ4 64 0) (qi2l r3)) = 0 then nx (i + 7) σ4 else none) else nx (i + 7) σ4 else none)))))
set_option maxRecDepth 100000 in
set_option maxHeartbeats 4000000 in
theorem tL_c4 {p : Program} {l : Launch} {e : Env} {s : State} {m : MethodId} {args : Array Value} {below : List Frame} {meth : Method} {c : Code} {z0 : Nat} {g : qG} {w : qWd} {ad am : Nat → Nat} {ao aod b L kc nc : Nat} {xs : Nat → Int32} {Q : Unit → State → Prop} {nx : Int → qSt → Option Unit} (cx : qCx p s m meth c cL_law 9 RL (some .boolean) g z0) (hX : qScr b L xs z0 s) (hB : qBC g ad w) (hM : qBM g am w) (hO : w 64 = some (ao, qAL (g.2 4) 1)) (hD : w 65 = some (aod, qAD (g.2 5) 1)) (h66 : w 66 = none) (h67 : w 67 = none) (h68 : w 68 = none) (hl : l.stackTraces = false) (hk : kc + 24 ≤ 601024 ∧ nc + 96 ≤ 7293034) (hnx : ∀ i σ, qS p l e room_1 s m args below meth c 9 g z0 w (kc + 24) (nc + 96) Q (nx i σ) σ 28 [(0, some (.ref b)), (1, some (.ref (ad 0))), (2, some (.ref (am 47))), (3, some (.ref ao)), (4, some (.ref aod)), (5, some (.int (qI i)))] []) (i : Int) (σ : qSt) : qS p l e room_1 s m args below meth c 9 g z0 w kc nc Q (fL_c4 L xs nx i σ) σ 376 [(0, some (.ref b)), (1, some (.ref (ad 0))), (2, some (.ref (am 47))), (3, some (.ref ao)), (4, some (.ref aod)), (5, some (.int (qI i)))] [] := by
  unfold fL_c4
  refine r_aload_n (pc := 376) cx dL_law_376 rfl ?_
  refine r_aload_n (pc := 377) cx dL_law_377 rfl ?_
  refine r_iload (pc := 378) cx dL_law_378 rfl ?_
  refine r_iconst (pc := 380) cx dL_law_380 ?_
  refine r_iadd (pc := 381) cx dL_law_381 ?_
  refine r_sld (pc := 382) cx hX dL_law_382 ?_
  refine r_aload_n (pc := 383) cx dL_law_383 rfl ?_
  refine r_callSW (pc := 384) cx (tL_ink hB hO hl (qXs xs (i + 1)) σ) qmh_L_ink wm_L_116 dL_law_384 rfl rfl (Nat.le_of_ble_eq_true rfl) ⟨Nat.le_of_ble_eq_true rfl, Nat.le_of_ble_eq_true rfl⟩ ⟨by show kc + 1 ≤ 601024; omega, by show nc + 6 ≤ 7293034; omega⟩ (fun k2 σ1 _ => ?_)
  refine r_istore (pc := 387) cx dL_law_387 (by decide) rfl ?_
  refine r_aload_n (pc := 389) cx dL_law_389 rfl ?_
  refine r_aload_n (pc := 390) cx dL_law_390 rfl ?_
  refine r_iload (pc := 391) cx dL_law_391 rfl ?_
  refine r_iconst (pc := 393) cx dL_law_393 ?_
  refine r_iadd (pc := 394) cx dL_law_394 ?_
  refine r_sld (pc := 395) cx hX dL_law_395 ?_
  refine r_dVi (pc := 396) cx (tX6_ink hM (qXs xs (i + 1)) σ1) qm_X6_ink qv_X6_ink hcl_X6 (lw47 hM) wm_L_118 dL_law_396 rfl rfl (Nat.le_of_ble_eq_true rfl) ⟨Nat.le_of_ble_eq_true rfl, Nat.le_of_ble_eq_true rfl⟩ ⟨rfl, rfl⟩ ⟨by show kc + 1 ≤ 601024; omega, by show nc + 6 ≤ 7293034; omega⟩ (fun r3 σ4 => ?_)
  refine r_istore (pc := 399) cx dL_law_399 (by decide) rfl ?_
  refine r_aload_n (pc := 401) cx dL_law_401 rfl ?_
  refine r_pVi (pc := 402) cx (tX6_thrown hM  σ4) qm_X6_thrown qv_X6_thrown hcl_X6 (lw47 hM) wm_L_101 dL_law_402 rfl rfl (Nat.le_of_ble_eq_true rfl) ⟨Nat.le_of_ble_eq_true rfl, Nat.le_of_ble_eq_true rfl⟩ ⟨rfl, rfl⟩ ⟨by show kc + 1 ≤ 601024; omega, by show nc + 6 ≤ 7293034; omega⟩ (fun r5 => ?_)
  refine r_iload (pc := 405) cx dL_law_405 rfl ?_
  refine r_icmp_eq (pc := 407) (tgt := 412) cx dL_law_407 (by decide) ?_ ?_
  · refine r_iload (pc := 412) cx dL_law_412 rfl ?_
    refine r_if_ne (pc := 414) (tgt := 429) cx dL_law_414 (by decide) ?_ ?_
    · refine r_goto (pc := 429) (tgt := 1799) cx dL_law_429 (by decide) ?_
      refine r_iinc (pc := 1799) cx dL_law_1799 rfl (by decide) rfl ?_
      refine r_goto (pc := 1802) (tgt := 28) cx dL_law_1802 (by decide) ?_
      refine qS.widen (k2 := kc + 24) (n2 := nc + 96) (by first | exact Nat.le_refl _ | exact Nat.le_add_right _ _ | exact Nat.add_le_add_left (by decide) _) (by first | exact Nat.le_refl _ | exact Nat.le_add_right _ _ | exact Nat.add_le_add_left (by decide) _) ?_
      exact qS.sub (qsub_cons rfl (qsub_cons rfl (qsub_cons rfl (qsub_cons rfl (qsub_cons rfl (qsub_cons rfl (qsub_nil _))))))) (hnx _ _)
    · refine r_aload_n (pc := 417) cx dL_law_417 rfl ?_
      refine r_iconst (pc := 418) cx dL_law_418 ?_
      refine r_laload (pc := 419) cx hO rfl (by decide) dL_law_419 ?_
      refine r_iload (pc := 420) cx dL_law_420 rfl ?_
      refine r_i2l (pc := 422) cx dL_law_422 ?_
      refine r_lcmp (pc := 423) cx dL_law_423 ?_
      refine r_if_eq (pc := 424) (tgt := 429) cx dL_law_424 (by decide) ?_ ?_
      · refine r_goto (pc := 429) (tgt := 1799) cx dL_law_429 (by decide) ?_
        refine r_iinc (pc := 1799) cx dL_law_1799 rfl (by decide) rfl ?_
        refine r_goto (pc := 1802) (tgt := 28) cx dL_law_1802 (by decide) ?_
        refine qS.widen (k2 := kc + 24) (n2 := nc + 96) (by first | exact Nat.le_refl _ | exact Nat.le_add_right _ _ | exact Nat.add_le_add_left (by decide) _) (by first | exact Nat.le_refl _ | exact Nat.le_add_right _ _ | exact Nat.add_le_add_left (by decide) _) ?_
        exact qS.sub (qsub_cons rfl (qsub_cons rfl (qsub_cons rfl (qsub_cons rfl (qsub_cons rfl (qsub_cons rfl (qsub_nil _))))))) (hnx _ _)
      · exact qS.fail
  · exact qS.fail
def fL_c5 (L : Nat) (xs : Nat → Int32) (nx : Int → qSt → Option Unit) (i : Int) (σ : qSt) : Option Unit :=
  (qif (0 ≤ (i + 1) ∧ (i + 1) < (L : Int)) <| (qbd (fL_probe (qXs xs (i + 1)) σ) fun (k2 : Int) (σ1 : qSt) => (qif (0 ≤ (i + 1) ∧ (i + 1) < (L : Int)) <| (qbd (fX6_probe (qXs xs (i + 1)) σ1) fun (r3 : Int) (σ4 : qSt) => ((fX6_thrown σ4 ).bind fun (r5 : Int) => if qI r5 = qI k2 then if qI k2 = 0 then (qif (0 ≤ (0 : Int) ∧ (0 : Int) < 1) <| if qI (qlcmp (σ4 64 0) (qi2l r3)) = 0 then nx (i + 7) σ4 else none) else nx (i + 7) σ4 else none)))))
set_option maxRecDepth 100000 in
set_option maxHeartbeats 4000000 in
theorem tL_c5 {p : Program} {l : Launch} {e : Env} {s : State} {m : MethodId} {args : Array Value} {below : List Frame} {meth : Method} {c : Code} {z0 : Nat} {g : qG} {w : qWd} {ad am : Nat → Nat} {ao aod b L kc nc : Nat} {xs : Nat → Int32} {Q : Unit → State → Prop} {nx : Int → qSt → Option Unit} (cx : qCx p s m meth c cL_law 9 RL (some .boolean) g z0) (hX : qScr b L xs z0 s) (hB : qBC g ad w) (hM : qBM g am w) (hO : w 64 = some (ao, qAL (g.2 4) 1)) (hD : w 65 = some (aod, qAD (g.2 5) 1)) (h66 : w 66 = none) (h67 : w 67 = none) (h68 : w 68 = none) (hl : l.stackTraces = false) (hk : kc + 24 ≤ 601024 ∧ nc + 96 ≤ 7293034) (hnx : ∀ i σ, qS p l e room_1 s m args below meth c 9 g z0 w (kc + 24) (nc + 96) Q (nx i σ) σ 28 [(0, some (.ref b)), (1, some (.ref (ad 0))), (2, some (.ref (am 47))), (3, some (.ref ao)), (4, some (.ref aod)), (5, some (.int (qI i)))] []) (i : Int) (σ : qSt) : qS p l e room_1 s m args below meth c 9 g z0 w kc nc Q (fL_c5 L xs nx i σ) σ 432 [(0, some (.ref b)), (1, some (.ref (ad 0))), (2, some (.ref (am 47))), (3, some (.ref ao)), (4, some (.ref aod)), (5, some (.int (qI i)))] [] := by
  unfold fL_c5
  refine r_aload_n (pc := 432) cx dL_law_432 rfl ?_
  refine r_aload_n (pc := 433) cx dL_law_433 rfl ?_
  refine r_iload (pc := 434) cx dL_law_434 rfl ?_
  refine r_iconst (pc := 436) cx dL_law_436 ?_
  refine r_iadd (pc := 437) cx dL_law_437 ?_
  refine r_sld (pc := 438) cx hX dL_law_438 ?_
  refine r_aload_n (pc := 439) cx dL_law_439 rfl ?_
  refine r_callSW (pc := 440) cx (tL_probe hB hO hl (qXs xs (i + 1)) σ) qmh_L_probe wm_L_119 dL_law_440 rfl rfl (Nat.le_of_ble_eq_true rfl) ⟨Nat.le_of_ble_eq_true rfl, Nat.le_of_ble_eq_true rfl⟩ ⟨by show kc + 1 ≤ 601024; omega, by show nc + 6 ≤ 7293034; omega⟩ (fun k2 σ1 _ => ?_)
  refine r_istore (pc := 443) cx dL_law_443 (by decide) rfl ?_
  refine r_aload_n (pc := 445) cx dL_law_445 rfl ?_
  refine r_aload_n (pc := 446) cx dL_law_446 rfl ?_
  refine r_iload (pc := 447) cx dL_law_447 rfl ?_
  refine r_iconst (pc := 449) cx dL_law_449 ?_
  refine r_iadd (pc := 450) cx dL_law_450 ?_
  refine r_sld (pc := 451) cx hX dL_law_451 ?_
  refine r_dVi (pc := 452) cx (tX6_probe hM (qXs xs (i + 1)) σ1) qm_X6_probe qv_X6_probe hcl_X6 (lw47 hM) wm_L_121 dL_law_452 rfl rfl (Nat.le_of_ble_eq_true rfl) ⟨Nat.le_of_ble_eq_true rfl, Nat.le_of_ble_eq_true rfl⟩ ⟨rfl, rfl⟩ ⟨by show kc + 1 ≤ 601024; omega, by show nc + 6 ≤ 7293034; omega⟩ (fun r3 σ4 => ?_)
  refine r_istore (pc := 455) cx dL_law_455 (by decide) rfl ?_
  refine r_aload_n (pc := 457) cx dL_law_457 rfl ?_
  refine r_pVi (pc := 458) cx (tX6_thrown hM  σ4) qm_X6_thrown qv_X6_thrown hcl_X6 (lw47 hM) wm_L_101 dL_law_458 rfl rfl (Nat.le_of_ble_eq_true rfl) ⟨Nat.le_of_ble_eq_true rfl, Nat.le_of_ble_eq_true rfl⟩ ⟨rfl, rfl⟩ ⟨by show kc + 1 ≤ 601024; omega, by show nc + 6 ≤ 7293034; omega⟩ (fun r5 => ?_)
  refine r_iload (pc := 461) cx dL_law_461 rfl ?_
  refine r_icmp_eq (pc := 463) (tgt := 468) cx dL_law_463 (by decide) ?_ ?_
  · refine r_iload (pc := 468) cx dL_law_468 rfl ?_
    refine r_if_ne (pc := 470) (tgt := 485) cx dL_law_470 (by decide) ?_ ?_
    · refine r_goto (pc := 485) (tgt := 1799) cx dL_law_485 (by decide) ?_
      refine r_iinc (pc := 1799) cx dL_law_1799 rfl (by decide) rfl ?_
      refine r_goto (pc := 1802) (tgt := 28) cx dL_law_1802 (by decide) ?_
      refine qS.widen (k2 := kc + 24) (n2 := nc + 96) (by first | exact Nat.le_refl _ | exact Nat.le_add_right _ _ | exact Nat.add_le_add_left (by decide) _) (by first | exact Nat.le_refl _ | exact Nat.le_add_right _ _ | exact Nat.add_le_add_left (by decide) _) ?_
      exact qS.sub (qsub_cons rfl (qsub_cons rfl (qsub_cons rfl (qsub_cons rfl (qsub_cons rfl (qsub_cons rfl (qsub_nil _))))))) (hnx _ _)
    · refine r_aload_n (pc := 473) cx dL_law_473 rfl ?_
      refine r_iconst (pc := 474) cx dL_law_474 ?_
      refine r_laload (pc := 475) cx hO rfl (by decide) dL_law_475 ?_
      refine r_iload (pc := 476) cx dL_law_476 rfl ?_
      refine r_i2l (pc := 478) cx dL_law_478 ?_
      refine r_lcmp (pc := 479) cx dL_law_479 ?_
      refine r_if_eq (pc := 480) (tgt := 485) cx dL_law_480 (by decide) ?_ ?_
      · refine r_goto (pc := 485) (tgt := 1799) cx dL_law_485 (by decide) ?_
        refine r_iinc (pc := 1799) cx dL_law_1799 rfl (by decide) rfl ?_
        refine r_goto (pc := 1802) (tgt := 28) cx dL_law_1802 (by decide) ?_
        refine qS.widen (k2 := kc + 24) (n2 := nc + 96) (by first | exact Nat.le_refl _ | exact Nat.le_add_right _ _ | exact Nat.add_le_add_left (by decide) _) (by first | exact Nat.le_refl _ | exact Nat.le_add_right _ _ | exact Nat.add_le_add_left (by decide) _) ?_
        exact qS.sub (qsub_cons rfl (qsub_cons rfl (qsub_cons rfl (qsub_cons rfl (qsub_cons rfl (qsub_cons rfl (qsub_nil _))))))) (hnx _ _)
      · exact qS.fail
  · exact qS.fail
def fL_c6 (L : Nat) (xs : Nat → Int32) (nx : Int → qSt → Option Unit) (i : Int) (σ : qSt) : Option Unit :=
  (qif (0 ≤ (i + 1) ∧ (i + 1) < (L : Int)) <| (qif (0 ≤ (i + 2) ∧ (i + 2) < (L : Int)) <| (qbd (fL_fault (qXs xs (i + 1)) (qXs xs (i + 2)) σ) fun (k2 : Int) (σ1 : qSt) => (qif (0 ≤ (i + 1) ∧ (i + 1) < (L : Int)) <| (qif (0 ≤ (i + 2) ∧ (i + 2) < (L : Int)) <| (qbd (fX6_fault (qXs xs (i + 1)) (qXs xs (i + 2)) σ1) fun (r3 : Int) (σ4 : qSt) => ((fX6_thrown σ4 ).bind fun (r5 : Int) => if qI r5 = qI k2 then if qI k2 = 0 then (qif (0 ≤ (0 : Int) ∧ (0 : Int) < 1) <| if qI (qlcmp (σ4 64 0) (qi2l r3)) = 0 then nx (i + 7) σ4 else none) else nx (i + 7) σ4 else none)))))))
set_option maxRecDepth 100000 in
set_option maxHeartbeats 4000000 in
theorem tL_c6 {p : Program} {l : Launch} {e : Env} {s : State} {m : MethodId} {args : Array Value} {below : List Frame} {meth : Method} {c : Code} {z0 : Nat} {g : qG} {w : qWd} {ad am : Nat → Nat} {ao aod b L kc nc : Nat} {xs : Nat → Int32} {Q : Unit → State → Prop} {nx : Int → qSt → Option Unit} (cx : qCx p s m meth c cL_law 9 RL (some .boolean) g z0) (hX : qScr b L xs z0 s) (hB : qBC g ad w) (hM : qBM g am w) (hO : w 64 = some (ao, qAL (g.2 4) 1)) (hD : w 65 = some (aod, qAD (g.2 5) 1)) (h66 : w 66 = none) (h67 : w 67 = none) (h68 : w 68 = none) (hl : l.stackTraces = false) (hk : kc + 24 ≤ 601024 ∧ nc + 96 ≤ 7293034) (hnx : ∀ i σ, qS p l e room_1 s m args below meth c 9 g z0 w (kc + 24) (nc + 96) Q (nx i σ) σ 28 [(0, some (.ref b)), (1, some (.ref (ad 0))), (2, some (.ref (am 47))), (3, some (.ref ao)), (4, some (.ref aod)), (5, some (.int (qI i)))] []) (i : Int) (σ : qSt) : qS p l e room_1 s m args below meth c 9 g z0 w kc nc Q (fL_c6 L xs nx i σ) σ 488 [(0, some (.ref b)), (1, some (.ref (ad 0))), (2, some (.ref (am 47))), (3, some (.ref ao)), (4, some (.ref aod)), (5, some (.int (qI i)))] [] := by
  unfold fL_c6
  refine r_aload_n (pc := 488) cx dL_law_488 rfl ?_
  refine r_aload_n (pc := 489) cx dL_law_489 rfl ?_
  refine r_iload (pc := 490) cx dL_law_490 rfl ?_
  refine r_iconst (pc := 492) cx dL_law_492 ?_
  refine r_iadd (pc := 493) cx dL_law_493 ?_
  refine r_sld (pc := 494) cx hX dL_law_494 ?_
  refine r_aload_n (pc := 495) cx dL_law_495 rfl ?_
  refine r_iload (pc := 496) cx dL_law_496 rfl ?_
  refine r_iconst (pc := 498) cx dL_law_498 ?_
  refine r_iadd (pc := 499) cx dL_law_499 ?_
  refine r_sld (pc := 500) cx hX dL_law_500 ?_
  refine r_aload_n (pc := 501) cx dL_law_501 rfl ?_
  refine r_callSW (pc := 502) cx (tL_fault hB hO hl (qXs xs (i + 1)) (qXs xs (i + 2)) σ) qmh_L_fault wm_L_122 dL_law_502 rfl rfl (Nat.le_of_ble_eq_true rfl) ⟨Nat.le_of_ble_eq_true rfl, Nat.le_of_ble_eq_true rfl⟩ ⟨by show kc + 1 ≤ 601024; omega, by show nc + 6 ≤ 7293034; omega⟩ (fun k2 σ1 _ => ?_)
  refine r_istore (pc := 505) cx dL_law_505 (by decide) rfl ?_
  refine r_aload_n (pc := 507) cx dL_law_507 rfl ?_
  refine r_aload_n (pc := 508) cx dL_law_508 rfl ?_
  refine r_iload (pc := 509) cx dL_law_509 rfl ?_
  refine r_iconst (pc := 511) cx dL_law_511 ?_
  refine r_iadd (pc := 512) cx dL_law_512 ?_
  refine r_sld (pc := 513) cx hX dL_law_513 ?_
  refine r_aload_n (pc := 514) cx dL_law_514 rfl ?_
  refine r_iload (pc := 515) cx dL_law_515 rfl ?_
  refine r_iconst (pc := 517) cx dL_law_517 ?_
  refine r_iadd (pc := 518) cx dL_law_518 ?_
  refine r_sld (pc := 519) cx hX dL_law_519 ?_
  refine r_dVi (pc := 520) cx (tX6_fault hM (qXs xs (i + 1)) (qXs xs (i + 2)) σ1) qm_X6_fault qv_X6_fault hcl_X6 (lw47 hM) wm_L_124 dL_law_520 rfl rfl (Nat.le_of_ble_eq_true rfl) ⟨Nat.le_of_ble_eq_true rfl, Nat.le_of_ble_eq_true rfl⟩ ⟨rfl, rfl⟩ ⟨by show kc + 1 ≤ 601024; omega, by show nc + 6 ≤ 7293034; omega⟩ (fun r3 σ4 => ?_)
  refine r_istore (pc := 523) cx dL_law_523 (by decide) rfl ?_
  refine r_aload_n (pc := 525) cx dL_law_525 rfl ?_
  refine r_pVi (pc := 526) cx (tX6_thrown hM  σ4) qm_X6_thrown qv_X6_thrown hcl_X6 (lw47 hM) wm_L_101 dL_law_526 rfl rfl (Nat.le_of_ble_eq_true rfl) ⟨Nat.le_of_ble_eq_true rfl, Nat.le_of_ble_eq_true rfl⟩ ⟨rfl, rfl⟩ ⟨by show kc + 1 ≤ 601024; omega, by show nc + 6 ≤ 7293034; omega⟩ (fun r5 => ?_)
  refine r_iload (pc := 529) cx dL_law_529 rfl ?_
  refine r_icmp_eq (pc := 531) (tgt := 536) cx dL_law_531 (by decide) ?_ ?_
  · refine r_iload (pc := 536) cx dL_law_536 rfl ?_
    refine r_if_ne (pc := 538) (tgt := 553) cx dL_law_538 (by decide) ?_ ?_
    · refine r_goto (pc := 553) (tgt := 1799) cx dL_law_553 (by decide) ?_
      refine r_iinc (pc := 1799) cx dL_law_1799 rfl (by decide) rfl ?_
      refine r_goto (pc := 1802) (tgt := 28) cx dL_law_1802 (by decide) ?_
      refine qS.widen (k2 := kc + 24) (n2 := nc + 96) (by first | exact Nat.le_refl _ | exact Nat.le_add_right _ _ | exact Nat.add_le_add_left (by decide) _) (by first | exact Nat.le_refl _ | exact Nat.le_add_right _ _ | exact Nat.add_le_add_left (by decide) _) ?_
      exact qS.sub (qsub_cons rfl (qsub_cons rfl (qsub_cons rfl (qsub_cons rfl (qsub_cons rfl (qsub_cons rfl (qsub_nil _))))))) (hnx _ _)
    · refine r_aload_n (pc := 541) cx dL_law_541 rfl ?_
      refine r_iconst (pc := 542) cx dL_law_542 ?_
      refine r_laload (pc := 543) cx hO rfl (by decide) dL_law_543 ?_
      refine r_iload (pc := 544) cx dL_law_544 rfl ?_
      refine r_i2l (pc := 546) cx dL_law_546 ?_
      refine r_lcmp (pc := 547) cx dL_law_547 ?_
      refine r_if_eq (pc := 548) (tgt := 553) cx dL_law_548 (by decide) ?_ ?_
      · refine r_goto (pc := 553) (tgt := 1799) cx dL_law_553 (by decide) ?_
        refine r_iinc (pc := 1799) cx dL_law_1799 rfl (by decide) rfl ?_
        refine r_goto (pc := 1802) (tgt := 28) cx dL_law_1802 (by decide) ?_
        refine qS.widen (k2 := kc + 24) (n2 := nc + 96) (by first | exact Nat.le_refl _ | exact Nat.le_add_right _ _ | exact Nat.add_le_add_left (by decide) _) (by first | exact Nat.le_refl _ | exact Nat.le_add_right _ _ | exact Nat.add_le_add_left (by decide) _) ?_
        exact qS.sub (qsub_cons rfl (qsub_cons rfl (qsub_cons rfl (qsub_cons rfl (qsub_cons rfl (qsub_cons rfl (qsub_nil _))))))) (hnx _ _)
      · exact qS.fail
  · exact qS.fail
def fL_c7 (L : Nat) (xs : Nat → Int32) (nx : Int → qSt → Option Unit) (i : Int) (σ : qSt) : Option Unit :=
  (qif (0 ≤ (i + 1) ∧ (i + 1) < (L : Int)) <| (qif (0 ≤ (i + 2) ∧ (i + 2) < (L : Int)) <| (qif (0 ≤ (i + 3) ∧ (i + 3) < (L : Int)) <| (qbd (fL_bring (qXs xs (i + 1)) (qXs xs (i + 2)) (qXs xs (i + 3)) σ) fun (k2 : Int) (σ1 : qSt) => (qif (0 ≤ (i + 1) ∧ (i + 1) < (L : Int)) <| (qif (0 ≤ (i + 2) ∧ (i + 2) < (L : Int)) <| (qif (0 ≤ (i + 3) ∧ (i + 3) < (L : Int)) <| (qbd (fX6_bring (qXs xs (i + 1)) (qXs xs (i + 2)) (qXs xs (i + 3)) σ1) fun (r3 : Int) (σ4 : qSt) => ((fX6_thrown σ4 ).bind fun (r5 : Int) => if qI r5 = qI k2 then if qI k2 = 0 then (qif (0 ≤ (0 : Int) ∧ (0 : Int) < 1) <| if qI (qlcmp (σ4 64 0) (qi2l r3)) = 0 then nx (i + 7) σ4 else none) else nx (i + 7) σ4 else none)))))))))
set_option maxRecDepth 100000 in
set_option maxHeartbeats 4000000 in
theorem tL_c7 {p : Program} {l : Launch} {e : Env} {s : State} {m : MethodId} {args : Array Value} {below : List Frame} {meth : Method} {c : Code} {z0 : Nat} {g : qG} {w : qWd} {ad am : Nat → Nat} {ao aod b L kc nc : Nat} {xs : Nat → Int32} {Q : Unit → State → Prop} {nx : Int → qSt → Option Unit} (cx : qCx p s m meth c cL_law 9 RL (some .boolean) g z0) (hX : qScr b L xs z0 s) (hB : qBC g ad w) (hM : qBM g am w) (hO : w 64 = some (ao, qAL (g.2 4) 1)) (hD : w 65 = some (aod, qAD (g.2 5) 1)) (h66 : w 66 = none) (h67 : w 67 = none) (h68 : w 68 = none) (hl : l.stackTraces = false) (hk : kc + 24 ≤ 601024 ∧ nc + 96 ≤ 7293034) (hnx : ∀ i σ, qS p l e room_1 s m args below meth c 9 g z0 w (kc + 24) (nc + 96) Q (nx i σ) σ 28 [(0, some (.ref b)), (1, some (.ref (ad 0))), (2, some (.ref (am 47))), (3, some (.ref ao)), (4, some (.ref aod)), (5, some (.int (qI i)))] []) (i : Int) (σ : qSt) : qS p l e room_1 s m args below meth c 9 g z0 w kc nc Q (fL_c7 L xs nx i σ) σ 556 [(0, some (.ref b)), (1, some (.ref (ad 0))), (2, some (.ref (am 47))), (3, some (.ref ao)), (4, some (.ref aod)), (5, some (.int (qI i)))] [] := by
  unfold fL_c7
  refine r_aload_n (pc := 556) cx dL_law_556 rfl ?_
  refine r_aload_n (pc := 557) cx dL_law_557 rfl ?_
  refine r_iload (pc := 558) cx dL_law_558 rfl ?_
  refine r_iconst (pc := 560) cx dL_law_560 ?_
  refine r_iadd (pc := 561) cx dL_law_561 ?_
  refine r_sld (pc := 562) cx hX dL_law_562 ?_
  refine r_aload_n (pc := 563) cx dL_law_563 rfl ?_
  refine r_iload (pc := 564) cx dL_law_564 rfl ?_
  refine r_iconst (pc := 566) cx dL_law_566 ?_
  refine r_iadd (pc := 567) cx dL_law_567 ?_
  refine r_sld (pc := 568) cx hX dL_law_568 ?_
  refine r_aload_n (pc := 569) cx dL_law_569 rfl ?_
  refine r_iload (pc := 570) cx dL_law_570 rfl ?_
  refine r_iconst (pc := 572) cx dL_law_572 ?_
  refine r_iadd (pc := 573) cx dL_law_573 ?_
  refine r_sld (pc := 574) cx hX dL_law_574 ?_
  refine r_aload_n (pc := 575) cx dL_law_575 rfl ?_
  refine r_callSW (pc := 576) cx (tL_bring hB hO hl (qXs xs (i + 1)) (qXs xs (i + 2)) (qXs xs (i + 3)) σ) qmh_L_bring wm_L_125 dL_law_576 rfl rfl (Nat.le_of_ble_eq_true rfl) ⟨Nat.le_of_ble_eq_true rfl, Nat.le_of_ble_eq_true rfl⟩ ⟨by show kc + 1 ≤ 601024; omega, by show nc + 6 ≤ 7293034; omega⟩ (fun k2 σ1 _ => ?_)
  refine r_istore (pc := 579) cx dL_law_579 (by decide) rfl ?_
  refine r_aload_n (pc := 581) cx dL_law_581 rfl ?_
  refine r_aload_n (pc := 582) cx dL_law_582 rfl ?_
  refine r_iload (pc := 583) cx dL_law_583 rfl ?_
  refine r_iconst (pc := 585) cx dL_law_585 ?_
  refine r_iadd (pc := 586) cx dL_law_586 ?_
  refine r_sld (pc := 587) cx hX dL_law_587 ?_
  refine r_aload_n (pc := 588) cx dL_law_588 rfl ?_
  refine r_iload (pc := 589) cx dL_law_589 rfl ?_
  refine r_iconst (pc := 591) cx dL_law_591 ?_
  refine r_iadd (pc := 592) cx dL_law_592 ?_
  refine r_sld (pc := 593) cx hX dL_law_593 ?_
  refine r_aload_n (pc := 594) cx dL_law_594 rfl ?_
  refine r_iload (pc := 595) cx dL_law_595 rfl ?_
  refine r_iconst (pc := 597) cx dL_law_597 ?_
  refine r_iadd (pc := 598) cx dL_law_598 ?_
  refine r_sld (pc := 599) cx hX dL_law_599 ?_
  refine r_dVi (pc := 600) cx (tX6_bring hM (qXs xs (i + 1)) (qXs xs (i + 2)) (qXs xs (i + 3)) σ1) qm_X6_bring qv_X6_bring hcl_X6 (lw47 hM) wm_L_128 dL_law_600 rfl rfl (Nat.le_of_ble_eq_true rfl) ⟨Nat.le_of_ble_eq_true rfl, Nat.le_of_ble_eq_true rfl⟩ ⟨rfl, rfl⟩ ⟨by show kc + 1 ≤ 601024; omega, by show nc + 6 ≤ 7293034; omega⟩ (fun r3 σ4 => ?_)
  refine r_istore (pc := 603) cx dL_law_603 (by decide) rfl ?_
  refine r_aload_n (pc := 605) cx dL_law_605 rfl ?_
  refine r_pVi (pc := 606) cx (tX6_thrown hM  σ4) qm_X6_thrown qv_X6_thrown hcl_X6 (lw47 hM) wm_L_101 dL_law_606 rfl rfl (Nat.le_of_ble_eq_true rfl) ⟨Nat.le_of_ble_eq_true rfl, Nat.le_of_ble_eq_true rfl⟩ ⟨rfl, rfl⟩ ⟨by show kc + 1 ≤ 601024; omega, by show nc + 6 ≤ 7293034; omega⟩ (fun r5 => ?_)
  refine r_iload (pc := 609) cx dL_law_609 rfl ?_
  refine r_icmp_eq (pc := 611) (tgt := 616) cx dL_law_611 (by decide) ?_ ?_
  · refine r_iload (pc := 616) cx dL_law_616 rfl ?_
    refine r_if_ne (pc := 618) (tgt := 633) cx dL_law_618 (by decide) ?_ ?_
    · refine r_goto (pc := 633) (tgt := 1799) cx dL_law_633 (by decide) ?_
      refine r_iinc (pc := 1799) cx dL_law_1799 rfl (by decide) rfl ?_
      refine r_goto (pc := 1802) (tgt := 28) cx dL_law_1802 (by decide) ?_
      refine qS.widen (k2 := kc + 24) (n2 := nc + 96) (by first | exact Nat.le_refl _ | exact Nat.le_add_right _ _ | exact Nat.add_le_add_left (by decide) _) (by first | exact Nat.le_refl _ | exact Nat.le_add_right _ _ | exact Nat.add_le_add_left (by decide) _) ?_
      exact qS.sub (qsub_cons rfl (qsub_cons rfl (qsub_cons rfl (qsub_cons rfl (qsub_cons rfl (qsub_cons rfl (qsub_nil _))))))) (hnx _ _)
    · refine r_aload_n (pc := 621) cx dL_law_621 rfl ?_
      refine r_iconst (pc := 622) cx dL_law_622 ?_
      refine r_laload (pc := 623) cx hO rfl (by decide) dL_law_623 ?_
      refine r_iload (pc := 624) cx dL_law_624 rfl ?_
      refine r_i2l (pc := 626) cx dL_law_626 ?_
      refine r_lcmp (pc := 627) cx dL_law_627 ?_
      refine r_if_eq (pc := 628) (tgt := 633) cx dL_law_628 (by decide) ?_ ?_
      · refine r_goto (pc := 633) (tgt := 1799) cx dL_law_633 (by decide) ?_
        refine r_iinc (pc := 1799) cx dL_law_1799 rfl (by decide) rfl ?_
        refine r_goto (pc := 1802) (tgt := 28) cx dL_law_1802 (by decide) ?_
        refine qS.widen (k2 := kc + 24) (n2 := nc + 96) (by first | exact Nat.le_refl _ | exact Nat.le_add_right _ _ | exact Nat.add_le_add_left (by decide) _) (by first | exact Nat.le_refl _ | exact Nat.le_add_right _ _ | exact Nat.add_le_add_left (by decide) _) ?_
        exact qS.sub (qsub_cons rfl (qsub_cons rfl (qsub_cons rfl (qsub_cons rfl (qsub_cons rfl (qsub_cons rfl (qsub_nil _))))))) (hnx _ _)
      · exact qS.fail
  · exact qS.fail
def fL_c8 (L : Nat) (xs : Nat → Int32) (nx : Int → qSt → Option Unit) (i : Int) (σ : qSt) : Option Unit :=
  (qif (0 ≤ (i + 1) ∧ (i + 1) < (L : Int)) <| (qbd (fL_step (qXs xs (i + 1)) σ) fun (k2 : Int) (σ1 : qSt) => (qif (0 ≤ (i + 1) ∧ (i + 1) < (L : Int)) <| (qbd (fX6_step (qXs xs (i + 1)) σ1) fun (r3 : Int) (σ4 : qSt) => ((fX6_thrown σ4 ).bind fun (r5 : Int) => if qI r5 = qI k2 then if qI k2 = 0 then (qif (0 ≤ (0 : Int) ∧ (0 : Int) < 1) <| if qI (qlcmp (σ4 64 0) (qi2l r3)) = 0 then nx (i + 7) σ4 else none) else nx (i + 7) σ4 else none)))))
set_option maxRecDepth 100000 in
set_option maxHeartbeats 4000000 in
theorem tL_c8 {p : Program} {l : Launch} {e : Env} {s : State} {m : MethodId} {args : Array Value} {below : List Frame} {meth : Method} {c : Code} {z0 : Nat} {g : qG} {w : qWd} {ad am : Nat → Nat} {ao aod b L kc nc : Nat} {xs : Nat → Int32} {Q : Unit → State → Prop} {nx : Int → qSt → Option Unit} (cx : qCx p s m meth c cL_law 9 RL (some .boolean) g z0) (hX : qScr b L xs z0 s) (hB : qBC g ad w) (hM : qBM g am w) (hO : w 64 = some (ao, qAL (g.2 4) 1)) (hD : w 65 = some (aod, qAD (g.2 5) 1)) (h66 : w 66 = none) (h67 : w 67 = none) (h68 : w 68 = none) (hl : l.stackTraces = false) (hk : kc + 24 ≤ 601024 ∧ nc + 96 ≤ 7293034) (hnx : ∀ i σ, qS p l e room_1 s m args below meth c 9 g z0 w (kc + 24) (nc + 96) Q (nx i σ) σ 28 [(0, some (.ref b)), (1, some (.ref (ad 0))), (2, some (.ref (am 47))), (3, some (.ref ao)), (4, some (.ref aod)), (5, some (.int (qI i)))] []) (i : Int) (σ : qSt) : qS p l e room_1 s m args below meth c 9 g z0 w kc nc Q (fL_c8 L xs nx i σ) σ 636 [(0, some (.ref b)), (1, some (.ref (ad 0))), (2, some (.ref (am 47))), (3, some (.ref ao)), (4, some (.ref aod)), (5, some (.int (qI i)))] [] := by
  unfold fL_c8
  refine r_aload_n (pc := 636) cx dL_law_636 rfl ?_
  refine r_aload_n (pc := 637) cx dL_law_637 rfl ?_
  refine r_iload (pc := 638) cx dL_law_638 rfl ?_
  refine r_iconst (pc := 640) cx dL_law_640 ?_
  refine r_iadd (pc := 641) cx dL_law_641 ?_
  refine r_sld (pc := 642) cx hX dL_law_642 ?_
  refine r_aload_n (pc := 643) cx dL_law_643 rfl ?_
  refine r_callSW (pc := 644) cx (tL_step hB hO hl (qXs xs (i + 1)) σ) qmh_L_step wm_L_129 dL_law_644 rfl rfl (Nat.le_of_ble_eq_true rfl) ⟨Nat.le_of_ble_eq_true rfl, Nat.le_of_ble_eq_true rfl⟩ ⟨by show kc + 1 ≤ 601024; omega, by show nc + 6 ≤ 7293034; omega⟩ (fun k2 σ1 _ => ?_)
  refine r_istore (pc := 647) cx dL_law_647 (by decide) rfl ?_
  refine r_aload_n (pc := 649) cx dL_law_649 rfl ?_
  refine r_aload_n (pc := 650) cx dL_law_650 rfl ?_
  refine r_iload (pc := 651) cx dL_law_651 rfl ?_
  refine r_iconst (pc := 653) cx dL_law_653 ?_
  refine r_iadd (pc := 654) cx dL_law_654 ?_
  refine r_sld (pc := 655) cx hX dL_law_655 ?_
  refine r_dVi (pc := 656) cx (tX6_step hM (qXs xs (i + 1)) σ1) qm_X6_step qv_X6_step hcl_X6 (lw47 hM) wm_L_131 dL_law_656 rfl rfl (Nat.le_of_ble_eq_true rfl) ⟨Nat.le_of_ble_eq_true rfl, Nat.le_of_ble_eq_true rfl⟩ ⟨rfl, rfl⟩ ⟨by show kc + 1 ≤ 601024; omega, by show nc + 6 ≤ 7293034; omega⟩ (fun r3 σ4 => ?_)
  refine r_istore (pc := 659) cx dL_law_659 (by decide) rfl ?_
  refine r_aload_n (pc := 661) cx dL_law_661 rfl ?_
  refine r_pVi (pc := 662) cx (tX6_thrown hM  σ4) qm_X6_thrown qv_X6_thrown hcl_X6 (lw47 hM) wm_L_101 dL_law_662 rfl rfl (Nat.le_of_ble_eq_true rfl) ⟨Nat.le_of_ble_eq_true rfl, Nat.le_of_ble_eq_true rfl⟩ ⟨rfl, rfl⟩ ⟨by show kc + 1 ≤ 601024; omega, by show nc + 6 ≤ 7293034; omega⟩ (fun r5 => ?_)
  refine r_iload (pc := 665) cx dL_law_665 rfl ?_
  refine r_icmp_eq (pc := 667) (tgt := 672) cx dL_law_667 (by decide) ?_ ?_
  · refine r_iload (pc := 672) cx dL_law_672 rfl ?_
    refine r_if_ne (pc := 674) (tgt := 689) cx dL_law_674 (by decide) ?_ ?_
    · refine r_goto (pc := 689) (tgt := 1799) cx dL_law_689 (by decide) ?_
      refine r_iinc (pc := 1799) cx dL_law_1799 rfl (by decide) rfl ?_
      refine r_goto (pc := 1802) (tgt := 28) cx dL_law_1802 (by decide) ?_
      refine qS.widen (k2 := kc + 24) (n2 := nc + 96) (by first | exact Nat.le_refl _ | exact Nat.le_add_right _ _ | exact Nat.add_le_add_left (by decide) _) (by first | exact Nat.le_refl _ | exact Nat.le_add_right _ _ | exact Nat.add_le_add_left (by decide) _) ?_
      exact qS.sub (qsub_cons rfl (qsub_cons rfl (qsub_cons rfl (qsub_cons rfl (qsub_cons rfl (qsub_cons rfl (qsub_nil _))))))) (hnx _ _)
    · refine r_aload_n (pc := 677) cx dL_law_677 rfl ?_
      refine r_iconst (pc := 678) cx dL_law_678 ?_
      refine r_laload (pc := 679) cx hO rfl (by decide) dL_law_679 ?_
      refine r_iload (pc := 680) cx dL_law_680 rfl ?_
      refine r_i2l (pc := 682) cx dL_law_682 ?_
      refine r_lcmp (pc := 683) cx dL_law_683 ?_
      refine r_if_eq (pc := 684) (tgt := 689) cx dL_law_684 (by decide) ?_ ?_
      · refine r_goto (pc := 689) (tgt := 1799) cx dL_law_689 (by decide) ?_
        refine r_iinc (pc := 1799) cx dL_law_1799 rfl (by decide) rfl ?_
        refine r_goto (pc := 1802) (tgt := 28) cx dL_law_1802 (by decide) ?_
        refine qS.widen (k2 := kc + 24) (n2 := nc + 96) (by first | exact Nat.le_refl _ | exact Nat.le_add_right _ _ | exact Nat.add_le_add_left (by decide) _) (by first | exact Nat.le_refl _ | exact Nat.le_add_right _ _ | exact Nat.add_le_add_left (by decide) _) ?_
        exact qS.sub (qsub_cons rfl (qsub_cons rfl (qsub_cons rfl (qsub_cons rfl (qsub_cons rfl (qsub_cons rfl (qsub_nil _))))))) (hnx _ _)
      · exact qS.fail
  · exact qS.fail
def fL_c9 (L : Nat) (xs : Nat → Int32) (nx : Int → qSt → Option Unit) (i : Int) (σ : qSt) : Option Unit :=
  (qif (0 ≤ (i + 1) ∧ (i + 1) < (L : Int)) <| (qbd (fL_back (qXs xs (i + 1)) σ) fun (k2 : Int) (σ1 : qSt) => (qif (0 ≤ (i + 1) ∧ (i + 1) < (L : Int)) <| (qbd (fX6_back (qXs xs (i + 1)) σ1) fun (r3 : Int) (σ4 : qSt) => ((fX6_thrown σ4 ).bind fun (r5 : Int) => if qI r5 = qI k2 then if qI k2 = 0 then (qif (0 ≤ (0 : Int) ∧ (0 : Int) < 1) <| if qI (qlcmp (σ4 64 0) (qi2l r3)) = 0 then nx (i + 7) σ4 else none) else nx (i + 7) σ4 else none)))))
set_option maxRecDepth 100000 in
set_option maxHeartbeats 4000000 in
theorem tL_c9 {p : Program} {l : Launch} {e : Env} {s : State} {m : MethodId} {args : Array Value} {below : List Frame} {meth : Method} {c : Code} {z0 : Nat} {g : qG} {w : qWd} {ad am : Nat → Nat} {ao aod b L kc nc : Nat} {xs : Nat → Int32} {Q : Unit → State → Prop} {nx : Int → qSt → Option Unit} (cx : qCx p s m meth c cL_law 9 RL (some .boolean) g z0) (hX : qScr b L xs z0 s) (hB : qBC g ad w) (hM : qBM g am w) (hO : w 64 = some (ao, qAL (g.2 4) 1)) (hD : w 65 = some (aod, qAD (g.2 5) 1)) (h66 : w 66 = none) (h67 : w 67 = none) (h68 : w 68 = none) (hl : l.stackTraces = false) (hk : kc + 24 ≤ 601024 ∧ nc + 96 ≤ 7293034) (hnx : ∀ i σ, qS p l e room_1 s m args below meth c 9 g z0 w (kc + 24) (nc + 96) Q (nx i σ) σ 28 [(0, some (.ref b)), (1, some (.ref (ad 0))), (2, some (.ref (am 47))), (3, some (.ref ao)), (4, some (.ref aod)), (5, some (.int (qI i)))] []) (i : Int) (σ : qSt) : qS p l e room_1 s m args below meth c 9 g z0 w kc nc Q (fL_c9 L xs nx i σ) σ 692 [(0, some (.ref b)), (1, some (.ref (ad 0))), (2, some (.ref (am 47))), (3, some (.ref ao)), (4, some (.ref aod)), (5, some (.int (qI i)))] [] := by
  unfold fL_c9
  refine r_aload_n (pc := 692) cx dL_law_692 rfl ?_
  refine r_aload_n (pc := 693) cx dL_law_693 rfl ?_
  refine r_iload (pc := 694) cx dL_law_694 rfl ?_
  refine r_iconst (pc := 696) cx dL_law_696 ?_
  refine r_iadd (pc := 697) cx dL_law_697 ?_
  refine r_sld (pc := 698) cx hX dL_law_698 ?_
  refine r_aload_n (pc := 699) cx dL_law_699 rfl ?_
  refine r_callSW (pc := 700) cx (tL_back hB hO hl (qXs xs (i + 1)) σ) qmh_L_back wm_L_132 dL_law_700 rfl rfl (Nat.le_of_ble_eq_true rfl) ⟨Nat.le_of_ble_eq_true rfl, Nat.le_of_ble_eq_true rfl⟩ ⟨by show kc + 1 ≤ 601024; omega, by show nc + 6 ≤ 7293034; omega⟩ (fun k2 σ1 _ => ?_)
  refine r_istore (pc := 703) cx dL_law_703 (by decide) rfl ?_
  refine r_aload_n (pc := 705) cx dL_law_705 rfl ?_
  refine r_aload_n (pc := 706) cx dL_law_706 rfl ?_
  refine r_iload (pc := 707) cx dL_law_707 rfl ?_
  refine r_iconst (pc := 709) cx dL_law_709 ?_
  refine r_iadd (pc := 710) cx dL_law_710 ?_
  refine r_sld (pc := 711) cx hX dL_law_711 ?_
  refine r_dVi (pc := 712) cx (tX6_back hM (qXs xs (i + 1)) σ1) qm_X6_back qv_X6_back hcl_X6 (lw47 hM) wm_L_134 dL_law_712 rfl rfl (Nat.le_of_ble_eq_true rfl) ⟨Nat.le_of_ble_eq_true rfl, Nat.le_of_ble_eq_true rfl⟩ ⟨rfl, rfl⟩ ⟨by show kc + 1 ≤ 601024; omega, by show nc + 6 ≤ 7293034; omega⟩ (fun r3 σ4 => ?_)
  refine r_istore (pc := 715) cx dL_law_715 (by decide) rfl ?_
  refine r_aload_n (pc := 717) cx dL_law_717 rfl ?_
  refine r_pVi (pc := 718) cx (tX6_thrown hM  σ4) qm_X6_thrown qv_X6_thrown hcl_X6 (lw47 hM) wm_L_101 dL_law_718 rfl rfl (Nat.le_of_ble_eq_true rfl) ⟨Nat.le_of_ble_eq_true rfl, Nat.le_of_ble_eq_true rfl⟩ ⟨rfl, rfl⟩ ⟨by show kc + 1 ≤ 601024; omega, by show nc + 6 ≤ 7293034; omega⟩ (fun r5 => ?_)
  refine r_iload (pc := 721) cx dL_law_721 rfl ?_
  refine r_icmp_eq (pc := 723) (tgt := 728) cx dL_law_723 (by decide) ?_ ?_
  · refine r_iload (pc := 728) cx dL_law_728 rfl ?_
    refine r_if_ne (pc := 730) (tgt := 745) cx dL_law_730 (by decide) ?_ ?_
    · refine r_goto (pc := 745) (tgt := 1799) cx dL_law_745 (by decide) ?_
      refine r_iinc (pc := 1799) cx dL_law_1799 rfl (by decide) rfl ?_
      refine r_goto (pc := 1802) (tgt := 28) cx dL_law_1802 (by decide) ?_
      refine qS.widen (k2 := kc + 24) (n2 := nc + 96) (by first | exact Nat.le_refl _ | exact Nat.le_add_right _ _ | exact Nat.add_le_add_left (by decide) _) (by first | exact Nat.le_refl _ | exact Nat.le_add_right _ _ | exact Nat.add_le_add_left (by decide) _) ?_
      exact qS.sub (qsub_cons rfl (qsub_cons rfl (qsub_cons rfl (qsub_cons rfl (qsub_cons rfl (qsub_cons rfl (qsub_nil _))))))) (hnx _ _)
    · refine r_aload_n (pc := 733) cx dL_law_733 rfl ?_
      refine r_iconst (pc := 734) cx dL_law_734 ?_
      refine r_laload (pc := 735) cx hO rfl (by decide) dL_law_735 ?_
      refine r_iload (pc := 736) cx dL_law_736 rfl ?_
      refine r_i2l (pc := 738) cx dL_law_738 ?_
      refine r_lcmp (pc := 739) cx dL_law_739 ?_
      refine r_if_eq (pc := 740) (tgt := 745) cx dL_law_740 (by decide) ?_ ?_
      · refine r_goto (pc := 745) (tgt := 1799) cx dL_law_745 (by decide) ?_
        refine r_iinc (pc := 1799) cx dL_law_1799 rfl (by decide) rfl ?_
        refine r_goto (pc := 1802) (tgt := 28) cx dL_law_1802 (by decide) ?_
        refine qS.widen (k2 := kc + 24) (n2 := nc + 96) (by first | exact Nat.le_refl _ | exact Nat.le_add_right _ _ | exact Nat.add_le_add_left (by decide) _) (by first | exact Nat.le_refl _ | exact Nat.le_add_right _ _ | exact Nat.add_le_add_left (by decide) _) ?_
        exact qS.sub (qsub_cons rfl (qsub_cons rfl (qsub_cons rfl (qsub_cons rfl (qsub_cons rfl (qsub_cons rfl (qsub_nil _))))))) (hnx _ _)
      · exact qS.fail
  · exact qS.fail
def fL_c10 (L : Nat) (xs : Nat → Int32) (nx : Int → qSt → Option Unit) (i : Int) (σ : qSt) : Option Unit :=
  (qif (0 ≤ (i + 1) ∧ (i + 1) < (L : Int)) <| (qbd (fL_flow (qXs xs (i + 1)) σ) fun (k2 : Int) (σ1 : qSt) => (qif (0 ≤ (i + 1) ∧ (i + 1) < (L : Int)) <| (qbd (fX6_flow (qXs xs (i + 1)) σ1) fun (r3 : Int) (σ4 : qSt) => ((fX6_thrown σ4 ).bind fun (r5 : Int) => if qI r5 = qI k2 then if qI k2 = 0 then (qif (0 ≤ (0 : Int) ∧ (0 : Int) < 1) <| if qI (qlcmp (σ4 64 0) r3) = 0 then nx (i + 7) σ4 else none) else nx (i + 7) σ4 else none)))))
set_option maxRecDepth 100000 in
set_option maxHeartbeats 4000000 in
theorem tL_c10 {p : Program} {l : Launch} {e : Env} {s : State} {m : MethodId} {args : Array Value} {below : List Frame} {meth : Method} {c : Code} {z0 : Nat} {g : qG} {w : qWd} {ad am : Nat → Nat} {ao aod b L kc nc : Nat} {xs : Nat → Int32} {Q : Unit → State → Prop} {nx : Int → qSt → Option Unit} (cx : qCx p s m meth c cL_law 9 RL (some .boolean) g z0) (hX : qScr b L xs z0 s) (hB : qBC g ad w) (hM : qBM g am w) (hO : w 64 = some (ao, qAL (g.2 4) 1)) (hD : w 65 = some (aod, qAD (g.2 5) 1)) (h66 : w 66 = none) (h67 : w 67 = none) (h68 : w 68 = none) (hl : l.stackTraces = false) (hk : kc + 24 ≤ 601024 ∧ nc + 96 ≤ 7293034) (hnx : ∀ i σ, qS p l e room_1 s m args below meth c 9 g z0 w (kc + 24) (nc + 96) Q (nx i σ) σ 28 [(0, some (.ref b)), (1, some (.ref (ad 0))), (2, some (.ref (am 47))), (3, some (.ref ao)), (4, some (.ref aod)), (5, some (.int (qI i)))] []) (i : Int) (σ : qSt) : qS p l e room_1 s m args below meth c 9 g z0 w kc nc Q (fL_c10 L xs nx i σ) σ 748 [(0, some (.ref b)), (1, some (.ref (ad 0))), (2, some (.ref (am 47))), (3, some (.ref ao)), (4, some (.ref aod)), (5, some (.int (qI i)))] [] := by
  unfold fL_c10
  refine r_aload_n (pc := 748) cx dL_law_748 rfl ?_
  refine r_aload_n (pc := 749) cx dL_law_749 rfl ?_
  refine r_iload (pc := 750) cx dL_law_750 rfl ?_
  refine r_iconst (pc := 752) cx dL_law_752 ?_
  refine r_iadd (pc := 753) cx dL_law_753 ?_
  refine r_sld (pc := 754) cx hX dL_law_754 ?_
  refine r_aload_n (pc := 755) cx dL_law_755 rfl ?_
  refine r_callSW (pc := 756) cx (tL_flow hB hO hl (qXs xs (i + 1)) σ) qmh_L_flow wm_L_135 dL_law_756 rfl rfl (Nat.le_of_ble_eq_true rfl) ⟨Nat.le_of_ble_eq_true rfl, Nat.le_of_ble_eq_true rfl⟩ ⟨by show kc + 1 ≤ 601024; omega, by show nc + 6 ≤ 7293034; omega⟩ (fun k2 σ1 _ => ?_)
  refine r_istore (pc := 759) cx dL_law_759 (by decide) rfl ?_
  refine r_aload_n (pc := 761) cx dL_law_761 rfl ?_
  refine r_aload_n (pc := 762) cx dL_law_762 rfl ?_
  refine r_iload (pc := 763) cx dL_law_763 rfl ?_
  refine r_iconst (pc := 765) cx dL_law_765 ?_
  refine r_iadd (pc := 766) cx dL_law_766 ?_
  refine r_sld (pc := 767) cx hX dL_law_767 ?_
  refine r_dVj (pc := 768) cx (tX6_flow hM (qXs xs (i + 1)) σ1) qm_X6_flow qv_X6_flow hcl_X6 (lw47 hM) wm_L_137 dL_law_768 rfl rfl (Nat.le_of_ble_eq_true rfl) ⟨Nat.le_of_ble_eq_true rfl, Nat.le_of_ble_eq_true rfl⟩ ⟨rfl, rfl⟩ ⟨by show kc + 1 ≤ 601024; omega, by show nc + 6 ≤ 7293034; omega⟩ (fun r3 σ4 => ?_)
  refine r_lstore (pc := 771) cx dL_law_771 (by decide) rfl ?_
  refine r_aload_n (pc := 773) cx dL_law_773 rfl ?_
  refine r_pVi (pc := 774) cx (tX6_thrown hM  σ4) qm_X6_thrown qv_X6_thrown hcl_X6 (lw47 hM) wm_L_101 dL_law_774 rfl rfl (Nat.le_of_ble_eq_true rfl) ⟨Nat.le_of_ble_eq_true rfl, Nat.le_of_ble_eq_true rfl⟩ ⟨rfl, rfl⟩ ⟨by show kc + 1 ≤ 601024; omega, by show nc + 6 ≤ 7293034; omega⟩ (fun r5 => ?_)
  refine r_iload (pc := 777) cx dL_law_777 rfl ?_
  refine r_icmp_eq (pc := 779) (tgt := 784) cx dL_law_779 (by decide) ?_ ?_
  · refine r_iload (pc := 784) cx dL_law_784 rfl ?_
    refine r_if_ne (pc := 786) (tgt := 800) cx dL_law_786 (by decide) ?_ ?_
    · refine r_goto (pc := 800) (tgt := 1799) cx dL_law_800 (by decide) ?_
      refine r_iinc (pc := 1799) cx dL_law_1799 rfl (by decide) rfl ?_
      refine r_goto (pc := 1802) (tgt := 28) cx dL_law_1802 (by decide) ?_
      refine qS.widen (k2 := kc + 24) (n2 := nc + 96) (by first | exact Nat.le_refl _ | exact Nat.le_add_right _ _ | exact Nat.add_le_add_left (by decide) _) (by first | exact Nat.le_refl _ | exact Nat.le_add_right _ _ | exact Nat.add_le_add_left (by decide) _) ?_
      exact qS.sub (qsub_cons rfl (qsub_cons rfl (qsub_cons rfl (qsub_cons rfl (qsub_cons rfl (qsub_cons rfl (qsub_nil _))))))) (hnx _ _)
    · refine r_aload_n (pc := 789) cx dL_law_789 rfl ?_
      refine r_iconst (pc := 790) cx dL_law_790 ?_
      refine r_laload (pc := 791) cx hO rfl (by decide) dL_law_791 ?_
      refine r_lload (pc := 792) cx dL_law_792 rfl ?_
      refine r_lcmp (pc := 794) cx dL_law_794 ?_
      refine r_if_eq (pc := 795) (tgt := 800) cx dL_law_795 (by decide) ?_ ?_
      · refine r_goto (pc := 800) (tgt := 1799) cx dL_law_800 (by decide) ?_
        refine r_iinc (pc := 1799) cx dL_law_1799 rfl (by decide) rfl ?_
        refine r_goto (pc := 1802) (tgt := 28) cx dL_law_1802 (by decide) ?_
        refine qS.widen (k2 := kc + 24) (n2 := nc + 96) (by first | exact Nat.le_refl _ | exact Nat.le_add_right _ _ | exact Nat.add_le_add_left (by decide) _) (by first | exact Nat.le_refl _ | exact Nat.le_add_right _ _ | exact Nat.add_le_add_left (by decide) _) ?_
        exact qS.sub (qsub_cons rfl (qsub_cons rfl (qsub_cons rfl (qsub_cons rfl (qsub_cons rfl (qsub_cons rfl (qsub_nil _))))))) (hnx _ _)
      · exact qS.fail
  · exact qS.fail
def fL_c11 (L : Nat) (xs : Nat → Int32) (nx : Int → qSt → Option Unit) (i : Int) (σ : qSt) : Option Unit :=
  (qif (0 ≤ (i + 1) ∧ (i + 1) < (L : Int)) <| (qif (0 ≤ (i + 2) ∧ (i + 2) < (L : Int)) <| (qbd (fL_cellOf (qXs xs (i + 1)) (qXs xs (i + 2)) σ) fun (k2 : Int) (σ1 : qSt) => (qif (0 ≤ (i + 1) ∧ (i + 1) < (L : Int)) <| (qif (0 ≤ (i + 2) ∧ (i + 2) < (L : Int)) <| (qbd (fX6_cellOf (qXs xs (i + 1)) (qXs xs (i + 2)) σ1) fun (r3 : Int) (σ4 : qSt) => ((fX6_thrown σ4 ).bind fun (r5 : Int) => if qI r5 = qI k2 then if qI k2 = 0 then (qif (0 ≤ (0 : Int) ∧ (0 : Int) < 1) <| if qI (qlcmp (σ4 64 0) (qi2l r3)) = 0 then nx (i + 7) σ4 else none) else nx (i + 7) σ4 else none)))))))
set_option maxRecDepth 100000 in
set_option maxHeartbeats 4000000 in
theorem tL_c11 {p : Program} {l : Launch} {e : Env} {s : State} {m : MethodId} {args : Array Value} {below : List Frame} {meth : Method} {c : Code} {z0 : Nat} {g : qG} {w : qWd} {ad am : Nat → Nat} {ao aod b L kc nc : Nat} {xs : Nat → Int32} {Q : Unit → State → Prop} {nx : Int → qSt → Option Unit} (cx : qCx p s m meth c cL_law 9 RL (some .boolean) g z0) (hX : qScr b L xs z0 s) (hB : qBC g ad w) (hM : qBM g am w) (hO : w 64 = some (ao, qAL (g.2 4) 1)) (hD : w 65 = some (aod, qAD (g.2 5) 1)) (h66 : w 66 = none) (h67 : w 67 = none) (h68 : w 68 = none) (hl : l.stackTraces = false) (hk : kc + 24 ≤ 601024 ∧ nc + 96 ≤ 7293034) (hnx : ∀ i σ, qS p l e room_1 s m args below meth c 9 g z0 w (kc + 24) (nc + 96) Q (nx i σ) σ 28 [(0, some (.ref b)), (1, some (.ref (ad 0))), (2, some (.ref (am 47))), (3, some (.ref ao)), (4, some (.ref aod)), (5, some (.int (qI i)))] []) (i : Int) (σ : qSt) : qS p l e room_1 s m args below meth c 9 g z0 w kc nc Q (fL_c11 L xs nx i σ) σ 803 [(0, some (.ref b)), (1, some (.ref (ad 0))), (2, some (.ref (am 47))), (3, some (.ref ao)), (4, some (.ref aod)), (5, some (.int (qI i)))] [] := by
  unfold fL_c11
  refine r_aload_n (pc := 803) cx dL_law_803 rfl ?_
  refine r_aload_n (pc := 804) cx dL_law_804 rfl ?_
  refine r_iload (pc := 805) cx dL_law_805 rfl ?_
  refine r_iconst (pc := 807) cx dL_law_807 ?_
  refine r_iadd (pc := 808) cx dL_law_808 ?_
  refine r_sld (pc := 809) cx hX dL_law_809 ?_
  refine r_aload_n (pc := 810) cx dL_law_810 rfl ?_
  refine r_iload (pc := 811) cx dL_law_811 rfl ?_
  refine r_iconst (pc := 813) cx dL_law_813 ?_
  refine r_iadd (pc := 814) cx dL_law_814 ?_
  refine r_sld (pc := 815) cx hX dL_law_815 ?_
  refine r_aload_n (pc := 816) cx dL_law_816 rfl ?_
  refine r_callSW (pc := 817) cx (tL_cellOf hB hO hl (qXs xs (i + 1)) (qXs xs (i + 2)) σ) qmh_L_cellOf wm_L_138 dL_law_817 rfl rfl (Nat.le_of_ble_eq_true rfl) ⟨Nat.le_of_ble_eq_true rfl, Nat.le_of_ble_eq_true rfl⟩ ⟨by show kc + 1 ≤ 601024; omega, by show nc + 6 ≤ 7293034; omega⟩ (fun k2 σ1 _ => ?_)
  refine r_istore (pc := 820) cx dL_law_820 (by decide) rfl ?_
  refine r_aload_n (pc := 822) cx dL_law_822 rfl ?_
  refine r_aload_n (pc := 823) cx dL_law_823 rfl ?_
  refine r_iload (pc := 824) cx dL_law_824 rfl ?_
  refine r_iconst (pc := 826) cx dL_law_826 ?_
  refine r_iadd (pc := 827) cx dL_law_827 ?_
  refine r_sld (pc := 828) cx hX dL_law_828 ?_
  refine r_aload_n (pc := 829) cx dL_law_829 rfl ?_
  refine r_iload (pc := 830) cx dL_law_830 rfl ?_
  refine r_iconst (pc := 832) cx dL_law_832 ?_
  refine r_iadd (pc := 833) cx dL_law_833 ?_
  refine r_sld (pc := 834) cx hX dL_law_834 ?_
  refine r_dVi (pc := 835) cx (tX6_cellOf hM (qXs xs (i + 1)) (qXs xs (i + 2)) σ1) qm_X6_cellOf qv_X6_cellOf hcl_X6 (lw47 hM) wm_L_140 dL_law_835 rfl rfl (Nat.le_of_ble_eq_true rfl) ⟨Nat.le_of_ble_eq_true rfl, Nat.le_of_ble_eq_true rfl⟩ ⟨rfl, rfl⟩ ⟨by show kc + 1 ≤ 601024; omega, by show nc + 6 ≤ 7293034; omega⟩ (fun r3 σ4 => ?_)
  refine r_istore (pc := 838) cx dL_law_838 (by decide) rfl ?_
  refine r_aload_n (pc := 840) cx dL_law_840 rfl ?_
  refine r_pVi (pc := 841) cx (tX6_thrown hM  σ4) qm_X6_thrown qv_X6_thrown hcl_X6 (lw47 hM) wm_L_101 dL_law_841 rfl rfl (Nat.le_of_ble_eq_true rfl) ⟨Nat.le_of_ble_eq_true rfl, Nat.le_of_ble_eq_true rfl⟩ ⟨rfl, rfl⟩ ⟨by show kc + 1 ≤ 601024; omega, by show nc + 6 ≤ 7293034; omega⟩ (fun r5 => ?_)
  refine r_iload (pc := 844) cx dL_law_844 rfl ?_
  refine r_icmp_eq (pc := 846) (tgt := 851) cx dL_law_846 (by decide) ?_ ?_
  · refine r_iload (pc := 851) cx dL_law_851 rfl ?_
    refine r_if_ne (pc := 853) (tgt := 868) cx dL_law_853 (by decide) ?_ ?_
    · refine r_goto (pc := 868) (tgt := 1799) cx dL_law_868 (by decide) ?_
      refine r_iinc (pc := 1799) cx dL_law_1799 rfl (by decide) rfl ?_
      refine r_goto (pc := 1802) (tgt := 28) cx dL_law_1802 (by decide) ?_
      refine qS.widen (k2 := kc + 24) (n2 := nc + 96) (by first | exact Nat.le_refl _ | exact Nat.le_add_right _ _ | exact Nat.add_le_add_left (by decide) _) (by first | exact Nat.le_refl _ | exact Nat.le_add_right _ _ | exact Nat.add_le_add_left (by decide) _) ?_
      exact qS.sub (qsub_cons rfl (qsub_cons rfl (qsub_cons rfl (qsub_cons rfl (qsub_cons rfl (qsub_cons rfl (qsub_nil _))))))) (hnx _ _)
    · refine r_aload_n (pc := 856) cx dL_law_856 rfl ?_
      refine r_iconst (pc := 857) cx dL_law_857 ?_
      refine r_laload (pc := 858) cx hO rfl (by decide) dL_law_858 ?_
      refine r_iload (pc := 859) cx dL_law_859 rfl ?_
      refine r_i2l (pc := 861) cx dL_law_861 ?_
      refine r_lcmp (pc := 862) cx dL_law_862 ?_
      refine r_if_eq (pc := 863) (tgt := 868) cx dL_law_863 (by decide) ?_ ?_
      · refine r_goto (pc := 868) (tgt := 1799) cx dL_law_868 (by decide) ?_
        refine r_iinc (pc := 1799) cx dL_law_1799 rfl (by decide) rfl ?_
        refine r_goto (pc := 1802) (tgt := 28) cx dL_law_1802 (by decide) ?_
        refine qS.widen (k2 := kc + 24) (n2 := nc + 96) (by first | exact Nat.le_refl _ | exact Nat.le_add_right _ _ | exact Nat.add_le_add_left (by decide) _) (by first | exact Nat.le_refl _ | exact Nat.le_add_right _ _ | exact Nat.add_le_add_left (by decide) _) ?_
        exact qS.sub (qsub_cons rfl (qsub_cons rfl (qsub_cons rfl (qsub_cons rfl (qsub_cons rfl (qsub_cons rfl (qsub_nil _))))))) (hnx _ _)
      · exact qS.fail
  · exact qS.fail
def fL_c12 (L : Nat) (xs : Nat → Int32) (nx : Int → qSt → Option Unit) (i : Int) (σ : qSt) : Option Unit :=
  (qif (0 ≤ (i + 1) ∧ (i + 1) < (L : Int)) <| (qif (0 ≤ (i + 2) ∧ (i + 2) < (L : Int)) <| (qbd (fL_bodyOf (qXs xs (i + 1)) (qXs xs (i + 2)) σ) fun (k2 : Int) (σ1 : qSt) => (qif (0 ≤ (i + 1) ∧ (i + 1) < (L : Int)) <| (qif (0 ≤ (i + 2) ∧ (i + 2) < (L : Int)) <| (qbd (fX6_bodyOf (qXs xs (i + 1)) (qXs xs (i + 2)) σ1) fun (r3 : Int) (σ4 : qSt) => ((fX6_thrown σ4 ).bind fun (r5 : Int) => if qI r5 = qI k2 then if qI k2 = 0 then (qif (0 ≤ (0 : Int) ∧ (0 : Int) < 1) <| if qI (qlcmp (σ4 64 0) (qi2l r3)) = 0 then nx (i + 7) σ4 else none) else nx (i + 7) σ4 else none)))))))
set_option maxRecDepth 100000 in
set_option maxHeartbeats 4000000 in
theorem tL_c12 {p : Program} {l : Launch} {e : Env} {s : State} {m : MethodId} {args : Array Value} {below : List Frame} {meth : Method} {c : Code} {z0 : Nat} {g : qG} {w : qWd} {ad am : Nat → Nat} {ao aod b L kc nc : Nat} {xs : Nat → Int32} {Q : Unit → State → Prop} {nx : Int → qSt → Option Unit} (cx : qCx p s m meth c cL_law 9 RL (some .boolean) g z0) (hX : qScr b L xs z0 s) (hB : qBC g ad w) (hM : qBM g am w) (hO : w 64 = some (ao, qAL (g.2 4) 1)) (hD : w 65 = some (aod, qAD (g.2 5) 1)) (h66 : w 66 = none) (h67 : w 67 = none) (h68 : w 68 = none) (hl : l.stackTraces = false) (hk : kc + 24 ≤ 601024 ∧ nc + 96 ≤ 7293034) (hnx : ∀ i σ, qS p l e room_1 s m args below meth c 9 g z0 w (kc + 24) (nc + 96) Q (nx i σ) σ 28 [(0, some (.ref b)), (1, some (.ref (ad 0))), (2, some (.ref (am 47))), (3, some (.ref ao)), (4, some (.ref aod)), (5, some (.int (qI i)))] []) (i : Int) (σ : qSt) : qS p l e room_1 s m args below meth c 9 g z0 w kc nc Q (fL_c12 L xs nx i σ) σ 871 [(0, some (.ref b)), (1, some (.ref (ad 0))), (2, some (.ref (am 47))), (3, some (.ref ao)), (4, some (.ref aod)), (5, some (.int (qI i)))] [] := by
  unfold fL_c12
  refine r_aload_n (pc := 871) cx dL_law_871 rfl ?_
  refine r_aload_n (pc := 872) cx dL_law_872 rfl ?_
  refine r_iload (pc := 873) cx dL_law_873 rfl ?_
  refine r_iconst (pc := 875) cx dL_law_875 ?_
  refine r_iadd (pc := 876) cx dL_law_876 ?_
  refine r_sld (pc := 877) cx hX dL_law_877 ?_
  refine r_aload_n (pc := 878) cx dL_law_878 rfl ?_
  refine r_iload (pc := 879) cx dL_law_879 rfl ?_
  refine r_iconst (pc := 881) cx dL_law_881 ?_
  refine r_iadd (pc := 882) cx dL_law_882 ?_
  refine r_sld (pc := 883) cx hX dL_law_883 ?_
  refine r_aload_n (pc := 884) cx dL_law_884 rfl ?_
  refine r_callSW (pc := 885) cx (tL_bodyOf hB hO hl (qXs xs (i + 1)) (qXs xs (i + 2)) σ) qmh_L_bodyOf wm_L_141 dL_law_885 rfl rfl (Nat.le_of_ble_eq_true rfl) ⟨Nat.le_of_ble_eq_true rfl, Nat.le_of_ble_eq_true rfl⟩ ⟨by show kc + 1 ≤ 601024; omega, by show nc + 6 ≤ 7293034; omega⟩ (fun k2 σ1 _ => ?_)
  refine r_istore (pc := 888) cx dL_law_888 (by decide) rfl ?_
  refine r_aload_n (pc := 890) cx dL_law_890 rfl ?_
  refine r_aload_n (pc := 891) cx dL_law_891 rfl ?_
  refine r_iload (pc := 892) cx dL_law_892 rfl ?_
  refine r_iconst (pc := 894) cx dL_law_894 ?_
  refine r_iadd (pc := 895) cx dL_law_895 ?_
  refine r_sld (pc := 896) cx hX dL_law_896 ?_
  refine r_aload_n (pc := 897) cx dL_law_897 rfl ?_
  refine r_iload (pc := 898) cx dL_law_898 rfl ?_
  refine r_iconst (pc := 900) cx dL_law_900 ?_
  refine r_iadd (pc := 901) cx dL_law_901 ?_
  refine r_sld (pc := 902) cx hX dL_law_902 ?_
  refine r_dVi (pc := 903) cx (tX6_bodyOf hM (qXs xs (i + 1)) (qXs xs (i + 2)) σ1) qm_X6_bodyOf qv_X6_bodyOf hcl_X6 (lw47 hM) wm_L_143 dL_law_903 rfl rfl (Nat.le_of_ble_eq_true rfl) ⟨Nat.le_of_ble_eq_true rfl, Nat.le_of_ble_eq_true rfl⟩ ⟨rfl, rfl⟩ ⟨by show kc + 1 ≤ 601024; omega, by show nc + 6 ≤ 7293034; omega⟩ (fun r3 σ4 => ?_)
  refine r_istore (pc := 906) cx dL_law_906 (by decide) rfl ?_
  refine r_aload_n (pc := 908) cx dL_law_908 rfl ?_
  refine r_pVi (pc := 909) cx (tX6_thrown hM  σ4) qm_X6_thrown qv_X6_thrown hcl_X6 (lw47 hM) wm_L_101 dL_law_909 rfl rfl (Nat.le_of_ble_eq_true rfl) ⟨Nat.le_of_ble_eq_true rfl, Nat.le_of_ble_eq_true rfl⟩ ⟨rfl, rfl⟩ ⟨by show kc + 1 ≤ 601024; omega, by show nc + 6 ≤ 7293034; omega⟩ (fun r5 => ?_)
  refine r_iload (pc := 912) cx dL_law_912 rfl ?_
  refine r_icmp_eq (pc := 914) (tgt := 919) cx dL_law_914 (by decide) ?_ ?_
  · refine r_iload (pc := 919) cx dL_law_919 rfl ?_
    refine r_if_ne (pc := 921) (tgt := 936) cx dL_law_921 (by decide) ?_ ?_
    · refine r_goto (pc := 936) (tgt := 1799) cx dL_law_936 (by decide) ?_
      refine r_iinc (pc := 1799) cx dL_law_1799 rfl (by decide) rfl ?_
      refine r_goto (pc := 1802) (tgt := 28) cx dL_law_1802 (by decide) ?_
      refine qS.widen (k2 := kc + 24) (n2 := nc + 96) (by first | exact Nat.le_refl _ | exact Nat.le_add_right _ _ | exact Nat.add_le_add_left (by decide) _) (by first | exact Nat.le_refl _ | exact Nat.le_add_right _ _ | exact Nat.add_le_add_left (by decide) _) ?_
      exact qS.sub (qsub_cons rfl (qsub_cons rfl (qsub_cons rfl (qsub_cons rfl (qsub_cons rfl (qsub_cons rfl (qsub_nil _))))))) (hnx _ _)
    · refine r_aload_n (pc := 924) cx dL_law_924 rfl ?_
      refine r_iconst (pc := 925) cx dL_law_925 ?_
      refine r_laload (pc := 926) cx hO rfl (by decide) dL_law_926 ?_
      refine r_iload (pc := 927) cx dL_law_927 rfl ?_
      refine r_i2l (pc := 929) cx dL_law_929 ?_
      refine r_lcmp (pc := 930) cx dL_law_930 ?_
      refine r_if_eq (pc := 931) (tgt := 936) cx dL_law_931 (by decide) ?_ ?_
      · refine r_goto (pc := 936) (tgt := 1799) cx dL_law_936 (by decide) ?_
        refine r_iinc (pc := 1799) cx dL_law_1799 rfl (by decide) rfl ?_
        refine r_goto (pc := 1802) (tgt := 28) cx dL_law_1802 (by decide) ?_
        refine qS.widen (k2 := kc + 24) (n2 := nc + 96) (by first | exact Nat.le_refl _ | exact Nat.le_add_right _ _ | exact Nat.add_le_add_left (by decide) _) (by first | exact Nat.le_refl _ | exact Nat.le_add_right _ _ | exact Nat.add_le_add_left (by decide) _) ?_
        exact qS.sub (qsub_cons rfl (qsub_cons rfl (qsub_cons rfl (qsub_cons rfl (qsub_cons rfl (qsub_cons rfl (qsub_nil _))))))) (hnx _ _)
      · exact qS.fail
  · exact qS.fail
def fL_c13 (L : Nat) (xs : Nat → Int32) (nx : Int → qSt → Option Unit) (i : Int) (σ : qSt) : Option Unit :=
  (qif (0 ≤ (i + 1) ∧ (i + 1) < (L : Int)) <| (qbd (fL_sum (qXs xs (i + 1)) σ) fun (k2 : Int) (σ1 : qSt) => (qif (0 ≤ (i + 1) ∧ (i + 1) < (L : Int)) <| (qbd (fX6_sum (qXs xs (i + 1)) σ1) fun (r3 : Int) (σ4 : qSt) => ((fX6_thrown σ4 ).bind fun (r5 : Int) => if qI r5 = qI k2 then if qI k2 = 0 then (qif (0 ≤ (0 : Int) ∧ (0 : Int) < 1) <| if qI (qlcmp (σ4 64 0) r3) = 0 then nx (i + 7) σ4 else none) else nx (i + 7) σ4 else none)))))
set_option maxRecDepth 100000 in
set_option maxHeartbeats 4000000 in
theorem tL_c13 {p : Program} {l : Launch} {e : Env} {s : State} {m : MethodId} {args : Array Value} {below : List Frame} {meth : Method} {c : Code} {z0 : Nat} {g : qG} {w : qWd} {ad am : Nat → Nat} {ao aod b L kc nc : Nat} {xs : Nat → Int32} {Q : Unit → State → Prop} {nx : Int → qSt → Option Unit} (cx : qCx p s m meth c cL_law 9 RL (some .boolean) g z0) (hX : qScr b L xs z0 s) (hB : qBC g ad w) (hM : qBM g am w) (hO : w 64 = some (ao, qAL (g.2 4) 1)) (hD : w 65 = some (aod, qAD (g.2 5) 1)) (h66 : w 66 = none) (h67 : w 67 = none) (h68 : w 68 = none) (hl : l.stackTraces = false) (hk : kc + 24 ≤ 601024 ∧ nc + 96 ≤ 7293034) (hnx : ∀ i σ, qS p l e room_1 s m args below meth c 9 g z0 w (kc + 24) (nc + 96) Q (nx i σ) σ 28 [(0, some (.ref b)), (1, some (.ref (ad 0))), (2, some (.ref (am 47))), (3, some (.ref ao)), (4, some (.ref aod)), (5, some (.int (qI i)))] []) (i : Int) (σ : qSt) : qS p l e room_1 s m args below meth c 9 g z0 w kc nc Q (fL_c13 L xs nx i σ) σ 939 [(0, some (.ref b)), (1, some (.ref (ad 0))), (2, some (.ref (am 47))), (3, some (.ref ao)), (4, some (.ref aod)), (5, some (.int (qI i)))] [] := by
  unfold fL_c13
  refine r_aload_n (pc := 939) cx dL_law_939 rfl ?_
  refine r_aload_n (pc := 940) cx dL_law_940 rfl ?_
  refine r_iload (pc := 941) cx dL_law_941 rfl ?_
  refine r_iconst (pc := 943) cx dL_law_943 ?_
  refine r_iadd (pc := 944) cx dL_law_944 ?_
  refine r_sld (pc := 945) cx hX dL_law_945 ?_
  refine r_aload_n (pc := 946) cx dL_law_946 rfl ?_
  refine r_callSW (pc := 947) cx (tL_sum hB hO hl (qXs xs (i + 1)) σ) qmh_L_sum wm_L_144 dL_law_947 rfl rfl (Nat.le_of_ble_eq_true rfl) ⟨Nat.le_of_ble_eq_true rfl, Nat.le_of_ble_eq_true rfl⟩ ⟨by show kc + 1 ≤ 601024; omega, by show nc + 6 ≤ 7293034; omega⟩ (fun k2 σ1 _ => ?_)
  refine r_istore (pc := 950) cx dL_law_950 (by decide) rfl ?_
  refine r_aload_n (pc := 952) cx dL_law_952 rfl ?_
  refine r_aload_n (pc := 953) cx dL_law_953 rfl ?_
  refine r_iload (pc := 954) cx dL_law_954 rfl ?_
  refine r_iconst (pc := 956) cx dL_law_956 ?_
  refine r_iadd (pc := 957) cx dL_law_957 ?_
  refine r_sld (pc := 958) cx hX dL_law_958 ?_
  refine r_dVj (pc := 959) cx (tX6_sum hM (qXs xs (i + 1)) σ1) qm_X6_sum qv_X6_sum hcl_X6 (lw47 hM) wm_L_146 dL_law_959 rfl rfl (Nat.le_of_ble_eq_true rfl) ⟨Nat.le_of_ble_eq_true rfl, Nat.le_of_ble_eq_true rfl⟩ ⟨rfl, rfl⟩ ⟨by show kc + 1 ≤ 601024; omega, by show nc + 6 ≤ 7293034; omega⟩ (fun r3 σ4 => ?_)
  refine r_lstore (pc := 962) cx dL_law_962 (by decide) rfl ?_
  refine r_aload_n (pc := 964) cx dL_law_964 rfl ?_
  refine r_pVi (pc := 965) cx (tX6_thrown hM  σ4) qm_X6_thrown qv_X6_thrown hcl_X6 (lw47 hM) wm_L_101 dL_law_965 rfl rfl (Nat.le_of_ble_eq_true rfl) ⟨Nat.le_of_ble_eq_true rfl, Nat.le_of_ble_eq_true rfl⟩ ⟨rfl, rfl⟩ ⟨by show kc + 1 ≤ 601024; omega, by show nc + 6 ≤ 7293034; omega⟩ (fun r5 => ?_)
  refine r_iload (pc := 968) cx dL_law_968 rfl ?_
  refine r_icmp_eq (pc := 970) (tgt := 975) cx dL_law_970 (by decide) ?_ ?_
  · refine r_iload (pc := 975) cx dL_law_975 rfl ?_
    refine r_if_ne (pc := 977) (tgt := 991) cx dL_law_977 (by decide) ?_ ?_
    · refine r_goto (pc := 991) (tgt := 1799) cx dL_law_991 (by decide) ?_
      refine r_iinc (pc := 1799) cx dL_law_1799 rfl (by decide) rfl ?_
      refine r_goto (pc := 1802) (tgt := 28) cx dL_law_1802 (by decide) ?_
      refine qS.widen (k2 := kc + 24) (n2 := nc + 96) (by first | exact Nat.le_refl _ | exact Nat.le_add_right _ _ | exact Nat.add_le_add_left (by decide) _) (by first | exact Nat.le_refl _ | exact Nat.le_add_right _ _ | exact Nat.add_le_add_left (by decide) _) ?_
      exact qS.sub (qsub_cons rfl (qsub_cons rfl (qsub_cons rfl (qsub_cons rfl (qsub_cons rfl (qsub_cons rfl (qsub_nil _))))))) (hnx _ _)
    · refine r_aload_n (pc := 980) cx dL_law_980 rfl ?_
      refine r_iconst (pc := 981) cx dL_law_981 ?_
      refine r_laload (pc := 982) cx hO rfl (by decide) dL_law_982 ?_
      refine r_lload (pc := 983) cx dL_law_983 rfl ?_
      refine r_lcmp (pc := 985) cx dL_law_985 ?_
      refine r_if_eq (pc := 986) (tgt := 991) cx dL_law_986 (by decide) ?_ ?_
      · refine r_goto (pc := 991) (tgt := 1799) cx dL_law_991 (by decide) ?_
        refine r_iinc (pc := 1799) cx dL_law_1799 rfl (by decide) rfl ?_
        refine r_goto (pc := 1802) (tgt := 28) cx dL_law_1802 (by decide) ?_
        refine qS.widen (k2 := kc + 24) (n2 := nc + 96) (by first | exact Nat.le_refl _ | exact Nat.le_add_right _ _ | exact Nat.add_le_add_left (by decide) _) (by first | exact Nat.le_refl _ | exact Nat.le_add_right _ _ | exact Nat.add_le_add_left (by decide) _) ?_
        exact qS.sub (qsub_cons rfl (qsub_cons rfl (qsub_cons rfl (qsub_cons rfl (qsub_cons rfl (qsub_cons rfl (qsub_nil _))))))) (hnx _ _)
      · exact qS.fail
  · exact qS.fail
def fL_c14 (L : Nat) (xs : Nat → Int32) (nx : Int → qSt → Option Unit) (i : Int) (σ : qSt) : Option Unit :=
  (qif (0 ≤ (i + 1) ∧ (i + 1) < (L : Int)) <| if qI (qXs xs (i + 1)) = 0 then ((fX5_left σ 0).bind fun (r6 : Int) => (qif (0 ≤ (i + 1) ∧ (i + 1) < (L : Int)) <| if qI (qXs xs (i + 1)) = 0 then (qbd (fX6_left 0 σ) fun (r9 : Int) (σ10 : qSt) => if qI (qlcmp r6 r9) = 0 then nx (i + 7) σ10 else none) else (qbd (fX6_left 1 σ) fun (r7 : Int) (σ8 : qSt) => if qI (qlcmp r6 r7) = 0 then nx (i + 7) σ8 else none))) else ((fX5_left σ 1).bind fun (r1 : Int) => (qif (0 ≤ (i + 1) ∧ (i + 1) < (L : Int)) <| if qI (qXs xs (i + 1)) = 0 then (qbd (fX6_left 0 σ) fun (r4 : Int) (σ5 : qSt) => if qI (qlcmp r1 r4) = 0 then nx (i + 7) σ5 else none) else (qbd (fX6_left 1 σ) fun (r2 : Int) (σ3 : qSt) => if qI (qlcmp r1 r2) = 0 then nx (i + 7) σ3 else none))))
set_option maxRecDepth 100000 in
set_option maxHeartbeats 4000000 in
theorem tL_c14 {p : Program} {l : Launch} {e : Env} {s : State} {m : MethodId} {args : Array Value} {below : List Frame} {meth : Method} {c : Code} {z0 : Nat} {g : qG} {w : qWd} {ad am : Nat → Nat} {ao aod b L kc nc : Nat} {xs : Nat → Int32} {Q : Unit → State → Prop} {nx : Int → qSt → Option Unit} (cx : qCx p s m meth c cL_law 9 RL (some .boolean) g z0) (hX : qScr b L xs z0 s) (hB : qBC g ad w) (hM : qBM g am w) (hO : w 64 = some (ao, qAL (g.2 4) 1)) (hD : w 65 = some (aod, qAD (g.2 5) 1)) (h66 : w 66 = none) (h67 : w 67 = none) (h68 : w 68 = none) (hl : l.stackTraces = false) (hk : kc + 24 ≤ 601024 ∧ nc + 96 ≤ 7293034) (hnx : ∀ i σ, qS p l e room_1 s m args below meth c 9 g z0 w (kc + 24) (nc + 96) Q (nx i σ) σ 28 [(0, some (.ref b)), (1, some (.ref (ad 0))), (2, some (.ref (am 47))), (3, some (.ref ao)), (4, some (.ref aod)), (5, some (.int (qI i)))] []) (i : Int) (σ : qSt) : qS p l e room_1 s m args below meth c 9 g z0 w kc nc Q (fL_c14 L xs nx i σ) σ 994 [(0, some (.ref b)), (1, some (.ref (ad 0))), (2, some (.ref (am 47))), (3, some (.ref ao)), (4, some (.ref aod)), (5, some (.int (qI i)))] [] := by
  unfold fL_c14
  refine r_aload_n (pc := 994) cx dL_law_994 rfl ?_
  refine r_aload_n (pc := 995) cx dL_law_995 rfl ?_
  refine r_iload (pc := 996) cx dL_law_996 rfl ?_
  refine r_iconst (pc := 998) cx dL_law_998 ?_
  refine r_iadd (pc := 999) cx dL_law_999 ?_
  refine r_sld (pc := 1000) cx hX dL_law_1000 ?_
  refine r_if_eq (pc := 1001) (tgt := 1008) cx dL_law_1001 (by decide) ?_ ?_
  · refine r_iconst (pc := 1008) cx dL_law_1008 ?_
    refine r_pVj (pc := 1009) cx (tX5_left hB 0 σ) qm_X5_left qv_X5_left hcl_X5 (lw0 hB) wm_L_147 dL_law_1009 rfl rfl (Nat.le_of_ble_eq_true rfl) ⟨Nat.le_of_ble_eq_true rfl, Nat.le_of_ble_eq_true rfl⟩ ⟨rfl, rfl⟩ ⟨by show kc + 0 ≤ 601024; omega, by show nc + 0 ≤ 7293034; omega⟩ (fun r6 => ?_)
    refine r_aload_n (pc := 1012) cx dL_law_1012 rfl ?_
    refine r_aload_n (pc := 1013) cx dL_law_1013 rfl ?_
    refine r_iload (pc := 1014) cx dL_law_1014 rfl ?_
    refine r_iconst (pc := 1016) cx dL_law_1016 ?_
    refine r_iadd (pc := 1017) cx dL_law_1017 ?_
    refine r_sld (pc := 1018) cx hX dL_law_1018 ?_
    refine r_if_eq (pc := 1019) (tgt := 1026) cx dL_law_1019 (by decide) ?_ ?_
    · refine r_iconst (pc := 1026) cx dL_law_1026 ?_
      refine r_dVj (pc := 1027) cx (tX6_left hM 0 σ) qm_X6_left qv_X6_left hcl_X6 (lw47 hM) wm_L_151 dL_law_1027 rfl rfl (Nat.le_of_ble_eq_true rfl) ⟨Nat.le_of_ble_eq_true rfl, Nat.le_of_ble_eq_true rfl⟩ ⟨rfl, rfl⟩ ⟨by show kc + 0 ≤ 601024; omega, by show nc + 0 ≤ 7293034; omega⟩ (fun r9 σ10 => ?_)
      refine r_lcmp (pc := 1030) cx dL_law_1030 ?_
      refine r_if_eq (pc := 1031) (tgt := 1799) cx dL_law_1031 (by decide) ?_ ?_
      · refine r_iinc (pc := 1799) cx dL_law_1799 rfl (by decide) rfl ?_
        refine r_goto (pc := 1802) (tgt := 28) cx dL_law_1802 (by decide) ?_
        refine qS.widen (k2 := kc + 24) (n2 := nc + 96) (by first | exact Nat.le_refl _ | exact Nat.le_add_right _ _ | exact Nat.add_le_add_left (by decide) _) (by first | exact Nat.le_refl _ | exact Nat.le_add_right _ _ | exact Nat.add_le_add_left (by decide) _) ?_
        exact qS.sub (qsub_cons rfl (qsub_cons rfl (qsub_cons rfl (qsub_cons rfl (qsub_cons rfl (qsub_cons rfl (qsub_nil _))))))) (hnx _ _)
      · exact qS.fail
    · refine r_iconst (pc := 1022) cx dL_law_1022 ?_
      refine r_goto (pc := 1023) (tgt := 1027) cx dL_law_1023 (by decide) ?_
      refine r_dVj (pc := 1027) cx (tX6_left hM 1 σ) qm_X6_left qv_X6_left hcl_X6 (lw47 hM) wm_L_151 dL_law_1027 rfl rfl (Nat.le_of_ble_eq_true rfl) ⟨Nat.le_of_ble_eq_true rfl, Nat.le_of_ble_eq_true rfl⟩ ⟨rfl, rfl⟩ ⟨by show kc + 0 ≤ 601024; omega, by show nc + 0 ≤ 7293034; omega⟩ (fun r7 σ8 => ?_)
      refine r_lcmp (pc := 1030) cx dL_law_1030 ?_
      refine r_if_eq (pc := 1031) (tgt := 1799) cx dL_law_1031 (by decide) ?_ ?_
      · refine r_iinc (pc := 1799) cx dL_law_1799 rfl (by decide) rfl ?_
        refine r_goto (pc := 1802) (tgt := 28) cx dL_law_1802 (by decide) ?_
        refine qS.widen (k2 := kc + 24) (n2 := nc + 96) (by first | exact Nat.le_refl _ | exact Nat.le_add_right _ _ | exact Nat.add_le_add_left (by decide) _) (by first | exact Nat.le_refl _ | exact Nat.le_add_right _ _ | exact Nat.add_le_add_left (by decide) _) ?_
        exact qS.sub (qsub_cons rfl (qsub_cons rfl (qsub_cons rfl (qsub_cons rfl (qsub_cons rfl (qsub_cons rfl (qsub_nil _))))))) (hnx _ _)
      · exact qS.fail
  · refine r_iconst (pc := 1004) cx dL_law_1004 ?_
    refine r_goto (pc := 1005) (tgt := 1009) cx dL_law_1005 (by decide) ?_
    refine r_pVj (pc := 1009) cx (tX5_left hB 1 σ) qm_X5_left qv_X5_left hcl_X5 (lw0 hB) wm_L_147 dL_law_1009 rfl rfl (Nat.le_of_ble_eq_true rfl) ⟨Nat.le_of_ble_eq_true rfl, Nat.le_of_ble_eq_true rfl⟩ ⟨rfl, rfl⟩ ⟨by show kc + 0 ≤ 601024; omega, by show nc + 0 ≤ 7293034; omega⟩ (fun r1 => ?_)
    refine r_aload_n (pc := 1012) cx dL_law_1012 rfl ?_
    refine r_aload_n (pc := 1013) cx dL_law_1013 rfl ?_
    refine r_iload (pc := 1014) cx dL_law_1014 rfl ?_
    refine r_iconst (pc := 1016) cx dL_law_1016 ?_
    refine r_iadd (pc := 1017) cx dL_law_1017 ?_
    refine r_sld (pc := 1018) cx hX dL_law_1018 ?_
    refine r_if_eq (pc := 1019) (tgt := 1026) cx dL_law_1019 (by decide) ?_ ?_
    · refine r_iconst (pc := 1026) cx dL_law_1026 ?_
      refine r_dVj (pc := 1027) cx (tX6_left hM 0 σ) qm_X6_left qv_X6_left hcl_X6 (lw47 hM) wm_L_151 dL_law_1027 rfl rfl (Nat.le_of_ble_eq_true rfl) ⟨Nat.le_of_ble_eq_true rfl, Nat.le_of_ble_eq_true rfl⟩ ⟨rfl, rfl⟩ ⟨by show kc + 0 ≤ 601024; omega, by show nc + 0 ≤ 7293034; omega⟩ (fun r4 σ5 => ?_)
      refine r_lcmp (pc := 1030) cx dL_law_1030 ?_
      refine r_if_eq (pc := 1031) (tgt := 1799) cx dL_law_1031 (by decide) ?_ ?_
      · refine r_iinc (pc := 1799) cx dL_law_1799 rfl (by decide) rfl ?_
        refine r_goto (pc := 1802) (tgt := 28) cx dL_law_1802 (by decide) ?_
        refine qS.widen (k2 := kc + 24) (n2 := nc + 96) (by first | exact Nat.le_refl _ | exact Nat.le_add_right _ _ | exact Nat.add_le_add_left (by decide) _) (by first | exact Nat.le_refl _ | exact Nat.le_add_right _ _ | exact Nat.add_le_add_left (by decide) _) ?_
        exact qS.sub (qsub_cons rfl (qsub_cons rfl (qsub_cons rfl (qsub_cons rfl (qsub_cons rfl (qsub_cons rfl (qsub_nil _))))))) (hnx _ _)
      · exact qS.fail
    · refine r_iconst (pc := 1022) cx dL_law_1022 ?_
      refine r_goto (pc := 1023) (tgt := 1027) cx dL_law_1023 (by decide) ?_
      refine r_dVj (pc := 1027) cx (tX6_left hM 1 σ) qm_X6_left qv_X6_left hcl_X6 (lw47 hM) wm_L_151 dL_law_1027 rfl rfl (Nat.le_of_ble_eq_true rfl) ⟨Nat.le_of_ble_eq_true rfl, Nat.le_of_ble_eq_true rfl⟩ ⟨rfl, rfl⟩ ⟨by show kc + 0 ≤ 601024; omega, by show nc + 0 ≤ 7293034; omega⟩ (fun r2 σ3 => ?_)
      refine r_lcmp (pc := 1030) cx dL_law_1030 ?_
      refine r_if_eq (pc := 1031) (tgt := 1799) cx dL_law_1031 (by decide) ?_ ?_
      · refine r_iinc (pc := 1799) cx dL_law_1799 rfl (by decide) rfl ?_
        refine r_goto (pc := 1802) (tgt := 28) cx dL_law_1802 (by decide) ?_
        refine qS.widen (k2 := kc + 24) (n2 := nc + 96) (by first | exact Nat.le_refl _ | exact Nat.le_add_right _ _ | exact Nat.add_le_add_left (by decide) _) (by first | exact Nat.le_refl _ | exact Nat.le_add_right _ _ | exact Nat.add_le_add_left (by decide) _) ?_
        exact qS.sub (qsub_cons rfl (qsub_cons rfl (qsub_cons rfl (qsub_cons rfl (qsub_cons rfl (qsub_cons rfl (qsub_nil _))))))) (hnx _ _)
      · exact qS.fail
def fL_c15 (L : Nat) (xs : Nat → Int32) (nx : Int → qSt → Option Unit) (i : Int) (σ : qSt) : Option Unit :=
  (qif (0 ≤ (i + 1) ∧ (i + 1) < (L : Int)) <| if qI (qXs xs (i + 1)) = 0 then (qif (0 ≤ (i + 2) ∧ (i + 2) < (L : Int)) <| (qif (0 ≤ (i + 3) ∧ (i + 3) < (L : Int)) <| (qif (0 ≤ (i + 4) ∧ (i + 4) < (L : Int)) <| (qif (0 ≤ (i + 5) ∧ (i + 5) < (L : Int)) <| (qif (0 ≤ (i + 6) ∧ (i + 6) < (L : Int)) <| (qbd (fL_average 0 (qXs xs (i + 2)) (qXs xs (i + 3)) (qXs xs (i + 4)) (qXs xs (i + 5)) (qXs xs (i + 6)) σ) fun (k10 : Int) (σ9 : qSt) => (qif (0 ≤ (i + 1) ∧ (i + 1) < (L : Int)) <| if qI (qXs xs (i + 1)) = 0 then (qif (0 ≤ (i + 2) ∧ (i + 2) < (L : Int)) <| (qif (0 ≤ (i + 3) ∧ (i + 3) < (L : Int)) <| (qif (0 ≤ (i + 4) ∧ (i + 4) < (L : Int)) <| (qif (0 ≤ (i + 5) ∧ (i + 5) < (L : Int)) <| (qif (0 ≤ (i + 6) ∧ (i + 6) < (L : Int)) <| (qbd (fX6_average 0 (qXs xs (i + 2)) (qXs xs (i + 3)) (qXs xs (i + 4)) (qXs xs (i + 5)) (qXs xs (i + 6)) σ9) fun (r14 : Int) (σ15 : qSt) => ((fX6_thrown σ15 ).bind fun (r16 : Int) => if qI r16 = qI k10 then if qI k10 = 0 then (qif (0 ≤ (0 : Int) ∧ (0 : Int) < 1) <| if qI (qlcmp (σ15 64 0) r14) = 0 then nx (i + 7) σ15 else none) else nx (i + 7) σ15 else none))))))) else (qif (0 ≤ (i + 2) ∧ (i + 2) < (L : Int)) <| (qif (0 ≤ (i + 3) ∧ (i + 3) < (L : Int)) <| (qif (0 ≤ (i + 4) ∧ (i + 4) < (L : Int)) <| (qif (0 ≤ (i + 5) ∧ (i + 5) < (L : Int)) <| (qif (0 ≤ (i + 6) ∧ (i + 6) < (L : Int)) <| (qbd (fX6_average 1 (qXs xs (i + 2)) (qXs xs (i + 3)) (qXs xs (i + 4)) (qXs xs (i + 5)) (qXs xs (i + 6)) σ9) fun (r11 : Int) (σ12 : qSt) => ((fX6_thrown σ12 ).bind fun (r13 : Int) => if qI r13 = qI k10 then if qI k10 = 0 then (qif (0 ≤ (0 : Int) ∧ (0 : Int) < 1) <| if qI (qlcmp (σ12 64 0) r11) = 0 then nx (i + 7) σ12 else none) else nx (i + 7) σ12 else none)))))))))))))) else (qif (0 ≤ (i + 2) ∧ (i + 2) < (L : Int)) <| (qif (0 ≤ (i + 3) ∧ (i + 3) < (L : Int)) <| (qif (0 ≤ (i + 4) ∧ (i + 4) < (L : Int)) <| (qif (0 ≤ (i + 5) ∧ (i + 5) < (L : Int)) <| (qif (0 ≤ (i + 6) ∧ (i + 6) < (L : Int)) <| (qbd (fL_average 1 (qXs xs (i + 2)) (qXs xs (i + 3)) (qXs xs (i + 4)) (qXs xs (i + 5)) (qXs xs (i + 6)) σ) fun (k2 : Int) (σ1 : qSt) => (qif (0 ≤ (i + 1) ∧ (i + 1) < (L : Int)) <| if qI (qXs xs (i + 1)) = 0 then (qif (0 ≤ (i + 2) ∧ (i + 2) < (L : Int)) <| (qif (0 ≤ (i + 3) ∧ (i + 3) < (L : Int)) <| (qif (0 ≤ (i + 4) ∧ (i + 4) < (L : Int)) <| (qif (0 ≤ (i + 5) ∧ (i + 5) < (L : Int)) <| (qif (0 ≤ (i + 6) ∧ (i + 6) < (L : Int)) <| (qbd (fX6_average 0 (qXs xs (i + 2)) (qXs xs (i + 3)) (qXs xs (i + 4)) (qXs xs (i + 5)) (qXs xs (i + 6)) σ1) fun (r6 : Int) (σ7 : qSt) => ((fX6_thrown σ7 ).bind fun (r8 : Int) => if qI r8 = qI k2 then if qI k2 = 0 then (qif (0 ≤ (0 : Int) ∧ (0 : Int) < 1) <| if qI (qlcmp (σ7 64 0) r6) = 0 then nx (i + 7) σ7 else none) else nx (i + 7) σ7 else none))))))) else (qif (0 ≤ (i + 2) ∧ (i + 2) < (L : Int)) <| (qif (0 ≤ (i + 3) ∧ (i + 3) < (L : Int)) <| (qif (0 ≤ (i + 4) ∧ (i + 4) < (L : Int)) <| (qif (0 ≤ (i + 5) ∧ (i + 5) < (L : Int)) <| (qif (0 ≤ (i + 6) ∧ (i + 6) < (L : Int)) <| (qbd (fX6_average 1 (qXs xs (i + 2)) (qXs xs (i + 3)) (qXs xs (i + 4)) (qXs xs (i + 5)) (qXs xs (i + 6)) σ1) fun (r3 : Int) (σ4 : qSt) => ((fX6_thrown σ4 ).bind fun (r5 : Int) => if qI r5 = qI k2 then if qI k2 = 0 then (qif (0 ≤ (0 : Int) ∧ (0 : Int) < 1) <| if qI (qlcmp (σ4 64 0) r3) = 0 then nx (i + 7) σ4 else none) else nx (i + 7) σ4 else none)))))))))))))))
set_option maxRecDepth 100000 in
set_option maxHeartbeats 4000000 in
theorem tL_c15 {p : Program} {l : Launch} {e : Env} {s : State} {m : MethodId} {args : Array Value} {below : List Frame} {meth : Method} {c : Code} {z0 : Nat} {g : qG} {w : qWd} {ad am : Nat → Nat} {ao aod b L kc nc : Nat} {xs : Nat → Int32} {Q : Unit → State → Prop} {nx : Int → qSt → Option Unit} (cx : qCx p s m meth c cL_law 9 RL (some .boolean) g z0) (hX : qScr b L xs z0 s) (hB : qBC g ad w) (hM : qBM g am w) (hO : w 64 = some (ao, qAL (g.2 4) 1)) (hD : w 65 = some (aod, qAD (g.2 5) 1)) (h66 : w 66 = none) (h67 : w 67 = none) (h68 : w 68 = none) (hl : l.stackTraces = false) (hk : kc + 24 ≤ 601024 ∧ nc + 96 ≤ 7293034) (hnx : ∀ i σ, qS p l e room_1 s m args below meth c 9 g z0 w (kc + 24) (nc + 96) Q (nx i σ) σ 28 [(0, some (.ref b)), (1, some (.ref (ad 0))), (2, some (.ref (am 47))), (3, some (.ref ao)), (4, some (.ref aod)), (5, some (.int (qI i)))] []) (i : Int) (σ : qSt) : qS p l e room_1 s m args below meth c 9 g z0 w kc nc Q (fL_c15 L xs nx i σ) σ 1036 [(0, some (.ref b)), (1, some (.ref (ad 0))), (2, some (.ref (am 47))), (3, some (.ref ao)), (4, some (.ref aod)), (5, some (.int (qI i)))] [] := by
  unfold fL_c15
  refine r_aload_n (pc := 1036) cx dL_law_1036 rfl ?_
  refine r_aload_n (pc := 1037) cx dL_law_1037 rfl ?_
  refine r_iload (pc := 1038) cx dL_law_1038 rfl ?_
  refine r_iconst (pc := 1040) cx dL_law_1040 ?_
  refine r_iadd (pc := 1041) cx dL_law_1041 ?_
  refine r_sld (pc := 1042) cx hX dL_law_1042 ?_
  refine r_if_eq (pc := 1043) (tgt := 1050) cx dL_law_1043 (by decide) ?_ ?_
  · refine r_iconst (pc := 1050) cx dL_law_1050 ?_
    refine r_aload_n (pc := 1051) cx dL_law_1051 rfl ?_
    refine r_iload (pc := 1052) cx dL_law_1052 rfl ?_
    refine r_iconst (pc := 1054) cx dL_law_1054 ?_
    refine r_iadd (pc := 1055) cx dL_law_1055 ?_
    refine r_sld (pc := 1056) cx hX dL_law_1056 ?_
    refine r_aload_n (pc := 1057) cx dL_law_1057 rfl ?_
    refine r_iload (pc := 1058) cx dL_law_1058 rfl ?_
    refine r_iconst (pc := 1060) cx dL_law_1060 ?_
    refine r_iadd (pc := 1061) cx dL_law_1061 ?_
    refine r_sld (pc := 1062) cx hX dL_law_1062 ?_
    refine r_aload_n (pc := 1063) cx dL_law_1063 rfl ?_
    refine r_iload (pc := 1064) cx dL_law_1064 rfl ?_
    refine r_iconst (pc := 1066) cx dL_law_1066 ?_
    refine r_iadd (pc := 1067) cx dL_law_1067 ?_
    refine r_sld (pc := 1068) cx hX dL_law_1068 ?_
    refine r_aload_n (pc := 1069) cx dL_law_1069 rfl ?_
    refine r_iload (pc := 1070) cx dL_law_1070 rfl ?_
    refine r_iconst (pc := 1072) cx dL_law_1072 ?_
    refine r_iadd (pc := 1073) cx dL_law_1073 ?_
    refine r_sld (pc := 1074) cx hX dL_law_1074 ?_
    refine r_aload_n (pc := 1075) cx dL_law_1075 rfl ?_
    refine r_iload (pc := 1076) cx dL_law_1076 rfl ?_
    refine r_bipush (pc := 1078) (v := 6) cx dL_law_1078 (by decide +kernel) ?_
    refine r_iadd (pc := 1080) cx dL_law_1080 ?_
    refine r_sld (pc := 1081) cx hX dL_law_1081 ?_
    refine r_aload_n (pc := 1082) cx dL_law_1082 rfl ?_
    refine r_callSW (pc := 1083) cx (tL_average hB hO h66 h67 h68 hl 0 (qXs xs (i + 2)) (qXs xs (i + 3)) (qXs xs (i + 4)) (qXs xs (i + 5)) (qXs xs (i + 6)) σ) qmh_L_average wm_L_152 dL_law_1083 rfl rfl (Nat.le_of_ble_eq_true rfl) ⟨Nat.le_of_ble_eq_true rfl, Nat.le_of_ble_eq_true rfl⟩ ⟨by show kc + 2 ≤ 601024; omega, by show nc + 7 ≤ 7293034; omega⟩ (fun k10 σ9 _ => ?_)
    refine r_istore (pc := 1086) cx dL_law_1086 (by decide) rfl ?_
    refine r_aload_n (pc := 1088) cx dL_law_1088 rfl ?_
    refine r_aload_n (pc := 1089) cx dL_law_1089 rfl ?_
    refine r_iload (pc := 1090) cx dL_law_1090 rfl ?_
    refine r_iconst (pc := 1092) cx dL_law_1092 ?_
    refine r_iadd (pc := 1093) cx dL_law_1093 ?_
    refine r_sld (pc := 1094) cx hX dL_law_1094 ?_
    refine r_if_eq (pc := 1095) (tgt := 1102) cx dL_law_1095 (by decide) ?_ ?_
    · refine r_iconst (pc := 1102) cx dL_law_1102 ?_
      refine r_aload_n (pc := 1103) cx dL_law_1103 rfl ?_
      refine r_iload (pc := 1104) cx dL_law_1104 rfl ?_
      refine r_iconst (pc := 1106) cx dL_law_1106 ?_
      refine r_iadd (pc := 1107) cx dL_law_1107 ?_
      refine r_sld (pc := 1108) cx hX dL_law_1108 ?_
      refine r_aload_n (pc := 1109) cx dL_law_1109 rfl ?_
      refine r_iload (pc := 1110) cx dL_law_1110 rfl ?_
      refine r_iconst (pc := 1112) cx dL_law_1112 ?_
      refine r_iadd (pc := 1113) cx dL_law_1113 ?_
      refine r_sld (pc := 1114) cx hX dL_law_1114 ?_
      refine r_aload_n (pc := 1115) cx dL_law_1115 rfl ?_
      refine r_iload (pc := 1116) cx dL_law_1116 rfl ?_
      refine r_iconst (pc := 1118) cx dL_law_1118 ?_
      refine r_iadd (pc := 1119) cx dL_law_1119 ?_
      refine r_sld (pc := 1120) cx hX dL_law_1120 ?_
      refine r_aload_n (pc := 1121) cx dL_law_1121 rfl ?_
      refine r_iload (pc := 1122) cx dL_law_1122 rfl ?_
      refine r_iconst (pc := 1124) cx dL_law_1124 ?_
      refine r_iadd (pc := 1125) cx dL_law_1125 ?_
      refine r_sld (pc := 1126) cx hX dL_law_1126 ?_
      refine r_aload_n (pc := 1127) cx dL_law_1127 rfl ?_
      refine r_iload (pc := 1128) cx dL_law_1128 rfl ?_
      refine r_bipush (pc := 1130) (v := 6) cx dL_law_1130 (by decide +kernel) ?_
      refine r_iadd (pc := 1132) cx dL_law_1132 ?_
      refine r_sld (pc := 1133) cx hX dL_law_1133 ?_
      refine r_dVj (pc := 1134) cx (tX6_average hM 0 (qXs xs (i + 2)) (qXs xs (i + 3)) (qXs xs (i + 4)) (qXs xs (i + 5)) (qXs xs (i + 6)) σ9) qm_X6_average qv_X6_average hcl_X6 (lw47 hM) wm_L_155 dL_law_1134 rfl rfl (Nat.le_of_ble_eq_true rfl) ⟨Nat.le_of_ble_eq_true rfl, Nat.le_of_ble_eq_true rfl⟩ ⟨rfl, rfl⟩ ⟨by show kc + 2 ≤ 601024; omega, by show nc + 7 ≤ 7293034; omega⟩ (fun r14 σ15 => ?_)
      refine r_lstore (pc := 1137) cx dL_law_1137 (by decide) rfl ?_
      refine r_aload_n (pc := 1139) cx dL_law_1139 rfl ?_
      refine r_pVi (pc := 1140) cx (tX6_thrown hM  σ15) qm_X6_thrown qv_X6_thrown hcl_X6 (lw47 hM) wm_L_101 dL_law_1140 rfl rfl (Nat.le_of_ble_eq_true rfl) ⟨Nat.le_of_ble_eq_true rfl, Nat.le_of_ble_eq_true rfl⟩ ⟨rfl, rfl⟩ ⟨by show kc + 2 ≤ 601024; omega, by show nc + 7 ≤ 7293034; omega⟩ (fun r16 => ?_)
      refine r_iload (pc := 1143) cx dL_law_1143 rfl ?_
      refine r_icmp_eq (pc := 1145) (tgt := 1150) cx dL_law_1145 (by decide) ?_ ?_
      · refine r_iload (pc := 1150) cx dL_law_1150 rfl ?_
        refine r_if_ne (pc := 1152) (tgt := 1166) cx dL_law_1152 (by decide) ?_ ?_
        · refine r_goto (pc := 1166) (tgt := 1799) cx dL_law_1166 (by decide) ?_
          refine r_iinc (pc := 1799) cx dL_law_1799 rfl (by decide) rfl ?_
          refine r_goto (pc := 1802) (tgt := 28) cx dL_law_1802 (by decide) ?_
          refine qS.widen (k2 := kc + 24) (n2 := nc + 96) (by first | exact Nat.le_refl _ | exact Nat.le_add_right _ _ | exact Nat.add_le_add_left (by decide) _) (by first | exact Nat.le_refl _ | exact Nat.le_add_right _ _ | exact Nat.add_le_add_left (by decide) _) ?_
          exact qS.sub (qsub_cons rfl (qsub_cons rfl (qsub_cons rfl (qsub_cons rfl (qsub_cons rfl (qsub_cons rfl (qsub_nil _))))))) (hnx _ _)
        · refine r_aload_n (pc := 1155) cx dL_law_1155 rfl ?_
          refine r_iconst (pc := 1156) cx dL_law_1156 ?_
          refine r_laload (pc := 1157) cx hO rfl (by decide) dL_law_1157 ?_
          refine r_lload (pc := 1158) cx dL_law_1158 rfl ?_
          refine r_lcmp (pc := 1160) cx dL_law_1160 ?_
          refine r_if_eq (pc := 1161) (tgt := 1166) cx dL_law_1161 (by decide) ?_ ?_
          · refine r_goto (pc := 1166) (tgt := 1799) cx dL_law_1166 (by decide) ?_
            refine r_iinc (pc := 1799) cx dL_law_1799 rfl (by decide) rfl ?_
            refine r_goto (pc := 1802) (tgt := 28) cx dL_law_1802 (by decide) ?_
            refine qS.widen (k2 := kc + 24) (n2 := nc + 96) (by first | exact Nat.le_refl _ | exact Nat.le_add_right _ _ | exact Nat.add_le_add_left (by decide) _) (by first | exact Nat.le_refl _ | exact Nat.le_add_right _ _ | exact Nat.add_le_add_left (by decide) _) ?_
            exact qS.sub (qsub_cons rfl (qsub_cons rfl (qsub_cons rfl (qsub_cons rfl (qsub_cons rfl (qsub_cons rfl (qsub_nil _))))))) (hnx _ _)
          · exact qS.fail
      · exact qS.fail
    · refine r_iconst (pc := 1098) cx dL_law_1098 ?_
      refine r_goto (pc := 1099) (tgt := 1103) cx dL_law_1099 (by decide) ?_
      refine r_aload_n (pc := 1103) cx dL_law_1103 rfl ?_
      refine r_iload (pc := 1104) cx dL_law_1104 rfl ?_
      refine r_iconst (pc := 1106) cx dL_law_1106 ?_
      refine r_iadd (pc := 1107) cx dL_law_1107 ?_
      refine r_sld (pc := 1108) cx hX dL_law_1108 ?_
      refine r_aload_n (pc := 1109) cx dL_law_1109 rfl ?_
      refine r_iload (pc := 1110) cx dL_law_1110 rfl ?_
      refine r_iconst (pc := 1112) cx dL_law_1112 ?_
      refine r_iadd (pc := 1113) cx dL_law_1113 ?_
      refine r_sld (pc := 1114) cx hX dL_law_1114 ?_
      refine r_aload_n (pc := 1115) cx dL_law_1115 rfl ?_
      refine r_iload (pc := 1116) cx dL_law_1116 rfl ?_
      refine r_iconst (pc := 1118) cx dL_law_1118 ?_
      refine r_iadd (pc := 1119) cx dL_law_1119 ?_
      refine r_sld (pc := 1120) cx hX dL_law_1120 ?_
      refine r_aload_n (pc := 1121) cx dL_law_1121 rfl ?_
      refine r_iload (pc := 1122) cx dL_law_1122 rfl ?_
      refine r_iconst (pc := 1124) cx dL_law_1124 ?_
      refine r_iadd (pc := 1125) cx dL_law_1125 ?_
      refine r_sld (pc := 1126) cx hX dL_law_1126 ?_
      refine r_aload_n (pc := 1127) cx dL_law_1127 rfl ?_
      refine r_iload (pc := 1128) cx dL_law_1128 rfl ?_
      refine r_bipush (pc := 1130) (v := 6) cx dL_law_1130 (by decide +kernel) ?_
      refine r_iadd (pc := 1132) cx dL_law_1132 ?_
      refine r_sld (pc := 1133) cx hX dL_law_1133 ?_
      refine r_dVj (pc := 1134) cx (tX6_average hM 1 (qXs xs (i + 2)) (qXs xs (i + 3)) (qXs xs (i + 4)) (qXs xs (i + 5)) (qXs xs (i + 6)) σ9) qm_X6_average qv_X6_average hcl_X6 (lw47 hM) wm_L_155 dL_law_1134 rfl rfl (Nat.le_of_ble_eq_true rfl) ⟨Nat.le_of_ble_eq_true rfl, Nat.le_of_ble_eq_true rfl⟩ ⟨rfl, rfl⟩ ⟨by show kc + 2 ≤ 601024; omega, by show nc + 7 ≤ 7293034; omega⟩ (fun r11 σ12 => ?_)
      refine r_lstore (pc := 1137) cx dL_law_1137 (by decide) rfl ?_
      refine r_aload_n (pc := 1139) cx dL_law_1139 rfl ?_
      refine r_pVi (pc := 1140) cx (tX6_thrown hM  σ12) qm_X6_thrown qv_X6_thrown hcl_X6 (lw47 hM) wm_L_101 dL_law_1140 rfl rfl (Nat.le_of_ble_eq_true rfl) ⟨Nat.le_of_ble_eq_true rfl, Nat.le_of_ble_eq_true rfl⟩ ⟨rfl, rfl⟩ ⟨by show kc + 2 ≤ 601024; omega, by show nc + 7 ≤ 7293034; omega⟩ (fun r13 => ?_)
      refine r_iload (pc := 1143) cx dL_law_1143 rfl ?_
      refine r_icmp_eq (pc := 1145) (tgt := 1150) cx dL_law_1145 (by decide) ?_ ?_
      · refine r_iload (pc := 1150) cx dL_law_1150 rfl ?_
        refine r_if_ne (pc := 1152) (tgt := 1166) cx dL_law_1152 (by decide) ?_ ?_
        · refine r_goto (pc := 1166) (tgt := 1799) cx dL_law_1166 (by decide) ?_
          refine r_iinc (pc := 1799) cx dL_law_1799 rfl (by decide) rfl ?_
          refine r_goto (pc := 1802) (tgt := 28) cx dL_law_1802 (by decide) ?_
          refine qS.widen (k2 := kc + 24) (n2 := nc + 96) (by first | exact Nat.le_refl _ | exact Nat.le_add_right _ _ | exact Nat.add_le_add_left (by decide) _) (by first | exact Nat.le_refl _ | exact Nat.le_add_right _ _ | exact Nat.add_le_add_left (by decide) _) ?_
          exact qS.sub (qsub_cons rfl (qsub_cons rfl (qsub_cons rfl (qsub_cons rfl (qsub_cons rfl (qsub_cons rfl (qsub_nil _))))))) (hnx _ _)
        · refine r_aload_n (pc := 1155) cx dL_law_1155 rfl ?_
          refine r_iconst (pc := 1156) cx dL_law_1156 ?_
          refine r_laload (pc := 1157) cx hO rfl (by decide) dL_law_1157 ?_
          refine r_lload (pc := 1158) cx dL_law_1158 rfl ?_
          refine r_lcmp (pc := 1160) cx dL_law_1160 ?_
          refine r_if_eq (pc := 1161) (tgt := 1166) cx dL_law_1161 (by decide) ?_ ?_
          · refine r_goto (pc := 1166) (tgt := 1799) cx dL_law_1166 (by decide) ?_
            refine r_iinc (pc := 1799) cx dL_law_1799 rfl (by decide) rfl ?_
            refine r_goto (pc := 1802) (tgt := 28) cx dL_law_1802 (by decide) ?_
            refine qS.widen (k2 := kc + 24) (n2 := nc + 96) (by first | exact Nat.le_refl _ | exact Nat.le_add_right _ _ | exact Nat.add_le_add_left (by decide) _) (by first | exact Nat.le_refl _ | exact Nat.le_add_right _ _ | exact Nat.add_le_add_left (by decide) _) ?_
            exact qS.sub (qsub_cons rfl (qsub_cons rfl (qsub_cons rfl (qsub_cons rfl (qsub_cons rfl (qsub_cons rfl (qsub_nil _))))))) (hnx _ _)
          · exact qS.fail
      · exact qS.fail
  · refine r_iconst (pc := 1046) cx dL_law_1046 ?_
    refine r_goto (pc := 1047) (tgt := 1051) cx dL_law_1047 (by decide) ?_
    refine r_aload_n (pc := 1051) cx dL_law_1051 rfl ?_
    refine r_iload (pc := 1052) cx dL_law_1052 rfl ?_
    refine r_iconst (pc := 1054) cx dL_law_1054 ?_
    refine r_iadd (pc := 1055) cx dL_law_1055 ?_
    refine r_sld (pc := 1056) cx hX dL_law_1056 ?_
    refine r_aload_n (pc := 1057) cx dL_law_1057 rfl ?_
    refine r_iload (pc := 1058) cx dL_law_1058 rfl ?_
    refine r_iconst (pc := 1060) cx dL_law_1060 ?_
    refine r_iadd (pc := 1061) cx dL_law_1061 ?_
    refine r_sld (pc := 1062) cx hX dL_law_1062 ?_
    refine r_aload_n (pc := 1063) cx dL_law_1063 rfl ?_
    refine r_iload (pc := 1064) cx dL_law_1064 rfl ?_
    refine r_iconst (pc := 1066) cx dL_law_1066 ?_
    refine r_iadd (pc := 1067) cx dL_law_1067 ?_
    refine r_sld (pc := 1068) cx hX dL_law_1068 ?_
    refine r_aload_n (pc := 1069) cx dL_law_1069 rfl ?_
    refine r_iload (pc := 1070) cx dL_law_1070 rfl ?_
    refine r_iconst (pc := 1072) cx dL_law_1072 ?_
    refine r_iadd (pc := 1073) cx dL_law_1073 ?_
    refine r_sld (pc := 1074) cx hX dL_law_1074 ?_
    refine r_aload_n (pc := 1075) cx dL_law_1075 rfl ?_
    refine r_iload (pc := 1076) cx dL_law_1076 rfl ?_
    refine r_bipush (pc := 1078) (v := 6) cx dL_law_1078 (by decide +kernel) ?_
    refine r_iadd (pc := 1080) cx dL_law_1080 ?_
    refine r_sld (pc := 1081) cx hX dL_law_1081 ?_
    refine r_aload_n (pc := 1082) cx dL_law_1082 rfl ?_
    refine r_callSW (pc := 1083) cx (tL_average hB hO h66 h67 h68 hl 1 (qXs xs (i + 2)) (qXs xs (i + 3)) (qXs xs (i + 4)) (qXs xs (i + 5)) (qXs xs (i + 6)) σ) qmh_L_average wm_L_152 dL_law_1083 rfl rfl (Nat.le_of_ble_eq_true rfl) ⟨Nat.le_of_ble_eq_true rfl, Nat.le_of_ble_eq_true rfl⟩ ⟨by show kc + 2 ≤ 601024; omega, by show nc + 7 ≤ 7293034; omega⟩ (fun k2 σ1 _ => ?_)
    refine r_istore (pc := 1086) cx dL_law_1086 (by decide) rfl ?_
    refine r_aload_n (pc := 1088) cx dL_law_1088 rfl ?_
    refine r_aload_n (pc := 1089) cx dL_law_1089 rfl ?_
    refine r_iload (pc := 1090) cx dL_law_1090 rfl ?_
    refine r_iconst (pc := 1092) cx dL_law_1092 ?_
    refine r_iadd (pc := 1093) cx dL_law_1093 ?_
    refine r_sld (pc := 1094) cx hX dL_law_1094 ?_
    refine r_if_eq (pc := 1095) (tgt := 1102) cx dL_law_1095 (by decide) ?_ ?_
    · refine r_iconst (pc := 1102) cx dL_law_1102 ?_
      refine r_aload_n (pc := 1103) cx dL_law_1103 rfl ?_
      refine r_iload (pc := 1104) cx dL_law_1104 rfl ?_
      refine r_iconst (pc := 1106) cx dL_law_1106 ?_
      refine r_iadd (pc := 1107) cx dL_law_1107 ?_
      refine r_sld (pc := 1108) cx hX dL_law_1108 ?_
      refine r_aload_n (pc := 1109) cx dL_law_1109 rfl ?_
      refine r_iload (pc := 1110) cx dL_law_1110 rfl ?_
      refine r_iconst (pc := 1112) cx dL_law_1112 ?_
      refine r_iadd (pc := 1113) cx dL_law_1113 ?_
      refine r_sld (pc := 1114) cx hX dL_law_1114 ?_
      refine r_aload_n (pc := 1115) cx dL_law_1115 rfl ?_
      refine r_iload (pc := 1116) cx dL_law_1116 rfl ?_
      refine r_iconst (pc := 1118) cx dL_law_1118 ?_
      refine r_iadd (pc := 1119) cx dL_law_1119 ?_
      refine r_sld (pc := 1120) cx hX dL_law_1120 ?_
      refine r_aload_n (pc := 1121) cx dL_law_1121 rfl ?_
      refine r_iload (pc := 1122) cx dL_law_1122 rfl ?_
      refine r_iconst (pc := 1124) cx dL_law_1124 ?_
      refine r_iadd (pc := 1125) cx dL_law_1125 ?_
      refine r_sld (pc := 1126) cx hX dL_law_1126 ?_
      refine r_aload_n (pc := 1127) cx dL_law_1127 rfl ?_
      refine r_iload (pc := 1128) cx dL_law_1128 rfl ?_
      refine r_bipush (pc := 1130) (v := 6) cx dL_law_1130 (by decide +kernel) ?_
      refine r_iadd (pc := 1132) cx dL_law_1132 ?_
      refine r_sld (pc := 1133) cx hX dL_law_1133 ?_
      refine r_dVj (pc := 1134) cx (tX6_average hM 0 (qXs xs (i + 2)) (qXs xs (i + 3)) (qXs xs (i + 4)) (qXs xs (i + 5)) (qXs xs (i + 6)) σ1) qm_X6_average qv_X6_average hcl_X6 (lw47 hM) wm_L_155 dL_law_1134 rfl rfl (Nat.le_of_ble_eq_true rfl) ⟨Nat.le_of_ble_eq_true rfl, Nat.le_of_ble_eq_true rfl⟩ ⟨rfl, rfl⟩ ⟨by show kc + 2 ≤ 601024; omega, by show nc + 7 ≤ 7293034; omega⟩ (fun r6 σ7 => ?_)
      refine r_lstore (pc := 1137) cx dL_law_1137 (by decide) rfl ?_
      refine r_aload_n (pc := 1139) cx dL_law_1139 rfl ?_
      refine r_pVi (pc := 1140) cx (tX6_thrown hM  σ7) qm_X6_thrown qv_X6_thrown hcl_X6 (lw47 hM) wm_L_101 dL_law_1140 rfl rfl (Nat.le_of_ble_eq_true rfl) ⟨Nat.le_of_ble_eq_true rfl, Nat.le_of_ble_eq_true rfl⟩ ⟨rfl, rfl⟩ ⟨by show kc + 2 ≤ 601024; omega, by show nc + 7 ≤ 7293034; omega⟩ (fun r8 => ?_)
      refine r_iload (pc := 1143) cx dL_law_1143 rfl ?_
      refine r_icmp_eq (pc := 1145) (tgt := 1150) cx dL_law_1145 (by decide) ?_ ?_
      · refine r_iload (pc := 1150) cx dL_law_1150 rfl ?_
        refine r_if_ne (pc := 1152) (tgt := 1166) cx dL_law_1152 (by decide) ?_ ?_
        · refine r_goto (pc := 1166) (tgt := 1799) cx dL_law_1166 (by decide) ?_
          refine r_iinc (pc := 1799) cx dL_law_1799 rfl (by decide) rfl ?_
          refine r_goto (pc := 1802) (tgt := 28) cx dL_law_1802 (by decide) ?_
          refine qS.widen (k2 := kc + 24) (n2 := nc + 96) (by first | exact Nat.le_refl _ | exact Nat.le_add_right _ _ | exact Nat.add_le_add_left (by decide) _) (by first | exact Nat.le_refl _ | exact Nat.le_add_right _ _ | exact Nat.add_le_add_left (by decide) _) ?_
          exact qS.sub (qsub_cons rfl (qsub_cons rfl (qsub_cons rfl (qsub_cons rfl (qsub_cons rfl (qsub_cons rfl (qsub_nil _))))))) (hnx _ _)
        · refine r_aload_n (pc := 1155) cx dL_law_1155 rfl ?_
          refine r_iconst (pc := 1156) cx dL_law_1156 ?_
          refine r_laload (pc := 1157) cx hO rfl (by decide) dL_law_1157 ?_
          refine r_lload (pc := 1158) cx dL_law_1158 rfl ?_
          refine r_lcmp (pc := 1160) cx dL_law_1160 ?_
          refine r_if_eq (pc := 1161) (tgt := 1166) cx dL_law_1161 (by decide) ?_ ?_
          · refine r_goto (pc := 1166) (tgt := 1799) cx dL_law_1166 (by decide) ?_
            refine r_iinc (pc := 1799) cx dL_law_1799 rfl (by decide) rfl ?_
            refine r_goto (pc := 1802) (tgt := 28) cx dL_law_1802 (by decide) ?_
            refine qS.widen (k2 := kc + 24) (n2 := nc + 96) (by first | exact Nat.le_refl _ | exact Nat.le_add_right _ _ | exact Nat.add_le_add_left (by decide) _) (by first | exact Nat.le_refl _ | exact Nat.le_add_right _ _ | exact Nat.add_le_add_left (by decide) _) ?_
            exact qS.sub (qsub_cons rfl (qsub_cons rfl (qsub_cons rfl (qsub_cons rfl (qsub_cons rfl (qsub_cons rfl (qsub_nil _))))))) (hnx _ _)
          · exact qS.fail
      · exact qS.fail
    · refine r_iconst (pc := 1098) cx dL_law_1098 ?_
      refine r_goto (pc := 1099) (tgt := 1103) cx dL_law_1099 (by decide) ?_
      refine r_aload_n (pc := 1103) cx dL_law_1103 rfl ?_
      refine r_iload (pc := 1104) cx dL_law_1104 rfl ?_
      refine r_iconst (pc := 1106) cx dL_law_1106 ?_
      refine r_iadd (pc := 1107) cx dL_law_1107 ?_
      refine r_sld (pc := 1108) cx hX dL_law_1108 ?_
      refine r_aload_n (pc := 1109) cx dL_law_1109 rfl ?_
      refine r_iload (pc := 1110) cx dL_law_1110 rfl ?_
      refine r_iconst (pc := 1112) cx dL_law_1112 ?_
      refine r_iadd (pc := 1113) cx dL_law_1113 ?_
      refine r_sld (pc := 1114) cx hX dL_law_1114 ?_
      refine r_aload_n (pc := 1115) cx dL_law_1115 rfl ?_
      refine r_iload (pc := 1116) cx dL_law_1116 rfl ?_
      refine r_iconst (pc := 1118) cx dL_law_1118 ?_
      refine r_iadd (pc := 1119) cx dL_law_1119 ?_
      refine r_sld (pc := 1120) cx hX dL_law_1120 ?_
      refine r_aload_n (pc := 1121) cx dL_law_1121 rfl ?_
      refine r_iload (pc := 1122) cx dL_law_1122 rfl ?_
      refine r_iconst (pc := 1124) cx dL_law_1124 ?_
      refine r_iadd (pc := 1125) cx dL_law_1125 ?_
      refine r_sld (pc := 1126) cx hX dL_law_1126 ?_
      refine r_aload_n (pc := 1127) cx dL_law_1127 rfl ?_
      refine r_iload (pc := 1128) cx dL_law_1128 rfl ?_
      refine r_bipush (pc := 1130) (v := 6) cx dL_law_1130 (by decide +kernel) ?_
      refine r_iadd (pc := 1132) cx dL_law_1132 ?_
      refine r_sld (pc := 1133) cx hX dL_law_1133 ?_
      refine r_dVj (pc := 1134) cx (tX6_average hM 1 (qXs xs (i + 2)) (qXs xs (i + 3)) (qXs xs (i + 4)) (qXs xs (i + 5)) (qXs xs (i + 6)) σ1) qm_X6_average qv_X6_average hcl_X6 (lw47 hM) wm_L_155 dL_law_1134 rfl rfl (Nat.le_of_ble_eq_true rfl) ⟨Nat.le_of_ble_eq_true rfl, Nat.le_of_ble_eq_true rfl⟩ ⟨rfl, rfl⟩ ⟨by show kc + 2 ≤ 601024; omega, by show nc + 7 ≤ 7293034; omega⟩ (fun r3 σ4 => ?_)
      refine r_lstore (pc := 1137) cx dL_law_1137 (by decide) rfl ?_
      refine r_aload_n (pc := 1139) cx dL_law_1139 rfl ?_
      refine r_pVi (pc := 1140) cx (tX6_thrown hM  σ4) qm_X6_thrown qv_X6_thrown hcl_X6 (lw47 hM) wm_L_101 dL_law_1140 rfl rfl (Nat.le_of_ble_eq_true rfl) ⟨Nat.le_of_ble_eq_true rfl, Nat.le_of_ble_eq_true rfl⟩ ⟨rfl, rfl⟩ ⟨by show kc + 2 ≤ 601024; omega, by show nc + 7 ≤ 7293034; omega⟩ (fun r5 => ?_)
      refine r_iload (pc := 1143) cx dL_law_1143 rfl ?_
      refine r_icmp_eq (pc := 1145) (tgt := 1150) cx dL_law_1145 (by decide) ?_ ?_
      · refine r_iload (pc := 1150) cx dL_law_1150 rfl ?_
        refine r_if_ne (pc := 1152) (tgt := 1166) cx dL_law_1152 (by decide) ?_ ?_
        · refine r_goto (pc := 1166) (tgt := 1799) cx dL_law_1166 (by decide) ?_
          refine r_iinc (pc := 1799) cx dL_law_1799 rfl (by decide) rfl ?_
          refine r_goto (pc := 1802) (tgt := 28) cx dL_law_1802 (by decide) ?_
          refine qS.widen (k2 := kc + 24) (n2 := nc + 96) (by first | exact Nat.le_refl _ | exact Nat.le_add_right _ _ | exact Nat.add_le_add_left (by decide) _) (by first | exact Nat.le_refl _ | exact Nat.le_add_right _ _ | exact Nat.add_le_add_left (by decide) _) ?_
          exact qS.sub (qsub_cons rfl (qsub_cons rfl (qsub_cons rfl (qsub_cons rfl (qsub_cons rfl (qsub_cons rfl (qsub_nil _))))))) (hnx _ _)
        · refine r_aload_n (pc := 1155) cx dL_law_1155 rfl ?_
          refine r_iconst (pc := 1156) cx dL_law_1156 ?_
          refine r_laload (pc := 1157) cx hO rfl (by decide) dL_law_1157 ?_
          refine r_lload (pc := 1158) cx dL_law_1158 rfl ?_
          refine r_lcmp (pc := 1160) cx dL_law_1160 ?_
          refine r_if_eq (pc := 1161) (tgt := 1166) cx dL_law_1161 (by decide) ?_ ?_
          · refine r_goto (pc := 1166) (tgt := 1799) cx dL_law_1166 (by decide) ?_
            refine r_iinc (pc := 1799) cx dL_law_1799 rfl (by decide) rfl ?_
            refine r_goto (pc := 1802) (tgt := 28) cx dL_law_1802 (by decide) ?_
            refine qS.widen (k2 := kc + 24) (n2 := nc + 96) (by first | exact Nat.le_refl _ | exact Nat.le_add_right _ _ | exact Nat.add_le_add_left (by decide) _) (by first | exact Nat.le_refl _ | exact Nat.le_add_right _ _ | exact Nat.add_le_add_left (by decide) _) ?_
            exact qS.sub (qsub_cons rfl (qsub_cons rfl (qsub_cons rfl (qsub_cons rfl (qsub_cons rfl (qsub_cons rfl (qsub_nil _))))))) (hnx _ _)
          · exact qS.fail
      · exact qS.fail
def fL_c16 (L : Nat) (xs : Nat → Int32) (nx : Int → qSt → Option Unit) (i : Int) (σ : qSt) : Option Unit :=
  (qif (0 ≤ (i + 1) ∧ (i + 1) < (L : Int)) <| if qI (qXs xs (i + 1)) = 0 then (qif (0 ≤ (i + 2) ∧ (i + 2) < (L : Int)) <| (qif (0 ≤ (i + 3) ∧ (i + 3) < (L : Int)) <| (qif (0 ≤ (i + 4) ∧ (i + 4) < (L : Int)) <| (qif (0 ≤ (i + 5) ∧ (i + 5) < (L : Int)) <| (qif (0 ≤ (i + 6) ∧ (i + 6) < (L : Int)) <| (qbd (fL_scatter 0 (qXs xs (i + 2)) (qXs xs (i + 3)) (qXs xs (i + 4)) (qXs xs (i + 5)) (qXs xs (i + 6)) σ) fun (k10 : Int) (σ9 : qSt) => (qif (0 ≤ (i + 1) ∧ (i + 1) < (L : Int)) <| if qI (qXs xs (i + 1)) = 0 then (qif (0 ≤ (i + 2) ∧ (i + 2) < (L : Int)) <| (qif (0 ≤ (i + 3) ∧ (i + 3) < (L : Int)) <| (qif (0 ≤ (i + 4) ∧ (i + 4) < (L : Int)) <| (qif (0 ≤ (i + 5) ∧ (i + 5) < (L : Int)) <| (qif (0 ≤ (i + 6) ∧ (i + 6) < (L : Int)) <| (qbd (fX6_scatter 0 (qXs xs (i + 2)) (qXs xs (i + 3)) (qXs xs (i + 4)) (qXs xs (i + 5)) (qXs xs (i + 6)) σ9) fun (r14 : Int) (σ15 : qSt) => ((fX6_thrown σ15 ).bind fun (r16 : Int) => if qI r16 = qI k10 then if qI k10 = 0 then (qif (0 ≤ (0 : Int) ∧ (0 : Int) < 1) <| if qI (qlcmp (σ15 64 0) r14) = 0 then nx (i + 7) σ15 else none) else nx (i + 7) σ15 else none))))))) else (qif (0 ≤ (i + 2) ∧ (i + 2) < (L : Int)) <| (qif (0 ≤ (i + 3) ∧ (i + 3) < (L : Int)) <| (qif (0 ≤ (i + 4) ∧ (i + 4) < (L : Int)) <| (qif (0 ≤ (i + 5) ∧ (i + 5) < (L : Int)) <| (qif (0 ≤ (i + 6) ∧ (i + 6) < (L : Int)) <| (qbd (fX6_scatter 1 (qXs xs (i + 2)) (qXs xs (i + 3)) (qXs xs (i + 4)) (qXs xs (i + 5)) (qXs xs (i + 6)) σ9) fun (r11 : Int) (σ12 : qSt) => ((fX6_thrown σ12 ).bind fun (r13 : Int) => if qI r13 = qI k10 then if qI k10 = 0 then (qif (0 ≤ (0 : Int) ∧ (0 : Int) < 1) <| if qI (qlcmp (σ12 64 0) r11) = 0 then nx (i + 7) σ12 else none) else nx (i + 7) σ12 else none)))))))))))))) else (qif (0 ≤ (i + 2) ∧ (i + 2) < (L : Int)) <| (qif (0 ≤ (i + 3) ∧ (i + 3) < (L : Int)) <| (qif (0 ≤ (i + 4) ∧ (i + 4) < (L : Int)) <| (qif (0 ≤ (i + 5) ∧ (i + 5) < (L : Int)) <| (qif (0 ≤ (i + 6) ∧ (i + 6) < (L : Int)) <| (qbd (fL_scatter 1 (qXs xs (i + 2)) (qXs xs (i + 3)) (qXs xs (i + 4)) (qXs xs (i + 5)) (qXs xs (i + 6)) σ) fun (k2 : Int) (σ1 : qSt) => (qif (0 ≤ (i + 1) ∧ (i + 1) < (L : Int)) <| if qI (qXs xs (i + 1)) = 0 then (qif (0 ≤ (i + 2) ∧ (i + 2) < (L : Int)) <| (qif (0 ≤ (i + 3) ∧ (i + 3) < (L : Int)) <| (qif (0 ≤ (i + 4) ∧ (i + 4) < (L : Int)) <| (qif (0 ≤ (i + 5) ∧ (i + 5) < (L : Int)) <| (qif (0 ≤ (i + 6) ∧ (i + 6) < (L : Int)) <| (qbd (fX6_scatter 0 (qXs xs (i + 2)) (qXs xs (i + 3)) (qXs xs (i + 4)) (qXs xs (i + 5)) (qXs xs (i + 6)) σ1) fun (r6 : Int) (σ7 : qSt) => ((fX6_thrown σ7 ).bind fun (r8 : Int) => if qI r8 = qI k2 then if qI k2 = 0 then (qif (0 ≤ (0 : Int) ∧ (0 : Int) < 1) <| if qI (qlcmp (σ7 64 0) r6) = 0 then nx (i + 7) σ7 else none) else nx (i + 7) σ7 else none))))))) else (qif (0 ≤ (i + 2) ∧ (i + 2) < (L : Int)) <| (qif (0 ≤ (i + 3) ∧ (i + 3) < (L : Int)) <| (qif (0 ≤ (i + 4) ∧ (i + 4) < (L : Int)) <| (qif (0 ≤ (i + 5) ∧ (i + 5) < (L : Int)) <| (qif (0 ≤ (i + 6) ∧ (i + 6) < (L : Int)) <| (qbd (fX6_scatter 1 (qXs xs (i + 2)) (qXs xs (i + 3)) (qXs xs (i + 4)) (qXs xs (i + 5)) (qXs xs (i + 6)) σ1) fun (r3 : Int) (σ4 : qSt) => ((fX6_thrown σ4 ).bind fun (r5 : Int) => if qI r5 = qI k2 then if qI k2 = 0 then (qif (0 ≤ (0 : Int) ∧ (0 : Int) < 1) <| if qI (qlcmp (σ4 64 0) r3) = 0 then nx (i + 7) σ4 else none) else nx (i + 7) σ4 else none)))))))))))))))
set_option maxRecDepth 100000 in
set_option maxHeartbeats 4000000 in
theorem tL_c16 {p : Program} {l : Launch} {e : Env} {s : State} {m : MethodId} {args : Array Value} {below : List Frame} {meth : Method} {c : Code} {z0 : Nat} {g : qG} {w : qWd} {ad am : Nat → Nat} {ao aod b L kc nc : Nat} {xs : Nat → Int32} {Q : Unit → State → Prop} {nx : Int → qSt → Option Unit} (cx : qCx p s m meth c cL_law 9 RL (some .boolean) g z0) (hX : qScr b L xs z0 s) (hB : qBC g ad w) (hM : qBM g am w) (hO : w 64 = some (ao, qAL (g.2 4) 1)) (hD : w 65 = some (aod, qAD (g.2 5) 1)) (h66 : w 66 = none) (h67 : w 67 = none) (h68 : w 68 = none) (hl : l.stackTraces = false) (hk : kc + 24 ≤ 601024 ∧ nc + 96 ≤ 7293034) (hnx : ∀ i σ, qS p l e room_1 s m args below meth c 9 g z0 w (kc + 24) (nc + 96) Q (nx i σ) σ 28 [(0, some (.ref b)), (1, some (.ref (ad 0))), (2, some (.ref (am 47))), (3, some (.ref ao)), (4, some (.ref aod)), (5, some (.int (qI i)))] []) (i : Int) (σ : qSt) : qS p l e room_1 s m args below meth c 9 g z0 w kc nc Q (fL_c16 L xs nx i σ) σ 1169 [(0, some (.ref b)), (1, some (.ref (ad 0))), (2, some (.ref (am 47))), (3, some (.ref ao)), (4, some (.ref aod)), (5, some (.int (qI i)))] [] := by
  unfold fL_c16
  refine r_aload_n (pc := 1169) cx dL_law_1169 rfl ?_
  refine r_aload_n (pc := 1170) cx dL_law_1170 rfl ?_
  refine r_iload (pc := 1171) cx dL_law_1171 rfl ?_
  refine r_iconst (pc := 1173) cx dL_law_1173 ?_
  refine r_iadd (pc := 1174) cx dL_law_1174 ?_
  refine r_sld (pc := 1175) cx hX dL_law_1175 ?_
  refine r_if_eq (pc := 1176) (tgt := 1183) cx dL_law_1176 (by decide) ?_ ?_
  · refine r_iconst (pc := 1183) cx dL_law_1183 ?_
    refine r_aload_n (pc := 1184) cx dL_law_1184 rfl ?_
    refine r_iload (pc := 1185) cx dL_law_1185 rfl ?_
    refine r_iconst (pc := 1187) cx dL_law_1187 ?_
    refine r_iadd (pc := 1188) cx dL_law_1188 ?_
    refine r_sld (pc := 1189) cx hX dL_law_1189 ?_
    refine r_aload_n (pc := 1190) cx dL_law_1190 rfl ?_
    refine r_iload (pc := 1191) cx dL_law_1191 rfl ?_
    refine r_iconst (pc := 1193) cx dL_law_1193 ?_
    refine r_iadd (pc := 1194) cx dL_law_1194 ?_
    refine r_sld (pc := 1195) cx hX dL_law_1195 ?_
    refine r_aload_n (pc := 1196) cx dL_law_1196 rfl ?_
    refine r_iload (pc := 1197) cx dL_law_1197 rfl ?_
    refine r_iconst (pc := 1199) cx dL_law_1199 ?_
    refine r_iadd (pc := 1200) cx dL_law_1200 ?_
    refine r_sld (pc := 1201) cx hX dL_law_1201 ?_
    refine r_aload_n (pc := 1202) cx dL_law_1202 rfl ?_
    refine r_iload (pc := 1203) cx dL_law_1203 rfl ?_
    refine r_iconst (pc := 1205) cx dL_law_1205 ?_
    refine r_iadd (pc := 1206) cx dL_law_1206 ?_
    refine r_sld (pc := 1207) cx hX dL_law_1207 ?_
    refine r_aload_n (pc := 1208) cx dL_law_1208 rfl ?_
    refine r_iload (pc := 1209) cx dL_law_1209 rfl ?_
    refine r_bipush (pc := 1211) (v := 6) cx dL_law_1211 (by decide +kernel) ?_
    refine r_iadd (pc := 1213) cx dL_law_1213 ?_
    refine r_sld (pc := 1214) cx hX dL_law_1214 ?_
    refine r_aload_n (pc := 1215) cx dL_law_1215 rfl ?_
    refine r_callSW (pc := 1216) cx (tL_scatter hB hO h66 h67 h68 hl 0 (qXs xs (i + 2)) (qXs xs (i + 3)) (qXs xs (i + 4)) (qXs xs (i + 5)) (qXs xs (i + 6)) σ) qmh_L_scatter wm_L_156 dL_law_1216 rfl rfl (Nat.le_of_ble_eq_true rfl) ⟨Nat.le_of_ble_eq_true rfl, Nat.le_of_ble_eq_true rfl⟩ ⟨by show kc + 2 ≤ 601024; omega, by show nc + 7 ≤ 7293034; omega⟩ (fun k10 σ9 _ => ?_)
    refine r_istore (pc := 1219) cx dL_law_1219 (by decide) rfl ?_
    refine r_aload_n (pc := 1221) cx dL_law_1221 rfl ?_
    refine r_aload_n (pc := 1222) cx dL_law_1222 rfl ?_
    refine r_iload (pc := 1223) cx dL_law_1223 rfl ?_
    refine r_iconst (pc := 1225) cx dL_law_1225 ?_
    refine r_iadd (pc := 1226) cx dL_law_1226 ?_
    refine r_sld (pc := 1227) cx hX dL_law_1227 ?_
    refine r_if_eq (pc := 1228) (tgt := 1235) cx dL_law_1228 (by decide) ?_ ?_
    · refine r_iconst (pc := 1235) cx dL_law_1235 ?_
      refine r_aload_n (pc := 1236) cx dL_law_1236 rfl ?_
      refine r_iload (pc := 1237) cx dL_law_1237 rfl ?_
      refine r_iconst (pc := 1239) cx dL_law_1239 ?_
      refine r_iadd (pc := 1240) cx dL_law_1240 ?_
      refine r_sld (pc := 1241) cx hX dL_law_1241 ?_
      refine r_aload_n (pc := 1242) cx dL_law_1242 rfl ?_
      refine r_iload (pc := 1243) cx dL_law_1243 rfl ?_
      refine r_iconst (pc := 1245) cx dL_law_1245 ?_
      refine r_iadd (pc := 1246) cx dL_law_1246 ?_
      refine r_sld (pc := 1247) cx hX dL_law_1247 ?_
      refine r_aload_n (pc := 1248) cx dL_law_1248 rfl ?_
      refine r_iload (pc := 1249) cx dL_law_1249 rfl ?_
      refine r_iconst (pc := 1251) cx dL_law_1251 ?_
      refine r_iadd (pc := 1252) cx dL_law_1252 ?_
      refine r_sld (pc := 1253) cx hX dL_law_1253 ?_
      refine r_aload_n (pc := 1254) cx dL_law_1254 rfl ?_
      refine r_iload (pc := 1255) cx dL_law_1255 rfl ?_
      refine r_iconst (pc := 1257) cx dL_law_1257 ?_
      refine r_iadd (pc := 1258) cx dL_law_1258 ?_
      refine r_sld (pc := 1259) cx hX dL_law_1259 ?_
      refine r_aload_n (pc := 1260) cx dL_law_1260 rfl ?_
      refine r_iload (pc := 1261) cx dL_law_1261 rfl ?_
      refine r_bipush (pc := 1263) (v := 6) cx dL_law_1263 (by decide +kernel) ?_
      refine r_iadd (pc := 1265) cx dL_law_1265 ?_
      refine r_sld (pc := 1266) cx hX dL_law_1266 ?_
      refine r_dVj (pc := 1267) cx (tX6_scatter hM 0 (qXs xs (i + 2)) (qXs xs (i + 3)) (qXs xs (i + 4)) (qXs xs (i + 5)) (qXs xs (i + 6)) σ9) qm_X6_scatter qv_X6_scatter hcl_X6 (lw47 hM) wm_L_158 dL_law_1267 rfl rfl (Nat.le_of_ble_eq_true rfl) ⟨Nat.le_of_ble_eq_true rfl, Nat.le_of_ble_eq_true rfl⟩ ⟨rfl, rfl⟩ ⟨by show kc + 2 ≤ 601024; omega, by show nc + 7 ≤ 7293034; omega⟩ (fun r14 σ15 => ?_)
      refine r_lstore (pc := 1270) cx dL_law_1270 (by decide) rfl ?_
      refine r_aload_n (pc := 1272) cx dL_law_1272 rfl ?_
      refine r_pVi (pc := 1273) cx (tX6_thrown hM  σ15) qm_X6_thrown qv_X6_thrown hcl_X6 (lw47 hM) wm_L_101 dL_law_1273 rfl rfl (Nat.le_of_ble_eq_true rfl) ⟨Nat.le_of_ble_eq_true rfl, Nat.le_of_ble_eq_true rfl⟩ ⟨rfl, rfl⟩ ⟨by show kc + 2 ≤ 601024; omega, by show nc + 7 ≤ 7293034; omega⟩ (fun r16 => ?_)
      refine r_iload (pc := 1276) cx dL_law_1276 rfl ?_
      refine r_icmp_eq (pc := 1278) (tgt := 1283) cx dL_law_1278 (by decide) ?_ ?_
      · refine r_iload (pc := 1283) cx dL_law_1283 rfl ?_
        refine r_if_ne (pc := 1285) (tgt := 1299) cx dL_law_1285 (by decide) ?_ ?_
        · refine r_goto (pc := 1299) (tgt := 1799) cx dL_law_1299 (by decide) ?_
          refine r_iinc (pc := 1799) cx dL_law_1799 rfl (by decide) rfl ?_
          refine r_goto (pc := 1802) (tgt := 28) cx dL_law_1802 (by decide) ?_
          refine qS.widen (k2 := kc + 24) (n2 := nc + 96) (by first | exact Nat.le_refl _ | exact Nat.le_add_right _ _ | exact Nat.add_le_add_left (by decide) _) (by first | exact Nat.le_refl _ | exact Nat.le_add_right _ _ | exact Nat.add_le_add_left (by decide) _) ?_
          exact qS.sub (qsub_cons rfl (qsub_cons rfl (qsub_cons rfl (qsub_cons rfl (qsub_cons rfl (qsub_cons rfl (qsub_nil _))))))) (hnx _ _)
        · refine r_aload_n (pc := 1288) cx dL_law_1288 rfl ?_
          refine r_iconst (pc := 1289) cx dL_law_1289 ?_
          refine r_laload (pc := 1290) cx hO rfl (by decide) dL_law_1290 ?_
          refine r_lload (pc := 1291) cx dL_law_1291 rfl ?_
          refine r_lcmp (pc := 1293) cx dL_law_1293 ?_
          refine r_if_eq (pc := 1294) (tgt := 1299) cx dL_law_1294 (by decide) ?_ ?_
          · refine r_goto (pc := 1299) (tgt := 1799) cx dL_law_1299 (by decide) ?_
            refine r_iinc (pc := 1799) cx dL_law_1799 rfl (by decide) rfl ?_
            refine r_goto (pc := 1802) (tgt := 28) cx dL_law_1802 (by decide) ?_
            refine qS.widen (k2 := kc + 24) (n2 := nc + 96) (by first | exact Nat.le_refl _ | exact Nat.le_add_right _ _ | exact Nat.add_le_add_left (by decide) _) (by first | exact Nat.le_refl _ | exact Nat.le_add_right _ _ | exact Nat.add_le_add_left (by decide) _) ?_
            exact qS.sub (qsub_cons rfl (qsub_cons rfl (qsub_cons rfl (qsub_cons rfl (qsub_cons rfl (qsub_cons rfl (qsub_nil _))))))) (hnx _ _)
          · exact qS.fail
      · exact qS.fail
    · refine r_iconst (pc := 1231) cx dL_law_1231 ?_
      refine r_goto (pc := 1232) (tgt := 1236) cx dL_law_1232 (by decide) ?_
      refine r_aload_n (pc := 1236) cx dL_law_1236 rfl ?_
      refine r_iload (pc := 1237) cx dL_law_1237 rfl ?_
      refine r_iconst (pc := 1239) cx dL_law_1239 ?_
      refine r_iadd (pc := 1240) cx dL_law_1240 ?_
      refine r_sld (pc := 1241) cx hX dL_law_1241 ?_
      refine r_aload_n (pc := 1242) cx dL_law_1242 rfl ?_
      refine r_iload (pc := 1243) cx dL_law_1243 rfl ?_
      refine r_iconst (pc := 1245) cx dL_law_1245 ?_
      refine r_iadd (pc := 1246) cx dL_law_1246 ?_
      refine r_sld (pc := 1247) cx hX dL_law_1247 ?_
      refine r_aload_n (pc := 1248) cx dL_law_1248 rfl ?_
      refine r_iload (pc := 1249) cx dL_law_1249 rfl ?_
      refine r_iconst (pc := 1251) cx dL_law_1251 ?_
      refine r_iadd (pc := 1252) cx dL_law_1252 ?_
      refine r_sld (pc := 1253) cx hX dL_law_1253 ?_
      refine r_aload_n (pc := 1254) cx dL_law_1254 rfl ?_
      refine r_iload (pc := 1255) cx dL_law_1255 rfl ?_
      refine r_iconst (pc := 1257) cx dL_law_1257 ?_
      refine r_iadd (pc := 1258) cx dL_law_1258 ?_
      refine r_sld (pc := 1259) cx hX dL_law_1259 ?_
      refine r_aload_n (pc := 1260) cx dL_law_1260 rfl ?_
      refine r_iload (pc := 1261) cx dL_law_1261 rfl ?_
      refine r_bipush (pc := 1263) (v := 6) cx dL_law_1263 (by decide +kernel) ?_
      refine r_iadd (pc := 1265) cx dL_law_1265 ?_
      refine r_sld (pc := 1266) cx hX dL_law_1266 ?_
      refine r_dVj (pc := 1267) cx (tX6_scatter hM 1 (qXs xs (i + 2)) (qXs xs (i + 3)) (qXs xs (i + 4)) (qXs xs (i + 5)) (qXs xs (i + 6)) σ9) qm_X6_scatter qv_X6_scatter hcl_X6 (lw47 hM) wm_L_158 dL_law_1267 rfl rfl (Nat.le_of_ble_eq_true rfl) ⟨Nat.le_of_ble_eq_true rfl, Nat.le_of_ble_eq_true rfl⟩ ⟨rfl, rfl⟩ ⟨by show kc + 2 ≤ 601024; omega, by show nc + 7 ≤ 7293034; omega⟩ (fun r11 σ12 => ?_)
      refine r_lstore (pc := 1270) cx dL_law_1270 (by decide) rfl ?_
      refine r_aload_n (pc := 1272) cx dL_law_1272 rfl ?_
      refine r_pVi (pc := 1273) cx (tX6_thrown hM  σ12) qm_X6_thrown qv_X6_thrown hcl_X6 (lw47 hM) wm_L_101 dL_law_1273 rfl rfl (Nat.le_of_ble_eq_true rfl) ⟨Nat.le_of_ble_eq_true rfl, Nat.le_of_ble_eq_true rfl⟩ ⟨rfl, rfl⟩ ⟨by show kc + 2 ≤ 601024; omega, by show nc + 7 ≤ 7293034; omega⟩ (fun r13 => ?_)
      refine r_iload (pc := 1276) cx dL_law_1276 rfl ?_
      refine r_icmp_eq (pc := 1278) (tgt := 1283) cx dL_law_1278 (by decide) ?_ ?_
      · refine r_iload (pc := 1283) cx dL_law_1283 rfl ?_
        refine r_if_ne (pc := 1285) (tgt := 1299) cx dL_law_1285 (by decide) ?_ ?_
        · refine r_goto (pc := 1299) (tgt := 1799) cx dL_law_1299 (by decide) ?_
          refine r_iinc (pc := 1799) cx dL_law_1799 rfl (by decide) rfl ?_
          refine r_goto (pc := 1802) (tgt := 28) cx dL_law_1802 (by decide) ?_
          refine qS.widen (k2 := kc + 24) (n2 := nc + 96) (by first | exact Nat.le_refl _ | exact Nat.le_add_right _ _ | exact Nat.add_le_add_left (by decide) _) (by first | exact Nat.le_refl _ | exact Nat.le_add_right _ _ | exact Nat.add_le_add_left (by decide) _) ?_
          exact qS.sub (qsub_cons rfl (qsub_cons rfl (qsub_cons rfl (qsub_cons rfl (qsub_cons rfl (qsub_cons rfl (qsub_nil _))))))) (hnx _ _)
        · refine r_aload_n (pc := 1288) cx dL_law_1288 rfl ?_
          refine r_iconst (pc := 1289) cx dL_law_1289 ?_
          refine r_laload (pc := 1290) cx hO rfl (by decide) dL_law_1290 ?_
          refine r_lload (pc := 1291) cx dL_law_1291 rfl ?_
          refine r_lcmp (pc := 1293) cx dL_law_1293 ?_
          refine r_if_eq (pc := 1294) (tgt := 1299) cx dL_law_1294 (by decide) ?_ ?_
          · refine r_goto (pc := 1299) (tgt := 1799) cx dL_law_1299 (by decide) ?_
            refine r_iinc (pc := 1799) cx dL_law_1799 rfl (by decide) rfl ?_
            refine r_goto (pc := 1802) (tgt := 28) cx dL_law_1802 (by decide) ?_
            refine qS.widen (k2 := kc + 24) (n2 := nc + 96) (by first | exact Nat.le_refl _ | exact Nat.le_add_right _ _ | exact Nat.add_le_add_left (by decide) _) (by first | exact Nat.le_refl _ | exact Nat.le_add_right _ _ | exact Nat.add_le_add_left (by decide) _) ?_
            exact qS.sub (qsub_cons rfl (qsub_cons rfl (qsub_cons rfl (qsub_cons rfl (qsub_cons rfl (qsub_cons rfl (qsub_nil _))))))) (hnx _ _)
          · exact qS.fail
      · exact qS.fail
  · refine r_iconst (pc := 1179) cx dL_law_1179 ?_
    refine r_goto (pc := 1180) (tgt := 1184) cx dL_law_1180 (by decide) ?_
    refine r_aload_n (pc := 1184) cx dL_law_1184 rfl ?_
    refine r_iload (pc := 1185) cx dL_law_1185 rfl ?_
    refine r_iconst (pc := 1187) cx dL_law_1187 ?_
    refine r_iadd (pc := 1188) cx dL_law_1188 ?_
    refine r_sld (pc := 1189) cx hX dL_law_1189 ?_
    refine r_aload_n (pc := 1190) cx dL_law_1190 rfl ?_
    refine r_iload (pc := 1191) cx dL_law_1191 rfl ?_
    refine r_iconst (pc := 1193) cx dL_law_1193 ?_
    refine r_iadd (pc := 1194) cx dL_law_1194 ?_
    refine r_sld (pc := 1195) cx hX dL_law_1195 ?_
    refine r_aload_n (pc := 1196) cx dL_law_1196 rfl ?_
    refine r_iload (pc := 1197) cx dL_law_1197 rfl ?_
    refine r_iconst (pc := 1199) cx dL_law_1199 ?_
    refine r_iadd (pc := 1200) cx dL_law_1200 ?_
    refine r_sld (pc := 1201) cx hX dL_law_1201 ?_
    refine r_aload_n (pc := 1202) cx dL_law_1202 rfl ?_
    refine r_iload (pc := 1203) cx dL_law_1203 rfl ?_
    refine r_iconst (pc := 1205) cx dL_law_1205 ?_
    refine r_iadd (pc := 1206) cx dL_law_1206 ?_
    refine r_sld (pc := 1207) cx hX dL_law_1207 ?_
    refine r_aload_n (pc := 1208) cx dL_law_1208 rfl ?_
    refine r_iload (pc := 1209) cx dL_law_1209 rfl ?_
    refine r_bipush (pc := 1211) (v := 6) cx dL_law_1211 (by decide +kernel) ?_
    refine r_iadd (pc := 1213) cx dL_law_1213 ?_
    refine r_sld (pc := 1214) cx hX dL_law_1214 ?_
    refine r_aload_n (pc := 1215) cx dL_law_1215 rfl ?_
    refine r_callSW (pc := 1216) cx (tL_scatter hB hO h66 h67 h68 hl 1 (qXs xs (i + 2)) (qXs xs (i + 3)) (qXs xs (i + 4)) (qXs xs (i + 5)) (qXs xs (i + 6)) σ) qmh_L_scatter wm_L_156 dL_law_1216 rfl rfl (Nat.le_of_ble_eq_true rfl) ⟨Nat.le_of_ble_eq_true rfl, Nat.le_of_ble_eq_true rfl⟩ ⟨by show kc + 2 ≤ 601024; omega, by show nc + 7 ≤ 7293034; omega⟩ (fun k2 σ1 _ => ?_)
    refine r_istore (pc := 1219) cx dL_law_1219 (by decide) rfl ?_
    refine r_aload_n (pc := 1221) cx dL_law_1221 rfl ?_
    refine r_aload_n (pc := 1222) cx dL_law_1222 rfl ?_
    refine r_iload (pc := 1223) cx dL_law_1223 rfl ?_
    refine r_iconst (pc := 1225) cx dL_law_1225 ?_
    refine r_iadd (pc := 1226) cx dL_law_1226 ?_
    refine r_sld (pc := 1227) cx hX dL_law_1227 ?_
    refine r_if_eq (pc := 1228) (tgt := 1235) cx dL_law_1228 (by decide) ?_ ?_
    · refine r_iconst (pc := 1235) cx dL_law_1235 ?_
      refine r_aload_n (pc := 1236) cx dL_law_1236 rfl ?_
      refine r_iload (pc := 1237) cx dL_law_1237 rfl ?_
      refine r_iconst (pc := 1239) cx dL_law_1239 ?_
      refine r_iadd (pc := 1240) cx dL_law_1240 ?_
      refine r_sld (pc := 1241) cx hX dL_law_1241 ?_
      refine r_aload_n (pc := 1242) cx dL_law_1242 rfl ?_
      refine r_iload (pc := 1243) cx dL_law_1243 rfl ?_
      refine r_iconst (pc := 1245) cx dL_law_1245 ?_
      refine r_iadd (pc := 1246) cx dL_law_1246 ?_
      refine r_sld (pc := 1247) cx hX dL_law_1247 ?_
      refine r_aload_n (pc := 1248) cx dL_law_1248 rfl ?_
      refine r_iload (pc := 1249) cx dL_law_1249 rfl ?_
      refine r_iconst (pc := 1251) cx dL_law_1251 ?_
      refine r_iadd (pc := 1252) cx dL_law_1252 ?_
      refine r_sld (pc := 1253) cx hX dL_law_1253 ?_
      refine r_aload_n (pc := 1254) cx dL_law_1254 rfl ?_
      refine r_iload (pc := 1255) cx dL_law_1255 rfl ?_
      refine r_iconst (pc := 1257) cx dL_law_1257 ?_
      refine r_iadd (pc := 1258) cx dL_law_1258 ?_
      refine r_sld (pc := 1259) cx hX dL_law_1259 ?_
      refine r_aload_n (pc := 1260) cx dL_law_1260 rfl ?_
      refine r_iload (pc := 1261) cx dL_law_1261 rfl ?_
      refine r_bipush (pc := 1263) (v := 6) cx dL_law_1263 (by decide +kernel) ?_
      refine r_iadd (pc := 1265) cx dL_law_1265 ?_
      refine r_sld (pc := 1266) cx hX dL_law_1266 ?_
      refine r_dVj (pc := 1267) cx (tX6_scatter hM 0 (qXs xs (i + 2)) (qXs xs (i + 3)) (qXs xs (i + 4)) (qXs xs (i + 5)) (qXs xs (i + 6)) σ1) qm_X6_scatter qv_X6_scatter hcl_X6 (lw47 hM) wm_L_158 dL_law_1267 rfl rfl (Nat.le_of_ble_eq_true rfl) ⟨Nat.le_of_ble_eq_true rfl, Nat.le_of_ble_eq_true rfl⟩ ⟨rfl, rfl⟩ ⟨by show kc + 2 ≤ 601024; omega, by show nc + 7 ≤ 7293034; omega⟩ (fun r6 σ7 => ?_)
      refine r_lstore (pc := 1270) cx dL_law_1270 (by decide) rfl ?_
      refine r_aload_n (pc := 1272) cx dL_law_1272 rfl ?_
      refine r_pVi (pc := 1273) cx (tX6_thrown hM  σ7) qm_X6_thrown qv_X6_thrown hcl_X6 (lw47 hM) wm_L_101 dL_law_1273 rfl rfl (Nat.le_of_ble_eq_true rfl) ⟨Nat.le_of_ble_eq_true rfl, Nat.le_of_ble_eq_true rfl⟩ ⟨rfl, rfl⟩ ⟨by show kc + 2 ≤ 601024; omega, by show nc + 7 ≤ 7293034; omega⟩ (fun r8 => ?_)
      refine r_iload (pc := 1276) cx dL_law_1276 rfl ?_
      refine r_icmp_eq (pc := 1278) (tgt := 1283) cx dL_law_1278 (by decide) ?_ ?_
      · refine r_iload (pc := 1283) cx dL_law_1283 rfl ?_
        refine r_if_ne (pc := 1285) (tgt := 1299) cx dL_law_1285 (by decide) ?_ ?_
        · refine r_goto (pc := 1299) (tgt := 1799) cx dL_law_1299 (by decide) ?_
          refine r_iinc (pc := 1799) cx dL_law_1799 rfl (by decide) rfl ?_
          refine r_goto (pc := 1802) (tgt := 28) cx dL_law_1802 (by decide) ?_
          refine qS.widen (k2 := kc + 24) (n2 := nc + 96) (by first | exact Nat.le_refl _ | exact Nat.le_add_right _ _ | exact Nat.add_le_add_left (by decide) _) (by first | exact Nat.le_refl _ | exact Nat.le_add_right _ _ | exact Nat.add_le_add_left (by decide) _) ?_
          exact qS.sub (qsub_cons rfl (qsub_cons rfl (qsub_cons rfl (qsub_cons rfl (qsub_cons rfl (qsub_cons rfl (qsub_nil _))))))) (hnx _ _)
        · refine r_aload_n (pc := 1288) cx dL_law_1288 rfl ?_
          refine r_iconst (pc := 1289) cx dL_law_1289 ?_
          refine r_laload (pc := 1290) cx hO rfl (by decide) dL_law_1290 ?_
          refine r_lload (pc := 1291) cx dL_law_1291 rfl ?_
          refine r_lcmp (pc := 1293) cx dL_law_1293 ?_
          refine r_if_eq (pc := 1294) (tgt := 1299) cx dL_law_1294 (by decide) ?_ ?_
          · refine r_goto (pc := 1299) (tgt := 1799) cx dL_law_1299 (by decide) ?_
            refine r_iinc (pc := 1799) cx dL_law_1799 rfl (by decide) rfl ?_
            refine r_goto (pc := 1802) (tgt := 28) cx dL_law_1802 (by decide) ?_
            refine qS.widen (k2 := kc + 24) (n2 := nc + 96) (by first | exact Nat.le_refl _ | exact Nat.le_add_right _ _ | exact Nat.add_le_add_left (by decide) _) (by first | exact Nat.le_refl _ | exact Nat.le_add_right _ _ | exact Nat.add_le_add_left (by decide) _) ?_
            exact qS.sub (qsub_cons rfl (qsub_cons rfl (qsub_cons rfl (qsub_cons rfl (qsub_cons rfl (qsub_cons rfl (qsub_nil _))))))) (hnx _ _)
          · exact qS.fail
      · exact qS.fail
    · refine r_iconst (pc := 1231) cx dL_law_1231 ?_
      refine r_goto (pc := 1232) (tgt := 1236) cx dL_law_1232 (by decide) ?_
      refine r_aload_n (pc := 1236) cx dL_law_1236 rfl ?_
      refine r_iload (pc := 1237) cx dL_law_1237 rfl ?_
      refine r_iconst (pc := 1239) cx dL_law_1239 ?_
      refine r_iadd (pc := 1240) cx dL_law_1240 ?_
      refine r_sld (pc := 1241) cx hX dL_law_1241 ?_
      refine r_aload_n (pc := 1242) cx dL_law_1242 rfl ?_
      refine r_iload (pc := 1243) cx dL_law_1243 rfl ?_
      refine r_iconst (pc := 1245) cx dL_law_1245 ?_
      refine r_iadd (pc := 1246) cx dL_law_1246 ?_
      refine r_sld (pc := 1247) cx hX dL_law_1247 ?_
      refine r_aload_n (pc := 1248) cx dL_law_1248 rfl ?_
      refine r_iload (pc := 1249) cx dL_law_1249 rfl ?_
      refine r_iconst (pc := 1251) cx dL_law_1251 ?_
      refine r_iadd (pc := 1252) cx dL_law_1252 ?_
      refine r_sld (pc := 1253) cx hX dL_law_1253 ?_
      refine r_aload_n (pc := 1254) cx dL_law_1254 rfl ?_
      refine r_iload (pc := 1255) cx dL_law_1255 rfl ?_
      refine r_iconst (pc := 1257) cx dL_law_1257 ?_
      refine r_iadd (pc := 1258) cx dL_law_1258 ?_
      refine r_sld (pc := 1259) cx hX dL_law_1259 ?_
      refine r_aload_n (pc := 1260) cx dL_law_1260 rfl ?_
      refine r_iload (pc := 1261) cx dL_law_1261 rfl ?_
      refine r_bipush (pc := 1263) (v := 6) cx dL_law_1263 (by decide +kernel) ?_
      refine r_iadd (pc := 1265) cx dL_law_1265 ?_
      refine r_sld (pc := 1266) cx hX dL_law_1266 ?_
      refine r_dVj (pc := 1267) cx (tX6_scatter hM 1 (qXs xs (i + 2)) (qXs xs (i + 3)) (qXs xs (i + 4)) (qXs xs (i + 5)) (qXs xs (i + 6)) σ1) qm_X6_scatter qv_X6_scatter hcl_X6 (lw47 hM) wm_L_158 dL_law_1267 rfl rfl (Nat.le_of_ble_eq_true rfl) ⟨Nat.le_of_ble_eq_true rfl, Nat.le_of_ble_eq_true rfl⟩ ⟨rfl, rfl⟩ ⟨by show kc + 2 ≤ 601024; omega, by show nc + 7 ≤ 7293034; omega⟩ (fun r3 σ4 => ?_)
      refine r_lstore (pc := 1270) cx dL_law_1270 (by decide) rfl ?_
      refine r_aload_n (pc := 1272) cx dL_law_1272 rfl ?_
      refine r_pVi (pc := 1273) cx (tX6_thrown hM  σ4) qm_X6_thrown qv_X6_thrown hcl_X6 (lw47 hM) wm_L_101 dL_law_1273 rfl rfl (Nat.le_of_ble_eq_true rfl) ⟨Nat.le_of_ble_eq_true rfl, Nat.le_of_ble_eq_true rfl⟩ ⟨rfl, rfl⟩ ⟨by show kc + 2 ≤ 601024; omega, by show nc + 7 ≤ 7293034; omega⟩ (fun r5 => ?_)
      refine r_iload (pc := 1276) cx dL_law_1276 rfl ?_
      refine r_icmp_eq (pc := 1278) (tgt := 1283) cx dL_law_1278 (by decide) ?_ ?_
      · refine r_iload (pc := 1283) cx dL_law_1283 rfl ?_
        refine r_if_ne (pc := 1285) (tgt := 1299) cx dL_law_1285 (by decide) ?_ ?_
        · refine r_goto (pc := 1299) (tgt := 1799) cx dL_law_1299 (by decide) ?_
          refine r_iinc (pc := 1799) cx dL_law_1799 rfl (by decide) rfl ?_
          refine r_goto (pc := 1802) (tgt := 28) cx dL_law_1802 (by decide) ?_
          refine qS.widen (k2 := kc + 24) (n2 := nc + 96) (by first | exact Nat.le_refl _ | exact Nat.le_add_right _ _ | exact Nat.add_le_add_left (by decide) _) (by first | exact Nat.le_refl _ | exact Nat.le_add_right _ _ | exact Nat.add_le_add_left (by decide) _) ?_
          exact qS.sub (qsub_cons rfl (qsub_cons rfl (qsub_cons rfl (qsub_cons rfl (qsub_cons rfl (qsub_cons rfl (qsub_nil _))))))) (hnx _ _)
        · refine r_aload_n (pc := 1288) cx dL_law_1288 rfl ?_
          refine r_iconst (pc := 1289) cx dL_law_1289 ?_
          refine r_laload (pc := 1290) cx hO rfl (by decide) dL_law_1290 ?_
          refine r_lload (pc := 1291) cx dL_law_1291 rfl ?_
          refine r_lcmp (pc := 1293) cx dL_law_1293 ?_
          refine r_if_eq (pc := 1294) (tgt := 1299) cx dL_law_1294 (by decide) ?_ ?_
          · refine r_goto (pc := 1299) (tgt := 1799) cx dL_law_1299 (by decide) ?_
            refine r_iinc (pc := 1799) cx dL_law_1799 rfl (by decide) rfl ?_
            refine r_goto (pc := 1802) (tgt := 28) cx dL_law_1802 (by decide) ?_
            refine qS.widen (k2 := kc + 24) (n2 := nc + 96) (by first | exact Nat.le_refl _ | exact Nat.le_add_right _ _ | exact Nat.add_le_add_left (by decide) _) (by first | exact Nat.le_refl _ | exact Nat.le_add_right _ _ | exact Nat.add_le_add_left (by decide) _) ?_
            exact qS.sub (qsub_cons rfl (qsub_cons rfl (qsub_cons rfl (qsub_cons rfl (qsub_cons rfl (qsub_cons rfl (qsub_nil _))))))) (hnx _ _)
          · exact qS.fail
      · exact qS.fail
def fL_c17 (L : Nat) (xs : Nat → Int32) (nx : Int → qSt → Option Unit) (i : Int) (σ : qSt) : Option Unit :=
  (qif (0 ≤ (i + 1) ∧ (i + 1) < (L : Int)) <| (qif (0 ≤ (i + 2) ∧ (i + 2) < (L : Int)) <| (qif (0 ≤ (i + 3) ∧ (i + 3) < (L : Int)) <| (qif (0 ≤ (i + 4) ∧ (i + 4) < (L : Int)) <| (qbd (fL_likeness (qXs xs (i + 1)) (qXs xs (i + 2)) (qXs xs (i + 3)) (qXs xs (i + 4)) σ) fun (k2 : Int) (σ1 : qSt) => (qif (0 ≤ (i + 1) ∧ (i + 1) < (L : Int)) <| (qif (0 ≤ (i + 2) ∧ (i + 2) < (L : Int)) <| (qif (0 ≤ (i + 3) ∧ (i + 3) < (L : Int)) <| (qif (0 ≤ (i + 4) ∧ (i + 4) < (L : Int)) <| (qbd (fX6_likeness (qXs xs (i + 1)) (qXs xs (i + 2)) (qXs xs (i + 3)) (qXs xs (i + 4)) σ1) fun (r3 : Int) (σ4 : qSt) => ((fX6_thrown σ4 ).bind fun (r5 : Int) => if qI r5 = qI k2 then if qI k2 = 0 then (qif (0 ≤ (0 : Int) ∧ (0 : Int) < 1) <| (qif (FP.f2d (UInt32.ofNat r3.toNat) &&& 0x7fffffffffffffff ≤ 0x7ff0000000000000) <| if qI ((Op.cmpValue (FP.dcmp (qDb (σ4 65 0)) (FP.f2d (UInt32.ofNat r3.toNat))) .l).toInt) = 0 then nx (i + 7) σ4 else none)) else nx (i + 7) σ4 else none)))))))))))
set_option maxRecDepth 100000 in
set_option maxHeartbeats 4000000 in
theorem tL_c17 {p : Program} {l : Launch} {e : Env} {s : State} {m : MethodId} {args : Array Value} {below : List Frame} {meth : Method} {c : Code} {z0 : Nat} {g : qG} {w : qWd} {ad am : Nat → Nat} {ao aod b L kc nc : Nat} {xs : Nat → Int32} {Q : Unit → State → Prop} {nx : Int → qSt → Option Unit} (cx : qCx p s m meth c cL_law 9 RL (some .boolean) g z0) (hX : qScr b L xs z0 s) (hB : qBC g ad w) (hM : qBM g am w) (hO : w 64 = some (ao, qAL (g.2 4) 1)) (hD : w 65 = some (aod, qAD (g.2 5) 1)) (h66 : w 66 = none) (h67 : w 67 = none) (h68 : w 68 = none) (hl : l.stackTraces = false) (hk : kc + 24 ≤ 601024 ∧ nc + 96 ≤ 7293034) (hnx : ∀ i σ, qS p l e room_1 s m args below meth c 9 g z0 w (kc + 24) (nc + 96) Q (nx i σ) σ 28 [(0, some (.ref b)), (1, some (.ref (ad 0))), (2, some (.ref (am 47))), (3, some (.ref ao)), (4, some (.ref aod)), (5, some (.int (qI i)))] []) (i : Int) (σ : qSt) : qS p l e room_1 s m args below meth c 9 g z0 w kc nc Q (fL_c17 L xs nx i σ) σ 1302 [(0, some (.ref b)), (1, some (.ref (ad 0))), (2, some (.ref (am 47))), (3, some (.ref ao)), (4, some (.ref aod)), (5, some (.int (qI i)))] [] := by
  unfold fL_c17
  refine r_aload_n (pc := 1302) cx dL_law_1302 rfl ?_
  refine r_aload_n (pc := 1303) cx dL_law_1303 rfl ?_
  refine r_iload (pc := 1304) cx dL_law_1304 rfl ?_
  refine r_iconst (pc := 1306) cx dL_law_1306 ?_
  refine r_iadd (pc := 1307) cx dL_law_1307 ?_
  refine r_sld (pc := 1308) cx hX dL_law_1308 ?_
  refine r_aload_n (pc := 1309) cx dL_law_1309 rfl ?_
  refine r_iload (pc := 1310) cx dL_law_1310 rfl ?_
  refine r_iconst (pc := 1312) cx dL_law_1312 ?_
  refine r_iadd (pc := 1313) cx dL_law_1313 ?_
  refine r_sld (pc := 1314) cx hX dL_law_1314 ?_
  refine r_aload_n (pc := 1315) cx dL_law_1315 rfl ?_
  refine r_iload (pc := 1316) cx dL_law_1316 rfl ?_
  refine r_iconst (pc := 1318) cx dL_law_1318 ?_
  refine r_iadd (pc := 1319) cx dL_law_1319 ?_
  refine r_sld (pc := 1320) cx hX dL_law_1320 ?_
  refine r_aload_n (pc := 1321) cx dL_law_1321 rfl ?_
  refine r_iload (pc := 1322) cx dL_law_1322 rfl ?_
  refine r_iconst (pc := 1324) cx dL_law_1324 ?_
  refine r_iadd (pc := 1325) cx dL_law_1325 ?_
  refine r_sld (pc := 1326) cx hX dL_law_1326 ?_
  refine r_aload (pc := 1327) cx dL_law_1327 rfl ?_
  refine r_callSW (pc := 1329) cx (tL_likeness hB hD h66 h67 h68 hl (qXs xs (i + 1)) (qXs xs (i + 2)) (qXs xs (i + 3)) (qXs xs (i + 4)) σ) qmh_L_likeness wm_L_159 dL_law_1329 rfl rfl (Nat.le_of_ble_eq_true rfl) ⟨Nat.le_of_ble_eq_true rfl, Nat.le_of_ble_eq_true rfl⟩ ⟨by show kc + 3 ≤ 601024; omega, by show nc + 10 ≤ 7293034; omega⟩ (fun k2 σ1 _ => ?_)
  refine r_istore (pc := 1332) cx dL_law_1332 (by decide) rfl ?_
  refine r_aload_n (pc := 1334) cx dL_law_1334 rfl ?_
  refine r_aload_n (pc := 1335) cx dL_law_1335 rfl ?_
  refine r_iload (pc := 1336) cx dL_law_1336 rfl ?_
  refine r_iconst (pc := 1338) cx dL_law_1338 ?_
  refine r_iadd (pc := 1339) cx dL_law_1339 ?_
  refine r_sld (pc := 1340) cx hX dL_law_1340 ?_
  refine r_aload_n (pc := 1341) cx dL_law_1341 rfl ?_
  refine r_iload (pc := 1342) cx dL_law_1342 rfl ?_
  refine r_iconst (pc := 1344) cx dL_law_1344 ?_
  refine r_iadd (pc := 1345) cx dL_law_1345 ?_
  refine r_sld (pc := 1346) cx hX dL_law_1346 ?_
  refine r_aload_n (pc := 1347) cx dL_law_1347 rfl ?_
  refine r_iload (pc := 1348) cx dL_law_1348 rfl ?_
  refine r_iconst (pc := 1350) cx dL_law_1350 ?_
  refine r_iadd (pc := 1351) cx dL_law_1351 ?_
  refine r_sld (pc := 1352) cx hX dL_law_1352 ?_
  refine r_aload_n (pc := 1353) cx dL_law_1353 rfl ?_
  refine r_iload (pc := 1354) cx dL_law_1354 rfl ?_
  refine r_iconst (pc := 1356) cx dL_law_1356 ?_
  refine r_iadd (pc := 1357) cx dL_law_1357 ?_
  refine r_sld (pc := 1358) cx hX dL_law_1358 ?_
  refine r_dVf (pc := 1359) cx (tX6_likeness hM (qXs xs (i + 1)) (qXs xs (i + 2)) (qXs xs (i + 3)) (qXs xs (i + 4)) σ1) qm_X6_likeness qv_X6_likeness hcl_X6 (lw47 hM) wm_L_162 dL_law_1359 rfl rfl (Nat.le_of_ble_eq_true rfl) ⟨Nat.le_of_ble_eq_true rfl, Nat.le_of_ble_eq_true rfl⟩ ⟨rfl, rfl⟩ ⟨by show kc + 3 ≤ 601024; omega, by show nc + 10 ≤ 7293034; omega⟩ (fun r3 σ4 => ?_)
  refine r_fstore (pc := 1362) cx dL_law_1362 (by decide) rfl ?_
  refine r_aload_n (pc := 1364) cx dL_law_1364 rfl ?_
  refine r_pVi (pc := 1365) cx (tX6_thrown hM  σ4) qm_X6_thrown qv_X6_thrown hcl_X6 (lw47 hM) wm_L_101 dL_law_1365 rfl rfl (Nat.le_of_ble_eq_true rfl) ⟨Nat.le_of_ble_eq_true rfl, Nat.le_of_ble_eq_true rfl⟩ ⟨rfl, rfl⟩ ⟨by show kc + 3 ≤ 601024; omega, by show nc + 10 ≤ 7293034; omega⟩ (fun r5 => ?_)
  refine r_iload (pc := 1368) cx dL_law_1368 rfl ?_
  refine r_icmp_eq (pc := 1370) (tgt := 1375) cx dL_law_1370 (by decide) ?_ ?_
  · refine r_iload (pc := 1375) cx dL_law_1375 rfl ?_
    refine r_if_ne (pc := 1377) (tgt := 1413) cx dL_law_1377 (by decide) ?_ ?_
    · refine r_goto (pc := 1413) (tgt := 1799) cx dL_law_1413 (by decide) ?_
      refine r_iinc (pc := 1799) cx dL_law_1799 rfl (by decide) rfl ?_
      refine r_goto (pc := 1802) (tgt := 28) cx dL_law_1802 (by decide) ?_
      refine qS.widen (k2 := kc + 24) (n2 := nc + 96) (by first | exact Nat.le_refl _ | exact Nat.le_add_right _ _ | exact Nat.add_le_add_left (by decide) _) (by first | exact Nat.le_refl _ | exact Nat.le_add_right _ _ | exact Nat.add_le_add_left (by decide) _) ?_
      exact qS.sub (qsub_cons rfl (qsub_cons rfl (qsub_cons rfl (qsub_cons rfl (qsub_cons rfl (qsub_cons rfl (qsub_nil _))))))) (hnx _ _)
    · refine r_aload (pc := 1380) cx dL_law_1380 rfl ?_
      refine r_iconst (pc := 1382) cx dL_law_1382 ?_
      refine r_daload (pc := 1383) cx hD rfl (by decide) dL_law_1383 ?_
      refine r_fload (pc := 1384) cx dL_law_1384 rfl ?_
      refine r_f2d (pc := 1386) cx dL_law_1386 ?_
      refine r_dcmp (pc := 1387) cx dL_law_1387 ?_
      refine r_if_eq (pc := 1388) (tgt := 1413) cx dL_law_1388 (by decide) ?_ ?_
      · refine r_goto (pc := 1413) (tgt := 1799) cx dL_law_1413 (by decide) ?_
        refine r_iinc (pc := 1799) cx dL_law_1799 rfl (by decide) rfl ?_
        refine r_goto (pc := 1802) (tgt := 28) cx dL_law_1802 (by decide) ?_
        refine qS.widen (k2 := kc + 24) (n2 := nc + 96) (by first | exact Nat.le_refl _ | exact Nat.le_add_right _ _ | exact Nat.add_le_add_left (by decide) _) (by first | exact Nat.le_refl _ | exact Nat.le_add_right _ _ | exact Nat.add_le_add_left (by decide) _) ?_
        exact qS.sub (qsub_cons rfl (qsub_cons rfl (qsub_cons rfl (qsub_cons rfl (qsub_cons rfl (qsub_cons rfl (qsub_nil _))))))) (hnx _ _)
      · exact qS.fail
  · exact qS.fail
def fL_c18 (L : Nat) (xs : Nat → Int32) (nx : Int → qSt → Option Unit) (i : Int) (σ : qSt) : Option Unit :=
  (qif (0 ≤ (i + 1) ∧ (i + 1) < (L : Int)) <| (qif (0 ≤ (i + 2) ∧ (i + 2) < (L : Int)) <| (qbd (fL_ahead (qXs xs (i + 1)) (qXs xs (i + 2)) σ) fun (k2 : Int) (σ1 : qSt) => (qif (0 ≤ (i + 1) ∧ (i + 1) < (L : Int)) <| (qif (0 ≤ (i + 2) ∧ (i + 2) < (L : Int)) <| (qbd (fX6_ahead (qXs xs (i + 1)) (qXs xs (i + 2)) σ1) fun (r3 : Int) (σ4 : qSt) => ((fX6_thrown σ4 ).bind fun (r5 : Int) => if qI r5 = qI k2 then if qI k2 = 0 then (qif (0 ≤ (0 : Int) ∧ (0 : Int) < 1) <| if qI (qlcmp (σ4 64 0) (qi2l r3)) = 0 then nx (i + 7) σ4 else none) else nx (i + 7) σ4 else none)))))))
set_option maxRecDepth 100000 in
set_option maxHeartbeats 4000000 in
theorem tL_c18 {p : Program} {l : Launch} {e : Env} {s : State} {m : MethodId} {args : Array Value} {below : List Frame} {meth : Method} {c : Code} {z0 : Nat} {g : qG} {w : qWd} {ad am : Nat → Nat} {ao aod b L kc nc : Nat} {xs : Nat → Int32} {Q : Unit → State → Prop} {nx : Int → qSt → Option Unit} (cx : qCx p s m meth c cL_law 9 RL (some .boolean) g z0) (hX : qScr b L xs z0 s) (hB : qBC g ad w) (hM : qBM g am w) (hO : w 64 = some (ao, qAL (g.2 4) 1)) (hD : w 65 = some (aod, qAD (g.2 5) 1)) (h66 : w 66 = none) (h67 : w 67 = none) (h68 : w 68 = none) (hl : l.stackTraces = false) (hk : kc + 24 ≤ 601024 ∧ nc + 96 ≤ 7293034) (hnx : ∀ i σ, qS p l e room_1 s m args below meth c 9 g z0 w (kc + 24) (nc + 96) Q (nx i σ) σ 28 [(0, some (.ref b)), (1, some (.ref (ad 0))), (2, some (.ref (am 47))), (3, some (.ref ao)), (4, some (.ref aod)), (5, some (.int (qI i)))] []) (i : Int) (σ : qSt) : qS p l e room_1 s m args below meth c 9 g z0 w kc nc Q (fL_c18 L xs nx i σ) σ 1416 [(0, some (.ref b)), (1, some (.ref (ad 0))), (2, some (.ref (am 47))), (3, some (.ref ao)), (4, some (.ref aod)), (5, some (.int (qI i)))] [] := by
  unfold fL_c18
  refine r_aload_n (pc := 1416) cx dL_law_1416 rfl ?_
  refine r_aload_n (pc := 1417) cx dL_law_1417 rfl ?_
  refine r_iload (pc := 1418) cx dL_law_1418 rfl ?_
  refine r_iconst (pc := 1420) cx dL_law_1420 ?_
  refine r_iadd (pc := 1421) cx dL_law_1421 ?_
  refine r_sld (pc := 1422) cx hX dL_law_1422 ?_
  refine r_aload_n (pc := 1423) cx dL_law_1423 rfl ?_
  refine r_iload (pc := 1424) cx dL_law_1424 rfl ?_
  refine r_iconst (pc := 1426) cx dL_law_1426 ?_
  refine r_iadd (pc := 1427) cx dL_law_1427 ?_
  refine r_sld (pc := 1428) cx hX dL_law_1428 ?_
  refine r_aload_n (pc := 1429) cx dL_law_1429 rfl ?_
  refine r_callSW (pc := 1430) cx (tL_ahead hB hO hl (qXs xs (i + 1)) (qXs xs (i + 2)) σ) qmh_L_ahead wm_L_163 dL_law_1430 rfl rfl (Nat.le_of_ble_eq_true rfl) ⟨Nat.le_of_ble_eq_true rfl, Nat.le_of_ble_eq_true rfl⟩ ⟨by show kc + 1 ≤ 601024; omega, by show nc + 6 ≤ 7293034; omega⟩ (fun k2 σ1 _ => ?_)
  refine r_istore (pc := 1433) cx dL_law_1433 (by decide) rfl ?_
  refine r_aload_n (pc := 1435) cx dL_law_1435 rfl ?_
  refine r_aload_n (pc := 1436) cx dL_law_1436 rfl ?_
  refine r_iload (pc := 1437) cx dL_law_1437 rfl ?_
  refine r_iconst (pc := 1439) cx dL_law_1439 ?_
  refine r_iadd (pc := 1440) cx dL_law_1440 ?_
  refine r_sld (pc := 1441) cx hX dL_law_1441 ?_
  refine r_aload_n (pc := 1442) cx dL_law_1442 rfl ?_
  refine r_iload (pc := 1443) cx dL_law_1443 rfl ?_
  refine r_iconst (pc := 1445) cx dL_law_1445 ?_
  refine r_iadd (pc := 1446) cx dL_law_1446 ?_
  refine r_sld (pc := 1447) cx hX dL_law_1447 ?_
  refine r_dVi (pc := 1448) cx (tX6_ahead hM (qXs xs (i + 1)) (qXs xs (i + 2)) σ1) qm_X6_ahead qv_X6_ahead hcl_X6 (lw47 hM) wm_L_165 dL_law_1448 rfl rfl (Nat.le_of_ble_eq_true rfl) ⟨Nat.le_of_ble_eq_true rfl, Nat.le_of_ble_eq_true rfl⟩ ⟨rfl, rfl⟩ ⟨by show kc + 1 ≤ 601024; omega, by show nc + 6 ≤ 7293034; omega⟩ (fun r3 σ4 => ?_)
  refine r_istore (pc := 1451) cx dL_law_1451 (by decide) rfl ?_
  refine r_aload_n (pc := 1453) cx dL_law_1453 rfl ?_
  refine r_pVi (pc := 1454) cx (tX6_thrown hM  σ4) qm_X6_thrown qv_X6_thrown hcl_X6 (lw47 hM) wm_L_101 dL_law_1454 rfl rfl (Nat.le_of_ble_eq_true rfl) ⟨Nat.le_of_ble_eq_true rfl, Nat.le_of_ble_eq_true rfl⟩ ⟨rfl, rfl⟩ ⟨by show kc + 1 ≤ 601024; omega, by show nc + 6 ≤ 7293034; omega⟩ (fun r5 => ?_)
  refine r_iload (pc := 1457) cx dL_law_1457 rfl ?_
  refine r_icmp_eq (pc := 1459) (tgt := 1464) cx dL_law_1459 (by decide) ?_ ?_
  · refine r_iload (pc := 1464) cx dL_law_1464 rfl ?_
    refine r_if_ne (pc := 1466) (tgt := 1481) cx dL_law_1466 (by decide) ?_ ?_
    · refine r_goto (pc := 1481) (tgt := 1799) cx dL_law_1481 (by decide) ?_
      refine r_iinc (pc := 1799) cx dL_law_1799 rfl (by decide) rfl ?_
      refine r_goto (pc := 1802) (tgt := 28) cx dL_law_1802 (by decide) ?_
      refine qS.widen (k2 := kc + 24) (n2 := nc + 96) (by first | exact Nat.le_refl _ | exact Nat.le_add_right _ _ | exact Nat.add_le_add_left (by decide) _) (by first | exact Nat.le_refl _ | exact Nat.le_add_right _ _ | exact Nat.add_le_add_left (by decide) _) ?_
      exact qS.sub (qsub_cons rfl (qsub_cons rfl (qsub_cons rfl (qsub_cons rfl (qsub_cons rfl (qsub_cons rfl (qsub_nil _))))))) (hnx _ _)
    · refine r_aload_n (pc := 1469) cx dL_law_1469 rfl ?_
      refine r_iconst (pc := 1470) cx dL_law_1470 ?_
      refine r_laload (pc := 1471) cx hO rfl (by decide) dL_law_1471 ?_
      refine r_iload (pc := 1472) cx dL_law_1472 rfl ?_
      refine r_i2l (pc := 1474) cx dL_law_1474 ?_
      refine r_lcmp (pc := 1475) cx dL_law_1475 ?_
      refine r_if_eq (pc := 1476) (tgt := 1481) cx dL_law_1476 (by decide) ?_ ?_
      · refine r_goto (pc := 1481) (tgt := 1799) cx dL_law_1481 (by decide) ?_
        refine r_iinc (pc := 1799) cx dL_law_1799 rfl (by decide) rfl ?_
        refine r_goto (pc := 1802) (tgt := 28) cx dL_law_1802 (by decide) ?_
        refine qS.widen (k2 := kc + 24) (n2 := nc + 96) (by first | exact Nat.le_refl _ | exact Nat.le_add_right _ _ | exact Nat.add_le_add_left (by decide) _) (by first | exact Nat.le_refl _ | exact Nat.le_add_right _ _ | exact Nat.add_le_add_left (by decide) _) ?_
        exact qS.sub (qsub_cons rfl (qsub_cons rfl (qsub_cons rfl (qsub_cons rfl (qsub_cons rfl (qsub_cons rfl (qsub_nil _))))))) (hnx _ _)
      · exact qS.fail
  · exact qS.fail
def fL_c19 (L : Nat) (xs : Nat → Int32) (nx : Int → qSt → Option Unit) (i : Int) (σ : qSt) : Option Unit :=
  (qif (0 ≤ (i + 1) ∧ (i + 1) < (L : Int)) <| (qif (0 ≤ (i + 2) ∧ (i + 2) < (L : Int)) <| (qbd (fL_aheadAnew (qXs xs (i + 1)) (qXs xs (i + 2)) σ) fun (k2 : Int) (σ1 : qSt) => (qif (0 ≤ (i + 1) ∧ (i + 1) < (L : Int)) <| (qif (0 ≤ (i + 2) ∧ (i + 2) < (L : Int)) <| (qbd (fX6_aheadAnew (qXs xs (i + 1)) (qXs xs (i + 2)) σ1) fun (r3 : Int) (σ4 : qSt) => ((fX6_thrown σ4 ).bind fun (r5 : Int) => if qI r5 = qI k2 then if qI k2 = 0 then (qif (0 ≤ (0 : Int) ∧ (0 : Int) < 1) <| if qI (qlcmp (σ4 64 0) (qi2l r3)) = 0 then nx (i + 7) σ4 else none) else nx (i + 7) σ4 else none)))))))
set_option maxRecDepth 100000 in
set_option maxHeartbeats 4000000 in
theorem tL_c19 {p : Program} {l : Launch} {e : Env} {s : State} {m : MethodId} {args : Array Value} {below : List Frame} {meth : Method} {c : Code} {z0 : Nat} {g : qG} {w : qWd} {ad am : Nat → Nat} {ao aod b L kc nc : Nat} {xs : Nat → Int32} {Q : Unit → State → Prop} {nx : Int → qSt → Option Unit} (cx : qCx p s m meth c cL_law 9 RL (some .boolean) g z0) (hX : qScr b L xs z0 s) (hB : qBC g ad w) (hM : qBM g am w) (hO : w 64 = some (ao, qAL (g.2 4) 1)) (hD : w 65 = some (aod, qAD (g.2 5) 1)) (h66 : w 66 = none) (h67 : w 67 = none) (h68 : w 68 = none) (hl : l.stackTraces = false) (hk : kc + 24 ≤ 601024 ∧ nc + 96 ≤ 7293034) (hnx : ∀ i σ, qS p l e room_1 s m args below meth c 9 g z0 w (kc + 24) (nc + 96) Q (nx i σ) σ 28 [(0, some (.ref b)), (1, some (.ref (ad 0))), (2, some (.ref (am 47))), (3, some (.ref ao)), (4, some (.ref aod)), (5, some (.int (qI i)))] []) (i : Int) (σ : qSt) : qS p l e room_1 s m args below meth c 9 g z0 w kc nc Q (fL_c19 L xs nx i σ) σ 1484 [(0, some (.ref b)), (1, some (.ref (ad 0))), (2, some (.ref (am 47))), (3, some (.ref ao)), (4, some (.ref aod)), (5, some (.int (qI i)))] [] := by
  unfold fL_c19
  refine r_aload_n (pc := 1484) cx dL_law_1484 rfl ?_
  refine r_aload_n (pc := 1485) cx dL_law_1485 rfl ?_
  refine r_iload (pc := 1486) cx dL_law_1486 rfl ?_
  refine r_iconst (pc := 1488) cx dL_law_1488 ?_
  refine r_iadd (pc := 1489) cx dL_law_1489 ?_
  refine r_sld (pc := 1490) cx hX dL_law_1490 ?_
  refine r_aload_n (pc := 1491) cx dL_law_1491 rfl ?_
  refine r_iload (pc := 1492) cx dL_law_1492 rfl ?_
  refine r_iconst (pc := 1494) cx dL_law_1494 ?_
  refine r_iadd (pc := 1495) cx dL_law_1495 ?_
  refine r_sld (pc := 1496) cx hX dL_law_1496 ?_
  refine r_aload_n (pc := 1497) cx dL_law_1497 rfl ?_
  refine r_callSW (pc := 1498) cx (tL_aheadAnew hB hO hl (qXs xs (i + 1)) (qXs xs (i + 2)) σ) qmh_L_aheadAnew wm_L_166 dL_law_1498 rfl rfl (Nat.le_of_ble_eq_true rfl) ⟨Nat.le_of_ble_eq_true rfl, Nat.le_of_ble_eq_true rfl⟩ ⟨by show kc + 1 ≤ 601024; omega, by show nc + 6 ≤ 7293034; omega⟩ (fun k2 σ1 _ => ?_)
  refine r_istore (pc := 1501) cx dL_law_1501 (by decide) rfl ?_
  refine r_aload_n (pc := 1503) cx dL_law_1503 rfl ?_
  refine r_aload_n (pc := 1504) cx dL_law_1504 rfl ?_
  refine r_iload (pc := 1505) cx dL_law_1505 rfl ?_
  refine r_iconst (pc := 1507) cx dL_law_1507 ?_
  refine r_iadd (pc := 1508) cx dL_law_1508 ?_
  refine r_sld (pc := 1509) cx hX dL_law_1509 ?_
  refine r_aload_n (pc := 1510) cx dL_law_1510 rfl ?_
  refine r_iload (pc := 1511) cx dL_law_1511 rfl ?_
  refine r_iconst (pc := 1513) cx dL_law_1513 ?_
  refine r_iadd (pc := 1514) cx dL_law_1514 ?_
  refine r_sld (pc := 1515) cx hX dL_law_1515 ?_
  refine r_dVi (pc := 1516) cx (tX6_aheadAnew hM (qXs xs (i + 1)) (qXs xs (i + 2)) σ1) qm_X6_aheadAnew qv_X6_aheadAnew hcl_X6 (lw47 hM) wm_L_168 dL_law_1516 rfl rfl (Nat.le_of_ble_eq_true rfl) ⟨Nat.le_of_ble_eq_true rfl, Nat.le_of_ble_eq_true rfl⟩ ⟨rfl, rfl⟩ ⟨by show kc + 1 ≤ 601024; omega, by show nc + 6 ≤ 7293034; omega⟩ (fun r3 σ4 => ?_)
  refine r_istore (pc := 1519) cx dL_law_1519 (by decide) rfl ?_
  refine r_aload_n (pc := 1521) cx dL_law_1521 rfl ?_
  refine r_pVi (pc := 1522) cx (tX6_thrown hM  σ4) qm_X6_thrown qv_X6_thrown hcl_X6 (lw47 hM) wm_L_101 dL_law_1522 rfl rfl (Nat.le_of_ble_eq_true rfl) ⟨Nat.le_of_ble_eq_true rfl, Nat.le_of_ble_eq_true rfl⟩ ⟨rfl, rfl⟩ ⟨by show kc + 1 ≤ 601024; omega, by show nc + 6 ≤ 7293034; omega⟩ (fun r5 => ?_)
  refine r_iload (pc := 1525) cx dL_law_1525 rfl ?_
  refine r_icmp_eq (pc := 1527) (tgt := 1532) cx dL_law_1527 (by decide) ?_ ?_
  · refine r_iload (pc := 1532) cx dL_law_1532 rfl ?_
    refine r_if_ne (pc := 1534) (tgt := 1549) cx dL_law_1534 (by decide) ?_ ?_
    · refine r_goto (pc := 1549) (tgt := 1799) cx dL_law_1549 (by decide) ?_
      refine r_iinc (pc := 1799) cx dL_law_1799 rfl (by decide) rfl ?_
      refine r_goto (pc := 1802) (tgt := 28) cx dL_law_1802 (by decide) ?_
      refine qS.widen (k2 := kc + 24) (n2 := nc + 96) (by first | exact Nat.le_refl _ | exact Nat.le_add_right _ _ | exact Nat.add_le_add_left (by decide) _) (by first | exact Nat.le_refl _ | exact Nat.le_add_right _ _ | exact Nat.add_le_add_left (by decide) _) ?_
      exact qS.sub (qsub_cons rfl (qsub_cons rfl (qsub_cons rfl (qsub_cons rfl (qsub_cons rfl (qsub_cons rfl (qsub_nil _))))))) (hnx _ _)
    · refine r_aload_n (pc := 1537) cx dL_law_1537 rfl ?_
      refine r_iconst (pc := 1538) cx dL_law_1538 ?_
      refine r_laload (pc := 1539) cx hO rfl (by decide) dL_law_1539 ?_
      refine r_iload (pc := 1540) cx dL_law_1540 rfl ?_
      refine r_i2l (pc := 1542) cx dL_law_1542 ?_
      refine r_lcmp (pc := 1543) cx dL_law_1543 ?_
      refine r_if_eq (pc := 1544) (tgt := 1549) cx dL_law_1544 (by decide) ?_ ?_
      · refine r_goto (pc := 1549) (tgt := 1799) cx dL_law_1549 (by decide) ?_
        refine r_iinc (pc := 1799) cx dL_law_1799 rfl (by decide) rfl ?_
        refine r_goto (pc := 1802) (tgt := 28) cx dL_law_1802 (by decide) ?_
        refine qS.widen (k2 := kc + 24) (n2 := nc + 96) (by first | exact Nat.le_refl _ | exact Nat.le_add_right _ _ | exact Nat.add_le_add_left (by decide) _) (by first | exact Nat.le_refl _ | exact Nat.le_add_right _ _ | exact Nat.add_le_add_left (by decide) _) ?_
        exact qS.sub (qsub_cons rfl (qsub_cons rfl (qsub_cons rfl (qsub_cons rfl (qsub_cons rfl (qsub_cons rfl (qsub_nil _))))))) (hnx _ _)
      · exact qS.fail
  · exact qS.fail
def fL_c20 (L : Nat) (xs : Nat → Int32) (nx : Int → qSt → Option Unit) (i : Int) (σ : qSt) : Option Unit :=
  (qif (0 ≤ (i + 1) ∧ (i + 1) < (L : Int)) <| (qbd (fL_mixed (qXs xs (i + 1)) σ) fun (k2 : Int) (σ1 : qSt) => (qif (0 ≤ (i + 1) ∧ (i + 1) < (L : Int)) <| (qbd (fX6_mixed (qXs xs (i + 1)) σ1) fun (r3 : Int) (σ4 : qSt) => ((fX6_thrown σ4 ).bind fun (r5 : Int) => if qI r5 = qI k2 then if qI k2 = 0 then (qif (0 ≤ (0 : Int) ∧ (0 : Int) < 1) <| if qI (qlcmp (σ4 64 0) r3) = 0 then nx (i + 7) σ4 else none) else nx (i + 7) σ4 else none)))))
set_option maxRecDepth 100000 in
set_option maxHeartbeats 4000000 in
theorem tL_c20 {p : Program} {l : Launch} {e : Env} {s : State} {m : MethodId} {args : Array Value} {below : List Frame} {meth : Method} {c : Code} {z0 : Nat} {g : qG} {w : qWd} {ad am : Nat → Nat} {ao aod b L kc nc : Nat} {xs : Nat → Int32} {Q : Unit → State → Prop} {nx : Int → qSt → Option Unit} (cx : qCx p s m meth c cL_law 9 RL (some .boolean) g z0) (hX : qScr b L xs z0 s) (hB : qBC g ad w) (hM : qBM g am w) (hO : w 64 = some (ao, qAL (g.2 4) 1)) (hD : w 65 = some (aod, qAD (g.2 5) 1)) (h66 : w 66 = none) (h67 : w 67 = none) (h68 : w 68 = none) (hl : l.stackTraces = false) (hk : kc + 24 ≤ 601024 ∧ nc + 96 ≤ 7293034) (hnx : ∀ i σ, qS p l e room_1 s m args below meth c 9 g z0 w (kc + 24) (nc + 96) Q (nx i σ) σ 28 [(0, some (.ref b)), (1, some (.ref (ad 0))), (2, some (.ref (am 47))), (3, some (.ref ao)), (4, some (.ref aod)), (5, some (.int (qI i)))] []) (i : Int) (σ : qSt) : qS p l e room_1 s m args below meth c 9 g z0 w kc nc Q (fL_c20 L xs nx i σ) σ 1552 [(0, some (.ref b)), (1, some (.ref (ad 0))), (2, some (.ref (am 47))), (3, some (.ref ao)), (4, some (.ref aod)), (5, some (.int (qI i)))] [] := by
  unfold fL_c20
  refine r_aload_n (pc := 1552) cx dL_law_1552 rfl ?_
  refine r_aload_n (pc := 1553) cx dL_law_1553 rfl ?_
  refine r_iload (pc := 1554) cx dL_law_1554 rfl ?_
  refine r_iconst (pc := 1556) cx dL_law_1556 ?_
  refine r_iadd (pc := 1557) cx dL_law_1557 ?_
  refine r_sld (pc := 1558) cx hX dL_law_1558 ?_
  refine r_aload_n (pc := 1559) cx dL_law_1559 rfl ?_
  refine r_callSW (pc := 1560) cx (tL_mixed hB hO h66 h67 h68 hl (qXs xs (i + 1)) σ) qmh_L_mixed wm_L_169 dL_law_1560 rfl rfl (Nat.le_of_ble_eq_true rfl) ⟨Nat.le_of_ble_eq_true rfl, Nat.le_of_ble_eq_true rfl⟩ ⟨by show kc + 24 ≤ 601024; omega, by show nc + 96 ≤ 7293034; omega⟩ (fun k2 σ1 _ => ?_)
  refine r_istore (pc := 1563) cx dL_law_1563 (by decide) rfl ?_
  refine r_aload_n (pc := 1565) cx dL_law_1565 rfl ?_
  refine r_aload_n (pc := 1566) cx dL_law_1566 rfl ?_
  refine r_iload (pc := 1567) cx dL_law_1567 rfl ?_
  refine r_iconst (pc := 1569) cx dL_law_1569 ?_
  refine r_iadd (pc := 1570) cx dL_law_1570 ?_
  refine r_sld (pc := 1571) cx hX dL_law_1571 ?_
  refine r_dVj (pc := 1572) cx (tX6_mixed hM (qXs xs (i + 1)) σ1) qm_X6_mixed qv_X6_mixed hcl_X6 (lw47 hM) wm_L_171 dL_law_1572 rfl rfl (Nat.le_of_ble_eq_true rfl) ⟨Nat.le_of_ble_eq_true rfl, Nat.le_of_ble_eq_true rfl⟩ ⟨rfl, rfl⟩ ⟨by show kc + 24 ≤ 601024; omega, by show nc + 96 ≤ 7293034; omega⟩ (fun r3 σ4 => ?_)
  refine r_lstore (pc := 1575) cx dL_law_1575 (by decide) rfl ?_
  refine r_aload_n (pc := 1577) cx dL_law_1577 rfl ?_
  refine r_pVi (pc := 1578) cx (tX6_thrown hM  σ4) qm_X6_thrown qv_X6_thrown hcl_X6 (lw47 hM) wm_L_101 dL_law_1578 rfl rfl (Nat.le_of_ble_eq_true rfl) ⟨Nat.le_of_ble_eq_true rfl, Nat.le_of_ble_eq_true rfl⟩ ⟨rfl, rfl⟩ ⟨by show kc + 24 ≤ 601024; omega, by show nc + 96 ≤ 7293034; omega⟩ (fun r5 => ?_)
  refine r_iload (pc := 1581) cx dL_law_1581 rfl ?_
  refine r_icmp_eq (pc := 1583) (tgt := 1588) cx dL_law_1583 (by decide) ?_ ?_
  · refine r_iload (pc := 1588) cx dL_law_1588 rfl ?_
    refine r_if_ne (pc := 1590) (tgt := 1604) cx dL_law_1590 (by decide) ?_ ?_
    · refine r_goto (pc := 1604) (tgt := 1799) cx dL_law_1604 (by decide) ?_
      refine r_iinc (pc := 1799) cx dL_law_1799 rfl (by decide) rfl ?_
      refine r_goto (pc := 1802) (tgt := 28) cx dL_law_1802 (by decide) ?_
      refine qS.widen (k2 := kc + 24) (n2 := nc + 96) (by first | exact Nat.le_refl _ | exact Nat.le_add_right _ _ | exact Nat.add_le_add_left (by decide) _) (by first | exact Nat.le_refl _ | exact Nat.le_add_right _ _ | exact Nat.add_le_add_left (by decide) _) ?_
      exact qS.sub (qsub_cons rfl (qsub_cons rfl (qsub_cons rfl (qsub_cons rfl (qsub_cons rfl (qsub_cons rfl (qsub_nil _))))))) (hnx _ _)
    · refine r_aload_n (pc := 1593) cx dL_law_1593 rfl ?_
      refine r_iconst (pc := 1594) cx dL_law_1594 ?_
      refine r_laload (pc := 1595) cx hO rfl (by decide) dL_law_1595 ?_
      refine r_lload (pc := 1596) cx dL_law_1596 rfl ?_
      refine r_lcmp (pc := 1598) cx dL_law_1598 ?_
      refine r_if_eq (pc := 1599) (tgt := 1604) cx dL_law_1599 (by decide) ?_ ?_
      · refine r_goto (pc := 1604) (tgt := 1799) cx dL_law_1604 (by decide) ?_
        refine r_iinc (pc := 1799) cx dL_law_1799 rfl (by decide) rfl ?_
        refine r_goto (pc := 1802) (tgt := 28) cx dL_law_1802 (by decide) ?_
        refine qS.widen (k2 := kc + 24) (n2 := nc + 96) (by first | exact Nat.le_refl _ | exact Nat.le_add_right _ _ | exact Nat.add_le_add_left (by decide) _) (by first | exact Nat.le_refl _ | exact Nat.le_add_right _ _ | exact Nat.add_le_add_left (by decide) _) ?_
        exact qS.sub (qsub_cons rfl (qsub_cons rfl (qsub_cons rfl (qsub_cons rfl (qsub_cons rfl (qsub_cons rfl (qsub_nil _))))))) (hnx _ _)
      · exact qS.fail
  · exact qS.fail
def fL_c21 (L : Nat) (xs : Nat → Int32) (nx : Int → qSt → Option Unit) (i : Int) (σ : qSt) : Option Unit :=
  (qif (0 ≤ (i + 1) ∧ (i + 1) < (L : Int)) <| (qif (0 ≤ (i + 2) ∧ (i + 2) < (L : Int)) <| (qbd (fL_record (qXs xs (i + 1)) (qXs xs (i + 2)) σ) fun (k2 : Int) (σ1 : qSt) => (qif (0 ≤ (i + 1) ∧ (i + 1) < (L : Int)) <| (qif (0 ≤ (i + 2) ∧ (i + 2) < (L : Int)) <| (qbd (fX6_record (qXs xs (i + 1)) (qXs xs (i + 2)) σ1) fun (r3 : Int) (σ4 : qSt) => ((fX6_thrown σ4 ).bind fun (r5 : Int) => if qI r5 = qI k2 then if qI k2 = 0 then (qif (0 ≤ (0 : Int) ∧ (0 : Int) < 1) <| if qI (qlcmp (σ4 64 0) (qi2l r3)) = 0 then nx (i + 7) σ4 else none) else nx (i + 7) σ4 else none)))))))
set_option maxRecDepth 100000 in
set_option maxHeartbeats 4000000 in
theorem tL_c21 {p : Program} {l : Launch} {e : Env} {s : State} {m : MethodId} {args : Array Value} {below : List Frame} {meth : Method} {c : Code} {z0 : Nat} {g : qG} {w : qWd} {ad am : Nat → Nat} {ao aod b L kc nc : Nat} {xs : Nat → Int32} {Q : Unit → State → Prop} {nx : Int → qSt → Option Unit} (cx : qCx p s m meth c cL_law 9 RL (some .boolean) g z0) (hX : qScr b L xs z0 s) (hB : qBC g ad w) (hM : qBM g am w) (hO : w 64 = some (ao, qAL (g.2 4) 1)) (hD : w 65 = some (aod, qAD (g.2 5) 1)) (h66 : w 66 = none) (h67 : w 67 = none) (h68 : w 68 = none) (hl : l.stackTraces = false) (hk : kc + 24 ≤ 601024 ∧ nc + 96 ≤ 7293034) (hnx : ∀ i σ, qS p l e room_1 s m args below meth c 9 g z0 w (kc + 24) (nc + 96) Q (nx i σ) σ 28 [(0, some (.ref b)), (1, some (.ref (ad 0))), (2, some (.ref (am 47))), (3, some (.ref ao)), (4, some (.ref aod)), (5, some (.int (qI i)))] []) (i : Int) (σ : qSt) : qS p l e room_1 s m args below meth c 9 g z0 w kc nc Q (fL_c21 L xs nx i σ) σ 1607 [(0, some (.ref b)), (1, some (.ref (ad 0))), (2, some (.ref (am 47))), (3, some (.ref ao)), (4, some (.ref aod)), (5, some (.int (qI i)))] [] := by
  unfold fL_c21
  refine r_aload_n (pc := 1607) cx dL_law_1607 rfl ?_
  refine r_aload_n (pc := 1608) cx dL_law_1608 rfl ?_
  refine r_iload (pc := 1609) cx dL_law_1609 rfl ?_
  refine r_iconst (pc := 1611) cx dL_law_1611 ?_
  refine r_iadd (pc := 1612) cx dL_law_1612 ?_
  refine r_sld (pc := 1613) cx hX dL_law_1613 ?_
  refine r_aload_n (pc := 1614) cx dL_law_1614 rfl ?_
  refine r_iload (pc := 1615) cx dL_law_1615 rfl ?_
  refine r_iconst (pc := 1617) cx dL_law_1617 ?_
  refine r_iadd (pc := 1618) cx dL_law_1618 ?_
  refine r_sld (pc := 1619) cx hX dL_law_1619 ?_
  refine r_aload_n (pc := 1620) cx dL_law_1620 rfl ?_
  refine r_callSW (pc := 1621) cx (tL_record hB hO hl (qXs xs (i + 1)) (qXs xs (i + 2)) σ) qmh_L_record wm_L_172 dL_law_1621 rfl rfl (Nat.le_of_ble_eq_true rfl) ⟨Nat.le_of_ble_eq_true rfl, Nat.le_of_ble_eq_true rfl⟩ ⟨by show kc + 1 ≤ 601024; omega, by show nc + 6 ≤ 7293034; omega⟩ (fun k2 σ1 _ => ?_)
  refine r_istore (pc := 1624) cx dL_law_1624 (by decide) rfl ?_
  refine r_aload_n (pc := 1626) cx dL_law_1626 rfl ?_
  refine r_aload_n (pc := 1627) cx dL_law_1627 rfl ?_
  refine r_iload (pc := 1628) cx dL_law_1628 rfl ?_
  refine r_iconst (pc := 1630) cx dL_law_1630 ?_
  refine r_iadd (pc := 1631) cx dL_law_1631 ?_
  refine r_sld (pc := 1632) cx hX dL_law_1632 ?_
  refine r_aload_n (pc := 1633) cx dL_law_1633 rfl ?_
  refine r_iload (pc := 1634) cx dL_law_1634 rfl ?_
  refine r_iconst (pc := 1636) cx dL_law_1636 ?_
  refine r_iadd (pc := 1637) cx dL_law_1637 ?_
  refine r_sld (pc := 1638) cx hX dL_law_1638 ?_
  refine r_dVi (pc := 1639) cx (tX6_record hM (qXs xs (i + 1)) (qXs xs (i + 2)) σ1) qm_X6_record qv_X6_record hcl_X6 (lw47 hM) wm_L_174 dL_law_1639 rfl rfl (Nat.le_of_ble_eq_true rfl) ⟨Nat.le_of_ble_eq_true rfl, Nat.le_of_ble_eq_true rfl⟩ ⟨rfl, rfl⟩ ⟨by show kc + 1 ≤ 601024; omega, by show nc + 6 ≤ 7293034; omega⟩ (fun r3 σ4 => ?_)
  refine r_istore (pc := 1642) cx dL_law_1642 (by decide) rfl ?_
  refine r_aload_n (pc := 1644) cx dL_law_1644 rfl ?_
  refine r_pVi (pc := 1645) cx (tX6_thrown hM  σ4) qm_X6_thrown qv_X6_thrown hcl_X6 (lw47 hM) wm_L_101 dL_law_1645 rfl rfl (Nat.le_of_ble_eq_true rfl) ⟨Nat.le_of_ble_eq_true rfl, Nat.le_of_ble_eq_true rfl⟩ ⟨rfl, rfl⟩ ⟨by show kc + 1 ≤ 601024; omega, by show nc + 6 ≤ 7293034; omega⟩ (fun r5 => ?_)
  refine r_iload (pc := 1648) cx dL_law_1648 rfl ?_
  refine r_icmp_eq (pc := 1650) (tgt := 1655) cx dL_law_1650 (by decide) ?_ ?_
  · refine r_iload (pc := 1655) cx dL_law_1655 rfl ?_
    refine r_if_ne (pc := 1657) (tgt := 1672) cx dL_law_1657 (by decide) ?_ ?_
    · refine r_goto (pc := 1672) (tgt := 1799) cx dL_law_1672 (by decide) ?_
      refine r_iinc (pc := 1799) cx dL_law_1799 rfl (by decide) rfl ?_
      refine r_goto (pc := 1802) (tgt := 28) cx dL_law_1802 (by decide) ?_
      refine qS.widen (k2 := kc + 24) (n2 := nc + 96) (by first | exact Nat.le_refl _ | exact Nat.le_add_right _ _ | exact Nat.add_le_add_left (by decide) _) (by first | exact Nat.le_refl _ | exact Nat.le_add_right _ _ | exact Nat.add_le_add_left (by decide) _) ?_
      exact qS.sub (qsub_cons rfl (qsub_cons rfl (qsub_cons rfl (qsub_cons rfl (qsub_cons rfl (qsub_cons rfl (qsub_nil _))))))) (hnx _ _)
    · refine r_aload_n (pc := 1660) cx dL_law_1660 rfl ?_
      refine r_iconst (pc := 1661) cx dL_law_1661 ?_
      refine r_laload (pc := 1662) cx hO rfl (by decide) dL_law_1662 ?_
      refine r_iload (pc := 1663) cx dL_law_1663 rfl ?_
      refine r_i2l (pc := 1665) cx dL_law_1665 ?_
      refine r_lcmp (pc := 1666) cx dL_law_1666 ?_
      refine r_if_eq (pc := 1667) (tgt := 1672) cx dL_law_1667 (by decide) ?_ ?_
      · refine r_goto (pc := 1672) (tgt := 1799) cx dL_law_1672 (by decide) ?_
        refine r_iinc (pc := 1799) cx dL_law_1799 rfl (by decide) rfl ?_
        refine r_goto (pc := 1802) (tgt := 28) cx dL_law_1802 (by decide) ?_
        refine qS.widen (k2 := kc + 24) (n2 := nc + 96) (by first | exact Nat.le_refl _ | exact Nat.le_add_right _ _ | exact Nat.add_le_add_left (by decide) _) (by first | exact Nat.le_refl _ | exact Nat.le_add_right _ _ | exact Nat.add_le_add_left (by decide) _) ?_
        exact qS.sub (qsub_cons rfl (qsub_cons rfl (qsub_cons rfl (qsub_cons rfl (qsub_cons rfl (qsub_cons rfl (qsub_nil _))))))) (hnx _ _)
      · exact qS.fail
  · exact qS.fail
def fL_c22 (L : Nat) (xs : Nat → Int32) (nx : Int → qSt → Option Unit) (i : Int) (σ : qSt) : Option Unit :=
  (qif (0 ≤ (i + 1) ∧ (i + 1) < (L : Int)) <| (qbd (fL_beat (qXs xs (i + 1)) σ) fun (k2 : Int) (σ1 : qSt) => (qif (0 ≤ (i + 1) ∧ (i + 1) < (L : Int)) <| (qbd (fX6_beat (qXs xs (i + 1)) σ1) fun (r3 : Int) (σ4 : qSt) => ((fX6_thrown σ4 ).bind fun (r5 : Int) => if qI r5 = qI k2 then if qI k2 = 0 then (qif (0 ≤ (0 : Int) ∧ (0 : Int) < 1) <| if qI (qlcmp (σ4 64 0) (qi2l r3)) = 0 then nx (i + 7) σ4 else none) else nx (i + 7) σ4 else none)))))
set_option maxRecDepth 100000 in
set_option maxHeartbeats 4000000 in
theorem tL_c22 {p : Program} {l : Launch} {e : Env} {s : State} {m : MethodId} {args : Array Value} {below : List Frame} {meth : Method} {c : Code} {z0 : Nat} {g : qG} {w : qWd} {ad am : Nat → Nat} {ao aod b L kc nc : Nat} {xs : Nat → Int32} {Q : Unit → State → Prop} {nx : Int → qSt → Option Unit} (cx : qCx p s m meth c cL_law 9 RL (some .boolean) g z0) (hX : qScr b L xs z0 s) (hB : qBC g ad w) (hM : qBM g am w) (hO : w 64 = some (ao, qAL (g.2 4) 1)) (hD : w 65 = some (aod, qAD (g.2 5) 1)) (h66 : w 66 = none) (h67 : w 67 = none) (h68 : w 68 = none) (hl : l.stackTraces = false) (hk : kc + 24 ≤ 601024 ∧ nc + 96 ≤ 7293034) (hnx : ∀ i σ, qS p l e room_1 s m args below meth c 9 g z0 w (kc + 24) (nc + 96) Q (nx i σ) σ 28 [(0, some (.ref b)), (1, some (.ref (ad 0))), (2, some (.ref (am 47))), (3, some (.ref ao)), (4, some (.ref aod)), (5, some (.int (qI i)))] []) (i : Int) (σ : qSt) : qS p l e room_1 s m args below meth c 9 g z0 w kc nc Q (fL_c22 L xs nx i σ) σ 1675 [(0, some (.ref b)), (1, some (.ref (ad 0))), (2, some (.ref (am 47))), (3, some (.ref ao)), (4, some (.ref aod)), (5, some (.int (qI i)))] [] := by
  unfold fL_c22
  refine r_aload_n (pc := 1675) cx dL_law_1675 rfl ?_
  refine r_aload_n (pc := 1676) cx dL_law_1676 rfl ?_
  refine r_iload (pc := 1677) cx dL_law_1677 rfl ?_
  refine r_iconst (pc := 1679) cx dL_law_1679 ?_
  refine r_iadd (pc := 1680) cx dL_law_1680 ?_
  refine r_sld (pc := 1681) cx hX dL_law_1681 ?_
  refine r_aload_n (pc := 1682) cx dL_law_1682 rfl ?_
  refine r_callSW (pc := 1683) cx (tL_beat hB hO hl (qXs xs (i + 1)) σ) qmh_L_beat wm_L_175 dL_law_1683 rfl rfl (Nat.le_of_ble_eq_true rfl) ⟨Nat.le_of_ble_eq_true rfl, Nat.le_of_ble_eq_true rfl⟩ ⟨by show kc + 1 ≤ 601024; omega, by show nc + 6 ≤ 7293034; omega⟩ (fun k2 σ1 _ => ?_)
  refine r_istore (pc := 1686) cx dL_law_1686 (by decide) rfl ?_
  refine r_aload_n (pc := 1688) cx dL_law_1688 rfl ?_
  refine r_aload_n (pc := 1689) cx dL_law_1689 rfl ?_
  refine r_iload (pc := 1690) cx dL_law_1690 rfl ?_
  refine r_iconst (pc := 1692) cx dL_law_1692 ?_
  refine r_iadd (pc := 1693) cx dL_law_1693 ?_
  refine r_sld (pc := 1694) cx hX dL_law_1694 ?_
  refine r_dVi (pc := 1695) cx (tX6_beat hM (qXs xs (i + 1)) σ1) qm_X6_beat qv_X6_beat hcl_X6 (lw47 hM) wm_L_177 dL_law_1695 rfl rfl (Nat.le_of_ble_eq_true rfl) ⟨Nat.le_of_ble_eq_true rfl, Nat.le_of_ble_eq_true rfl⟩ ⟨rfl, rfl⟩ ⟨by show kc + 1 ≤ 601024; omega, by show nc + 6 ≤ 7293034; omega⟩ (fun r3 σ4 => ?_)
  refine r_istore (pc := 1698) cx dL_law_1698 (by decide) rfl ?_
  refine r_aload_n (pc := 1700) cx dL_law_1700 rfl ?_
  refine r_pVi (pc := 1701) cx (tX6_thrown hM  σ4) qm_X6_thrown qv_X6_thrown hcl_X6 (lw47 hM) wm_L_101 dL_law_1701 rfl rfl (Nat.le_of_ble_eq_true rfl) ⟨Nat.le_of_ble_eq_true rfl, Nat.le_of_ble_eq_true rfl⟩ ⟨rfl, rfl⟩ ⟨by show kc + 1 ≤ 601024; omega, by show nc + 6 ≤ 7293034; omega⟩ (fun r5 => ?_)
  refine r_iload (pc := 1704) cx dL_law_1704 rfl ?_
  refine r_icmp_eq (pc := 1706) (tgt := 1711) cx dL_law_1706 (by decide) ?_ ?_
  · refine r_iload (pc := 1711) cx dL_law_1711 rfl ?_
    refine r_if_ne (pc := 1713) (tgt := 1728) cx dL_law_1713 (by decide) ?_ ?_
    · refine r_goto (pc := 1728) (tgt := 1799) cx dL_law_1728 (by decide) ?_
      refine r_iinc (pc := 1799) cx dL_law_1799 rfl (by decide) rfl ?_
      refine r_goto (pc := 1802) (tgt := 28) cx dL_law_1802 (by decide) ?_
      refine qS.widen (k2 := kc + 24) (n2 := nc + 96) (by first | exact Nat.le_refl _ | exact Nat.le_add_right _ _ | exact Nat.add_le_add_left (by decide) _) (by first | exact Nat.le_refl _ | exact Nat.le_add_right _ _ | exact Nat.add_le_add_left (by decide) _) ?_
      exact qS.sub (qsub_cons rfl (qsub_cons rfl (qsub_cons rfl (qsub_cons rfl (qsub_cons rfl (qsub_cons rfl (qsub_nil _))))))) (hnx _ _)
    · refine r_aload_n (pc := 1716) cx dL_law_1716 rfl ?_
      refine r_iconst (pc := 1717) cx dL_law_1717 ?_
      refine r_laload (pc := 1718) cx hO rfl (by decide) dL_law_1718 ?_
      refine r_iload (pc := 1719) cx dL_law_1719 rfl ?_
      refine r_i2l (pc := 1721) cx dL_law_1721 ?_
      refine r_lcmp (pc := 1722) cx dL_law_1722 ?_
      refine r_if_eq (pc := 1723) (tgt := 1728) cx dL_law_1723 (by decide) ?_ ?_
      · refine r_goto (pc := 1728) (tgt := 1799) cx dL_law_1728 (by decide) ?_
        refine r_iinc (pc := 1799) cx dL_law_1799 rfl (by decide) rfl ?_
        refine r_goto (pc := 1802) (tgt := 28) cx dL_law_1802 (by decide) ?_
        refine qS.widen (k2 := kc + 24) (n2 := nc + 96) (by first | exact Nat.le_refl _ | exact Nat.le_add_right _ _ | exact Nat.add_le_add_left (by decide) _) (by first | exact Nat.le_refl _ | exact Nat.le_add_right _ _ | exact Nat.add_le_add_left (by decide) _) ?_
        exact qS.sub (qsub_cons rfl (qsub_cons rfl (qsub_cons rfl (qsub_cons rfl (qsub_cons rfl (qsub_cons rfl (qsub_nil _))))))) (hnx _ _)
      · exact qS.fail
  · exact qS.fail
def fL_c23 (L : Nat) (xs : Nat → Int32) (nx : Int → qSt → Option Unit) (i : Int) (σ : qSt) : Option Unit :=
  (qif (0 ≤ (i + 1) ∧ (i + 1) < (L : Int)) <| (qif (0 ≤ (i + 2) ∧ (i + 2) < (L : Int)) <| (qbd (fL_better (qXs xs (i + 1)) (qXs xs (i + 2)) σ) fun (k2 : Int) (σ1 : qSt) => (qif (0 ≤ (i + 1) ∧ (i + 1) < (L : Int)) <| (qif (0 ≤ (i + 2) ∧ (i + 2) < (L : Int)) <| (qbd (fX6_better (qXs xs (i + 1)) (qXs xs (i + 2)) σ1) fun (r3 : Int) (σ4 : qSt) => ((fX6_thrown σ4 ).bind fun (r5 : Int) => if qI r5 = qI k2 then if qI k2 = 0 then (qif (0 ≤ (0 : Int) ∧ (0 : Int) < 1) <| if qI (qlcmp (σ4 64 0) (qi2l r3)) = 0 then nx (i + 7) σ4 else none) else nx (i + 7) σ4 else none)))))))
set_option maxRecDepth 100000 in
set_option maxHeartbeats 4000000 in
theorem tL_c23 {p : Program} {l : Launch} {e : Env} {s : State} {m : MethodId} {args : Array Value} {below : List Frame} {meth : Method} {c : Code} {z0 : Nat} {g : qG} {w : qWd} {ad am : Nat → Nat} {ao aod b L kc nc : Nat} {xs : Nat → Int32} {Q : Unit → State → Prop} {nx : Int → qSt → Option Unit} (cx : qCx p s m meth c cL_law 9 RL (some .boolean) g z0) (hX : qScr b L xs z0 s) (hB : qBC g ad w) (hM : qBM g am w) (hO : w 64 = some (ao, qAL (g.2 4) 1)) (hD : w 65 = some (aod, qAD (g.2 5) 1)) (h66 : w 66 = none) (h67 : w 67 = none) (h68 : w 68 = none) (hl : l.stackTraces = false) (hk : kc + 24 ≤ 601024 ∧ nc + 96 ≤ 7293034) (hnx : ∀ i σ, qS p l e room_1 s m args below meth c 9 g z0 w (kc + 24) (nc + 96) Q (nx i σ) σ 28 [(0, some (.ref b)), (1, some (.ref (ad 0))), (2, some (.ref (am 47))), (3, some (.ref ao)), (4, some (.ref aod)), (5, some (.int (qI i)))] []) (i : Int) (σ : qSt) : qS p l e room_1 s m args below meth c 9 g z0 w kc nc Q (fL_c23 L xs nx i σ) σ 1731 [(0, some (.ref b)), (1, some (.ref (ad 0))), (2, some (.ref (am 47))), (3, some (.ref ao)), (4, some (.ref aod)), (5, some (.int (qI i)))] [] := by
  unfold fL_c23
  refine r_aload_n (pc := 1731) cx dL_law_1731 rfl ?_
  refine r_aload_n (pc := 1732) cx dL_law_1732 rfl ?_
  refine r_iload (pc := 1733) cx dL_law_1733 rfl ?_
  refine r_iconst (pc := 1735) cx dL_law_1735 ?_
  refine r_iadd (pc := 1736) cx dL_law_1736 ?_
  refine r_sld (pc := 1737) cx hX dL_law_1737 ?_
  refine r_aload_n (pc := 1738) cx dL_law_1738 rfl ?_
  refine r_iload (pc := 1739) cx dL_law_1739 rfl ?_
  refine r_iconst (pc := 1741) cx dL_law_1741 ?_
  refine r_iadd (pc := 1742) cx dL_law_1742 ?_
  refine r_sld (pc := 1743) cx hX dL_law_1743 ?_
  refine r_aload_n (pc := 1744) cx dL_law_1744 rfl ?_
  refine r_callSW (pc := 1745) cx (tL_better hB hO hl (qXs xs (i + 1)) (qXs xs (i + 2)) σ) qmh_L_better wm_L_178 dL_law_1745 rfl rfl (Nat.le_of_ble_eq_true rfl) ⟨Nat.le_of_ble_eq_true rfl, Nat.le_of_ble_eq_true rfl⟩ ⟨by show kc + 1 ≤ 601024; omega, by show nc + 6 ≤ 7293034; omega⟩ (fun k2 σ1 _ => ?_)
  refine r_istore (pc := 1748) cx dL_law_1748 (by decide) rfl ?_
  refine r_aload_n (pc := 1750) cx dL_law_1750 rfl ?_
  refine r_aload_n (pc := 1751) cx dL_law_1751 rfl ?_
  refine r_iload (pc := 1752) cx dL_law_1752 rfl ?_
  refine r_iconst (pc := 1754) cx dL_law_1754 ?_
  refine r_iadd (pc := 1755) cx dL_law_1755 ?_
  refine r_sld (pc := 1756) cx hX dL_law_1756 ?_
  refine r_aload_n (pc := 1757) cx dL_law_1757 rfl ?_
  refine r_iload (pc := 1758) cx dL_law_1758 rfl ?_
  refine r_iconst (pc := 1760) cx dL_law_1760 ?_
  refine r_iadd (pc := 1761) cx dL_law_1761 ?_
  refine r_sld (pc := 1762) cx hX dL_law_1762 ?_
  refine r_dVi (pc := 1763) cx (tX6_better hM (qXs xs (i + 1)) (qXs xs (i + 2)) σ1) qm_X6_better qv_X6_better hcl_X6 (lw47 hM) wm_L_180 dL_law_1763 rfl rfl (Nat.le_of_ble_eq_true rfl) ⟨Nat.le_of_ble_eq_true rfl, Nat.le_of_ble_eq_true rfl⟩ ⟨rfl, rfl⟩ ⟨by show kc + 1 ≤ 601024; omega, by show nc + 6 ≤ 7293034; omega⟩ (fun r3 σ4 => ?_)
  refine r_istore (pc := 1766) cx dL_law_1766 (by decide) rfl ?_
  refine r_aload_n (pc := 1768) cx dL_law_1768 rfl ?_
  refine r_pVi (pc := 1769) cx (tX6_thrown hM  σ4) qm_X6_thrown qv_X6_thrown hcl_X6 (lw47 hM) wm_L_101 dL_law_1769 rfl rfl (Nat.le_of_ble_eq_true rfl) ⟨Nat.le_of_ble_eq_true rfl, Nat.le_of_ble_eq_true rfl⟩ ⟨rfl, rfl⟩ ⟨by show kc + 1 ≤ 601024; omega, by show nc + 6 ≤ 7293034; omega⟩ (fun r5 => ?_)
  refine r_iload (pc := 1772) cx dL_law_1772 rfl ?_
  refine r_icmp_eq (pc := 1774) (tgt := 1779) cx dL_law_1774 (by decide) ?_ ?_
  · refine r_iload (pc := 1779) cx dL_law_1779 rfl ?_
    refine r_if_ne (pc := 1781) (tgt := 1796) cx dL_law_1781 (by decide) ?_ ?_
    · refine r_goto (pc := 1796) (tgt := 1799) cx dL_law_1796 (by decide) ?_
      refine r_iinc (pc := 1799) cx dL_law_1799 rfl (by decide) rfl ?_
      refine r_goto (pc := 1802) (tgt := 28) cx dL_law_1802 (by decide) ?_
      refine qS.widen (k2 := kc + 24) (n2 := nc + 96) (by first | exact Nat.le_refl _ | exact Nat.le_add_right _ _ | exact Nat.add_le_add_left (by decide) _) (by first | exact Nat.le_refl _ | exact Nat.le_add_right _ _ | exact Nat.add_le_add_left (by decide) _) ?_
      exact qS.sub (qsub_cons rfl (qsub_cons rfl (qsub_cons rfl (qsub_cons rfl (qsub_cons rfl (qsub_cons rfl (qsub_nil _))))))) (hnx _ _)
    · refine r_aload_n (pc := 1784) cx dL_law_1784 rfl ?_
      refine r_iconst (pc := 1785) cx dL_law_1785 ?_
      refine r_laload (pc := 1786) cx hO rfl (by decide) dL_law_1786 ?_
      refine r_iload (pc := 1787) cx dL_law_1787 rfl ?_
      refine r_i2l (pc := 1789) cx dL_law_1789 ?_
      refine r_lcmp (pc := 1790) cx dL_law_1790 ?_
      refine r_if_eq (pc := 1791) (tgt := 1796) cx dL_law_1791 (by decide) ?_ ?_
      · refine r_goto (pc := 1796) (tgt := 1799) cx dL_law_1796 (by decide) ?_
        refine r_iinc (pc := 1799) cx dL_law_1799 rfl (by decide) rfl ?_
        refine r_goto (pc := 1802) (tgt := 28) cx dL_law_1802 (by decide) ?_
        refine qS.widen (k2 := kc + 24) (n2 := nc + 96) (by first | exact Nat.le_refl _ | exact Nat.le_add_right _ _ | exact Nat.add_le_add_left (by decide) _) (by first | exact Nat.le_refl _ | exact Nat.le_add_right _ _ | exact Nat.add_le_add_left (by decide) _) ?_
        exact qS.sub (qsub_cons rfl (qsub_cons rfl (qsub_cons rfl (qsub_cons rfl (qsub_cons rfl (qsub_cons rfl (qsub_nil _))))))) (hnx _ _)
      · exact qS.fail
  · exact qS.fail
