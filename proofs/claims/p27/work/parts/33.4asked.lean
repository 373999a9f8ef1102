def fL_asked_c390 (kc : Nat) (σ : qSt) : Option (Int × qSt) :=
  (qif (kc + 1 ≤ 300) (some (0, σ)))
set_option maxRecDepth 100000 in
set_option maxHeartbeats 4000000 in
theorem tL_asked_c390 {p : Program} {l : Launch} {e : Env} {s : State} {m : MethodId} {args : Array Value} {below : List Frame} {meth : Method} {c : Code} {z0 : Nat} {g : qG} {w : qWd} {ad : Nat → Nat} (cx : qCx p s m meth c cL_asked 15 RL (some .boolean) g z0) (hB : qBC g ad w) (h66 : w 66 = none) (h67 : w 67 = none) (h68 : w 68 = none) (hl : l.stackTraces = false) (kc : Nat) (σ : qSt) : qS p l e (qrk 34 300 1800) s m args below meth c 15 g z0 w kc (0 + 6 * kc) (qQ below g z0 w qri args s 300 1800) (fL_asked_c390 kc σ) σ 390 [] [] := by
  unfold fL_asked_c390
  refine r_qif (fun hkc => ?_)
  refine r_iconst (pc := 390) cx dL_asked_390 ?_
  refine r_istore (pc := 391) cx dL_asked_391 (by decide) rfl ?_
  refine r_iload (pc := 393) cx dL_asked_393 rfl ?_
  exact r_zreturn (pc := 395) (w0 := w) (mc := 300) (ms := 1800) (fun _ _ h => h) (by omega) (by omega) cx (by decide +kernel) dL_asked_395 rfl
def fL_asked_c330 (kc : Nat) (x2 : Int) (x3 : Int) (x8 : Int) (x9 : Int) (s0 : Int) (s1 : Int) (σ : qSt) : Option (Int × qSt) :=
  (qif (kc + 5 ≤ 300) (if qI (qlcmp s1 s0) = 0 then (qbd (fL_scatter x9 x8 (qdiv x3 12) (qrem x3 12) 1 1 σ) fun (r349 : Int) (σ25 : qSt) => (if qI (qlcmp r349 0) = 0 then (qbd (fL_scatter x9 x8 0 (qrem x3 12) 8 (1 + (qrem (qdiv x2 8) 12)) σ25) fun (r378 : Int) (σ26 : qSt) => (if qI (qlcmp r378 0) < 0 then (fL_asked_c390 ((kc + 2) + 2) σ26) else (some (1, σ26)))) else (fL_asked_c390 (kc + 2) σ25))) else (fL_asked_c390 kc σ)))
set_option maxRecDepth 100000 in
set_option maxHeartbeats 4000000 in
theorem tL_asked_c330 {p : Program} {l : Launch} {e : Env} {s : State} {m : MethodId} {args : Array Value} {below : List Frame} {meth : Method} {c : Code} {z0 : Nat} {g : qG} {w : qWd} {ad : Nat → Nat} (cx : qCx p s m meth c cL_asked 15 RL (some .boolean) g z0) (hB : qBC g ad w) (h66 : w 66 = none) (h67 : w 67 = none) (h68 : w 68 = none) (hl : l.stackTraces = false) (kc : Nat) (x2 : Int) (x3 : Int) (x8 : Int) (x9 : Int) (s0 : Int) (s1 : Int) (σ : qSt) : qS p l e (qrk 34 300 1800) s m args below meth c 15 g z0 w kc (0 + 6 * kc) (qQ below g z0 w qri args s 300 1800) (fL_asked_c330 kc x2 x3 x8 x9 s0 s1 σ) σ 330 [(0, some (.ref (ad 0))), (2, some (.int (qI x2))), (3, some (.int (qI x3))), (8, some (.int (qI x8))), (9, some (.int (qI x9)))] [.long (qJ s0), .long (qJ s1)] := by
  unfold fL_asked_c330
  refine r_qif (fun hkc => ?_)
  refine r_lcmp (pc := 330) cx dL_asked_330 ?_
  refine r_if_ne (tgt := 390) cx dL_asked_331 (by decide) ?_ ?_
  · exact qS.sub (qsub_nil _) (tL_asked_c390 cx hB h66 h67 h68 hl _ _)
  · refine r_aload_n (pc := 334) cx dL_asked_334 rfl ?_
    refine r_iload (pc := 335) cx dL_asked_335 rfl ?_
    refine r_iload (pc := 337) cx dL_asked_337 rfl ?_
    refine r_iload_n (pc := 339) cx dL_asked_339 rfl ?_
    refine r_bipush (pc := 340) (v := 12) cx dL_asked_340 (by decide +kernel) ?_
    refine r_idiv (pc := 342) cx dL_asked_342 (by decide +kernel) ?_
    refine r_iload_n (pc := 343) cx dL_asked_343 rfl ?_
    refine r_bipush (pc := 344) (v := 12) cx dL_asked_344 (by decide +kernel) ?_
    refine r_irem (pc := 346) cx dL_asked_346 (by decide +kernel) ?_
    refine r_iconst (pc := 347) cx dL_asked_347 ?_
    refine r_iconst (pc := 348) cx dL_asked_348 ?_
    refine r_wj (pc := 349) (nb := 0) (k := kc) (mc := 2) (Mx := 300) cx (tL_scatter hB h66 h67 h68 hl x9 x8 (qdiv x3 12) (qrem x3 12) 1 1 σ) qmh_L_scatter wm_L_134 dL_asked_349 rfl rfl (Nat.le_of_ble_eq_true rfl) ⟨Nat.le_of_ble_eq_true rfl, Nat.le_of_ble_eq_true rfl⟩ ⟨Nat.le_of_ble_eq_true rfl, Nat.le_of_ble_eq_true rfl⟩ ⟨Nat.le_of_ble_eq_true rfl, Nat.le_of_ble_eq_true rfl⟩ (by omega) (fun r349 σ25 => ?_)
    refine r_lconst (pc := 352) (z := 0) cx dL_asked_352 (by decide +kernel) ?_
    refine r_lcmp (pc := 353) cx dL_asked_353 ?_
    refine r_if_ne (tgt := 390) cx dL_asked_354 (by decide) ?_ ?_
    · exact qS.sub (qsub_nil _) (tL_asked_c390 cx hB h66 h67 h68 hl _ _)
    · refine r_aload_n (pc := 357) cx dL_asked_357 rfl ?_
      refine r_iload (pc := 358) cx dL_asked_358 rfl ?_
      refine r_iload (pc := 360) cx dL_asked_360 rfl ?_
      refine r_iconst (pc := 362) cx dL_asked_362 ?_
      refine r_iload_n (pc := 363) cx dL_asked_363 rfl ?_
      refine r_bipush (pc := 364) (v := 12) cx dL_asked_364 (by decide +kernel) ?_
      refine r_irem (pc := 366) cx dL_asked_366 (by decide +kernel) ?_
      refine r_bipush (pc := 367) (v := 8) cx dL_asked_367 (by decide +kernel) ?_
      refine r_iconst (pc := 369) cx dL_asked_369 ?_
      refine r_iload_n (pc := 370) cx dL_asked_370 rfl ?_
      refine r_bipush (pc := 371) (v := 8) cx dL_asked_371 (by decide +kernel) ?_
      refine r_idiv (pc := 373) cx dL_asked_373 (by decide +kernel) ?_
      refine r_bipush (pc := 374) (v := 12) cx dL_asked_374 (by decide +kernel) ?_
      refine r_irem (pc := 376) cx dL_asked_376 (by decide +kernel) ?_
      refine r_iadd (pc := 377) cx dL_asked_377 ?_
      refine r_wj (pc := 378) (nb := 0) (k := (kc + 2)) (mc := 2) (Mx := 300) cx (tL_scatter hB h66 h67 h68 hl x9 x8 0 (qrem x3 12) 8 (1 + (qrem (qdiv x2 8) 12)) σ25) qmh_L_scatter wm_L_134 dL_asked_378 rfl rfl (Nat.le_of_ble_eq_true rfl) ⟨Nat.le_of_ble_eq_true rfl, Nat.le_of_ble_eq_true rfl⟩ ⟨Nat.le_of_ble_eq_true rfl, Nat.le_of_ble_eq_true rfl⟩ ⟨Nat.le_of_ble_eq_true rfl, Nat.le_of_ble_eq_true rfl⟩ (by omega) (fun r378 σ26 => ?_)
      refine r_lconst (pc := 381) (z := 0) cx dL_asked_381 (by decide +kernel) ?_
      refine r_lcmp (pc := 382) cx dL_asked_382 ?_
      refine r_if_lt (tgt := 390) cx dL_asked_383 (by decide) ?_ ?_
      · exact qS.sub (qsub_nil _) (tL_asked_c390 cx hB h66 h67 h68 hl _ _)
      · refine r_iconst (pc := 386) cx dL_asked_386 ?_
        refine r_goto (pc := 387) (tgt := 391) cx dL_asked_387 (by decide) ?_
        refine r_istore (pc := 391) cx dL_asked_391 (by decide) rfl ?_
        refine r_iload (pc := 393) cx dL_asked_393 rfl ?_
        exact r_zreturn (pc := 395) (w0 := w) (mc := 300) (ms := 1800) (fun _ _ h => h) (by omega) (by omega) cx (by decide +kernel) dL_asked_395 rfl
def fL_asked_c306 (kc : Nat) (x2 : Int) (x3 : Int) (x7 : Int) (x8 : Int) (x9 : Int) (x10 : Int) (x12 : Int) (s0 : Int) (σ : qSt) : Option (Int × qSt) :=
  (if qI x7 = 0 then (fL_asked_c390 kc σ) else (if qI x12 = 0 then (fL_asked_c330 kc x2 x3 x8 x9 (100 * s0) x10 σ) else (fL_asked_c330 kc x2 x3 x8 x9 0 x10 σ)))
set_option maxRecDepth 100000 in
set_option maxHeartbeats 4000000 in
theorem tL_asked_c306 {p : Program} {l : Launch} {e : Env} {s : State} {m : MethodId} {args : Array Value} {below : List Frame} {meth : Method} {c : Code} {z0 : Nat} {g : qG} {w : qWd} {ad : Nat → Nat} (cx : qCx p s m meth c cL_asked 15 RL (some .boolean) g z0) (hB : qBC g ad w) (h66 : w 66 = none) (h67 : w 67 = none) (h68 : w 68 = none) (hl : l.stackTraces = false) (kc : Nat) (x2 : Int) (x3 : Int) (x7 : Int) (x8 : Int) (x9 : Int) (x10 : Int) (x12 : Int) (s0 : Int) (σ : qSt) : qS p l e (qrk 34 300 1800) s m args below meth c 15 g z0 w kc (0 + 6 * kc) (qQ below g z0 w qri args s 300 1800) (fL_asked_c306 kc x2 x3 x7 x8 x9 x10 x12 s0 σ) σ 306 [(0, some (.ref (ad 0))), (2, some (.int (qI x2))), (3, some (.int (qI x3))), (7, some (.int (qI x7))), (8, some (.int (qI x8))), (9, some (.int (qI x9))), (10, some (.long (qJ x10))), (12, some (.int (qI x12)))] [.long (qJ s0)] := by
  unfold fL_asked_c306
  refine r_lstore (pc := 306) cx dL_asked_306 (by decide) rfl ?_
  refine r_iload (pc := 308) cx dL_asked_308 rfl ?_
  refine r_if_eq (tgt := 390) cx dL_asked_310 (by decide) ?_ ?_
  · exact qS.sub (qsub_nil _) (tL_asked_c390 cx hB h66 h67 h68 hl _ _)
  · refine r_lload (pc := 313) cx dL_asked_313 rfl ?_
    refine r_iload (pc := 315) cx dL_asked_315 rfl ?_
    refine r_if_eq (tgt := 324) cx dL_asked_317 (by decide) ?_ ?_
    · refine r_ldc2 (pc := 324) (v := 100) cx dL_asked_324 wq_L_132 ?_
      refine r_lload (pc := 327) cx dL_asked_327 rfl ?_
      refine r_lmul (pc := 329) cx dL_asked_329 ?_
      exact qS.sub (qsub_cons rfl (qsub_cons rfl (qsub_cons rfl (qsub_cons rfl (qsub_cons rfl (qsub_nil _)))))) (tL_asked_c330 cx hB h66 h67 h68 hl _ _ _ _ _ _ _ _)
    · refine r_lconst (pc := 320) (z := 0) cx dL_asked_320 (by decide +kernel) ?_
      refine r_goto (pc := 321) (tgt := 330) cx dL_asked_321 (by decide) ?_
      exact qS.sub (qsub_cons rfl (qsub_cons rfl (qsub_cons rfl (qsub_cons rfl (qsub_cons rfl (qsub_nil _)))))) (tL_asked_c330 cx hB h66 h67 h68 hl _ _ _ _ _ _ _ _)
def fL_asked_c114 (kc : Nat) (x2 : Int) (x3 : Int) (x7 : Int) (x8 : Int) (x9 : Int) (x10 : Int) (s0 : Int) (σ : qSt) : Option (Int × qSt) :=
  (qif (kc + 4 ≤ 300) (if qI x8 = 0 then (if qI x9 = 0 then (qbd (fL_cellOf x3 2 σ) fun (r161 : Int) (σ17 : qSt) => (qbd (fL_cellOf x3 2 σ17) fun (r170 : Int) (σ18 : qSt) => (qbd (fL_cellOf x3 2 σ18) fun (r182 : Int) (σ19 : qSt) => (qbd (fL_cellOf x3 2 σ19) fun (r194 : Int) (σ20 : qSt) => (fL_asked_c306 ((((kc + 1) + 1) + 1) + 1) x2 x3 x7 x8 x9 x10 s0 (qi2l ((((qand (ql2i r161) 1) + (qand (qshr (ql2i r170) 1) 1)) + (qand (qshr (ql2i r182) 2) 1)) + (qand (qshr (ql2i r194) 3) 1))) σ20))))) else (qbd (fL_cellOf x3 4 σ) fun (r129 : Int) (σ21 : qSt) => (qbd (fL_cellOf x3 5 σ21) fun (r135 : Int) (σ22 : qSt) => (qbd (fL_cellOf x3 6 σ22) fun (r143 : Int) (σ23 : qSt) => (qbd (fL_cellOf x3 7 σ23) fun (r151 : Int) (σ24 : qSt) => (fL_asked_c306 ((((kc + 1) + 1) + 1) + 1) x2 x3 x7 x8 x9 x10 s0 (((r129 + r135) + r143) + r151) σ24)))))) else (if qI x8 = qI 1 then (if qI x9 = 0 then (qbd (fL_cellOf x3 2 σ) fun (r238 : Int) (σ13 : qSt) => (qbd (fL_cellOf x3 2 σ13) fun (r247 : Int) (σ14 : qSt) => (fL_asked_c306 ((kc + 1) + 1) x2 x3 x7 x8 x9 x10 s0 (qi2l ((qand (ql2i r238) 1) - (qand (qshr (ql2i r247) 2) 1))) σ14))) else (qbd (fL_cellOf x3 4 σ) fun (r221 : Int) (σ15 : qSt) => (qbd (fL_cellOf x3 6 σ15) fun (r228 : Int) (σ16 : qSt) => (fL_asked_c306 ((kc + 1) + 1) x2 x3 x7 x8 x9 x10 s0 (r221 - r228) σ16)))) else (if qI x9 = 0 then (qbd (fL_cellOf x3 2 σ) fun (r285 : Int) (σ9 : qSt) => (qbd (fL_cellOf x3 2 σ9) fun (r296 : Int) (σ10 : qSt) => (fL_asked_c306 ((kc + 1) + 1) x2 x3 x7 x8 x9 x10 s0 (qi2l ((qand (qshr (ql2i r285) 1) 1) - (qand (qshr (ql2i r296) 3) 1))) σ10))) else (qbd (fL_cellOf x3 5 σ) fun (r268 : Int) (σ11 : qSt) => (qbd (fL_cellOf x3 7 σ11) fun (r275 : Int) (σ12 : qSt) => (fL_asked_c306 ((kc + 1) + 1) x2 x3 x7 x8 x9 x10 s0 (r268 - r275) σ12)))))))
set_option maxRecDepth 100000 in
set_option maxHeartbeats 4000000 in
theorem tL_asked_c114 {p : Program} {l : Launch} {e : Env} {s : State} {m : MethodId} {args : Array Value} {below : List Frame} {meth : Method} {c : Code} {z0 : Nat} {g : qG} {w : qWd} {ad : Nat → Nat} (cx : qCx p s m meth c cL_asked 15 RL (some .boolean) g z0) (hB : qBC g ad w) (h66 : w 66 = none) (h67 : w 67 = none) (h68 : w 68 = none) (hl : l.stackTraces = false) (kc : Nat) (x2 : Int) (x3 : Int) (x7 : Int) (x8 : Int) (x9 : Int) (x10 : Int) (s0 : Int) (σ : qSt) : qS p l e (qrk 34 300 1800) s m args below meth c 15 g z0 w kc (0 + 6 * kc) (qQ below g z0 w qri args s 300 1800) (fL_asked_c114 kc x2 x3 x7 x8 x9 x10 s0 σ) σ 114 [(0, some (.ref (ad 0))), (2, some (.int (qI x2))), (3, some (.int (qI x3))), (7, some (.int (qI x7))), (8, some (.int (qI x8))), (9, some (.int (qI x9))), (10, some (.long (qJ x10)))] [.int (qI s0)] := by
  unfold fL_asked_c114
  refine r_qif (fun hkc => ?_)
  refine r_istore (pc := 114) cx dL_asked_114 (by decide) rfl ?_
  refine r_iload (pc := 116) cx dL_asked_116 rfl ?_
  refine r_if_ne (tgt := 207) cx dL_asked_118 (by decide) ?_ ?_
  · refine r_iload (pc := 207) cx dL_asked_207 rfl ?_
    refine r_iconst (pc := 209) cx dL_asked_209 ?_
    refine r_icmp_ne (tgt := 260) cx dL_asked_210 (by decide) ?_ ?_
    · refine r_iload (pc := 260) cx dL_asked_260 rfl ?_
      refine r_if_eq (tgt := 282) cx dL_asked_262 (by decide) ?_ ?_
      · refine r_aload_n (pc := 282) cx dL_asked_282 rfl ?_
        refine r_iload_n (pc := 283) cx dL_asked_283 rfl ?_
        refine r_iconst (pc := 284) cx dL_asked_284 ?_
        refine r_wj (pc := 285) (nb := 0) (k := kc) (mc := 1) (Mx := 300) cx (tL_cellOf hB h66 h67 h68 hl x3 2 σ) qmh_L_cellOf wm_L_101 dL_asked_285 rfl rfl (Nat.le_of_ble_eq_true rfl) ⟨Nat.le_of_ble_eq_true rfl, Nat.le_of_ble_eq_true rfl⟩ ⟨Nat.le_of_ble_eq_true rfl, Nat.le_of_ble_eq_true rfl⟩ ⟨Nat.le_of_ble_eq_true rfl, Nat.le_of_ble_eq_true rfl⟩ (by omega) (fun r285 σ9 => ?_)
        refine r_l2i (pc := 288) cx dL_asked_288 ?_
        refine r_iconst (pc := 289) cx dL_asked_289 ?_
        refine r_ishr (pc := 290) cx dL_asked_290 ?_
        refine r_iconst (pc := 291) cx dL_asked_291 ?_
        refine r_iand (pc := 292) cx dL_asked_292 ?_
        refine r_aload_n (pc := 293) cx dL_asked_293 rfl ?_
        refine r_iload_n (pc := 294) cx dL_asked_294 rfl ?_
        refine r_iconst (pc := 295) cx dL_asked_295 ?_
        refine r_wj (pc := 296) (nb := 0) (k := (kc + 1)) (mc := 1) (Mx := 300) cx (tL_cellOf hB h66 h67 h68 hl x3 2 σ9) qmh_L_cellOf wm_L_101 dL_asked_296 rfl rfl (Nat.le_of_ble_eq_true rfl) ⟨Nat.le_of_ble_eq_true rfl, Nat.le_of_ble_eq_true rfl⟩ ⟨Nat.le_of_ble_eq_true rfl, Nat.le_of_ble_eq_true rfl⟩ ⟨Nat.le_of_ble_eq_true rfl, Nat.le_of_ble_eq_true rfl⟩ (by omega) (fun r296 σ10 => ?_)
        refine r_l2i (pc := 299) cx dL_asked_299 ?_
        refine r_iconst (pc := 300) cx dL_asked_300 ?_
        refine r_ishr (pc := 301) cx dL_asked_301 ?_
        refine r_iconst (pc := 302) cx dL_asked_302 ?_
        refine r_iand (pc := 303) cx dL_asked_303 ?_
        refine r_isub (pc := 304) cx dL_asked_304 ?_
        refine r_i2l (pc := 305) cx dL_asked_305 ?_
        exact qS.sub (qsub_cons rfl (qsub_cons rfl (qsub_cons rfl (qsub_cons rfl (qsub_cons rfl (qsub_cons rfl (qsub_cons rfl (qsub_cons rfl (qsub_nil _))))))))) (tL_asked_c306 cx hB h66 h67 h68 hl _ _ _ _ _ _ _ _ _ _)
      · refine r_aload_n (pc := 265) cx dL_asked_265 rfl ?_
        refine r_iload_n (pc := 266) cx dL_asked_266 rfl ?_
        refine r_iconst (pc := 267) cx dL_asked_267 ?_
        refine r_wj (pc := 268) (nb := 0) (k := kc) (mc := 1) (Mx := 300) cx (tL_cellOf hB h66 h67 h68 hl x3 5 σ) qmh_L_cellOf wm_L_101 dL_asked_268 rfl rfl (Nat.le_of_ble_eq_true rfl) ⟨Nat.le_of_ble_eq_true rfl, Nat.le_of_ble_eq_true rfl⟩ ⟨Nat.le_of_ble_eq_true rfl, Nat.le_of_ble_eq_true rfl⟩ ⟨Nat.le_of_ble_eq_true rfl, Nat.le_of_ble_eq_true rfl⟩ (by omega) (fun r268 σ11 => ?_)
        refine r_aload_n (pc := 271) cx dL_asked_271 rfl ?_
        refine r_iload_n (pc := 272) cx dL_asked_272 rfl ?_
        refine r_bipush (pc := 273) (v := 7) cx dL_asked_273 (by decide +kernel) ?_
        refine r_wj (pc := 275) (nb := 0) (k := (kc + 1)) (mc := 1) (Mx := 300) cx (tL_cellOf hB h66 h67 h68 hl x3 7 σ11) qmh_L_cellOf wm_L_101 dL_asked_275 rfl rfl (Nat.le_of_ble_eq_true rfl) ⟨Nat.le_of_ble_eq_true rfl, Nat.le_of_ble_eq_true rfl⟩ ⟨Nat.le_of_ble_eq_true rfl, Nat.le_of_ble_eq_true rfl⟩ ⟨Nat.le_of_ble_eq_true rfl, Nat.le_of_ble_eq_true rfl⟩ (by omega) (fun r275 σ12 => ?_)
        refine r_lsub (pc := 278) cx dL_asked_278 ?_
        refine r_goto (pc := 279) (tgt := 306) cx dL_asked_279 (by decide) ?_
        exact qS.sub (qsub_cons rfl (qsub_cons rfl (qsub_cons rfl (qsub_cons rfl (qsub_cons rfl (qsub_cons rfl (qsub_cons rfl (qsub_cons rfl (qsub_nil _))))))))) (tL_asked_c306 cx hB h66 h67 h68 hl _ _ _ _ _ _ _ _ _ _)
    · refine r_iload (pc := 213) cx dL_asked_213 rfl ?_
      refine r_if_eq (tgt := 235) cx dL_asked_215 (by decide) ?_ ?_
      · refine r_aload_n (pc := 235) cx dL_asked_235 rfl ?_
        refine r_iload_n (pc := 236) cx dL_asked_236 rfl ?_
        refine r_iconst (pc := 237) cx dL_asked_237 ?_
        refine r_wj (pc := 238) (nb := 0) (k := kc) (mc := 1) (Mx := 300) cx (tL_cellOf hB h66 h67 h68 hl x3 2 σ) qmh_L_cellOf wm_L_101 dL_asked_238 rfl rfl (Nat.le_of_ble_eq_true rfl) ⟨Nat.le_of_ble_eq_true rfl, Nat.le_of_ble_eq_true rfl⟩ ⟨Nat.le_of_ble_eq_true rfl, Nat.le_of_ble_eq_true rfl⟩ ⟨Nat.le_of_ble_eq_true rfl, Nat.le_of_ble_eq_true rfl⟩ (by omega) (fun r238 σ13 => ?_)
        refine r_l2i (pc := 241) cx dL_asked_241 ?_
        refine r_iconst (pc := 242) cx dL_asked_242 ?_
        refine r_iand (pc := 243) cx dL_asked_243 ?_
        refine r_aload_n (pc := 244) cx dL_asked_244 rfl ?_
        refine r_iload_n (pc := 245) cx dL_asked_245 rfl ?_
        refine r_iconst (pc := 246) cx dL_asked_246 ?_
        refine r_wj (pc := 247) (nb := 0) (k := (kc + 1)) (mc := 1) (Mx := 300) cx (tL_cellOf hB h66 h67 h68 hl x3 2 σ13) qmh_L_cellOf wm_L_101 dL_asked_247 rfl rfl (Nat.le_of_ble_eq_true rfl) ⟨Nat.le_of_ble_eq_true rfl, Nat.le_of_ble_eq_true rfl⟩ ⟨Nat.le_of_ble_eq_true rfl, Nat.le_of_ble_eq_true rfl⟩ ⟨Nat.le_of_ble_eq_true rfl, Nat.le_of_ble_eq_true rfl⟩ (by omega) (fun r247 σ14 => ?_)
        refine r_l2i (pc := 250) cx dL_asked_250 ?_
        refine r_iconst (pc := 251) cx dL_asked_251 ?_
        refine r_ishr (pc := 252) cx dL_asked_252 ?_
        refine r_iconst (pc := 253) cx dL_asked_253 ?_
        refine r_iand (pc := 254) cx dL_asked_254 ?_
        refine r_isub (pc := 255) cx dL_asked_255 ?_
        refine r_i2l (pc := 256) cx dL_asked_256 ?_
        refine r_goto (pc := 257) (tgt := 306) cx dL_asked_257 (by decide) ?_
        exact qS.sub (qsub_cons rfl (qsub_cons rfl (qsub_cons rfl (qsub_cons rfl (qsub_cons rfl (qsub_cons rfl (qsub_cons rfl (qsub_cons rfl (qsub_nil _))))))))) (tL_asked_c306 cx hB h66 h67 h68 hl _ _ _ _ _ _ _ _ _ _)
      · refine r_aload_n (pc := 218) cx dL_asked_218 rfl ?_
        refine r_iload_n (pc := 219) cx dL_asked_219 rfl ?_
        refine r_iconst (pc := 220) cx dL_asked_220 ?_
        refine r_wj (pc := 221) (nb := 0) (k := kc) (mc := 1) (Mx := 300) cx (tL_cellOf hB h66 h67 h68 hl x3 4 σ) qmh_L_cellOf wm_L_101 dL_asked_221 rfl rfl (Nat.le_of_ble_eq_true rfl) ⟨Nat.le_of_ble_eq_true rfl, Nat.le_of_ble_eq_true rfl⟩ ⟨Nat.le_of_ble_eq_true rfl, Nat.le_of_ble_eq_true rfl⟩ ⟨Nat.le_of_ble_eq_true rfl, Nat.le_of_ble_eq_true rfl⟩ (by omega) (fun r221 σ15 => ?_)
        refine r_aload_n (pc := 224) cx dL_asked_224 rfl ?_
        refine r_iload_n (pc := 225) cx dL_asked_225 rfl ?_
        refine r_bipush (pc := 226) (v := 6) cx dL_asked_226 (by decide +kernel) ?_
        refine r_wj (pc := 228) (nb := 0) (k := (kc + 1)) (mc := 1) (Mx := 300) cx (tL_cellOf hB h66 h67 h68 hl x3 6 σ15) qmh_L_cellOf wm_L_101 dL_asked_228 rfl rfl (Nat.le_of_ble_eq_true rfl) ⟨Nat.le_of_ble_eq_true rfl, Nat.le_of_ble_eq_true rfl⟩ ⟨Nat.le_of_ble_eq_true rfl, Nat.le_of_ble_eq_true rfl⟩ ⟨Nat.le_of_ble_eq_true rfl, Nat.le_of_ble_eq_true rfl⟩ (by omega) (fun r228 σ16 => ?_)
        refine r_lsub (pc := 231) cx dL_asked_231 ?_
        refine r_goto (pc := 232) (tgt := 306) cx dL_asked_232 (by decide) ?_
        exact qS.sub (qsub_cons rfl (qsub_cons rfl (qsub_cons rfl (qsub_cons rfl (qsub_cons rfl (qsub_cons rfl (qsub_cons rfl (qsub_cons rfl (qsub_nil _))))))))) (tL_asked_c306 cx hB h66 h67 h68 hl _ _ _ _ _ _ _ _ _ _)
  · refine r_iload (pc := 121) cx dL_asked_121 rfl ?_
    refine r_if_eq (tgt := 158) cx dL_asked_123 (by decide) ?_ ?_
    · refine r_aload_n (pc := 158) cx dL_asked_158 rfl ?_
      refine r_iload_n (pc := 159) cx dL_asked_159 rfl ?_
      refine r_iconst (pc := 160) cx dL_asked_160 ?_
      refine r_wj (pc := 161) (nb := 0) (k := kc) (mc := 1) (Mx := 300) cx (tL_cellOf hB h66 h67 h68 hl x3 2 σ) qmh_L_cellOf wm_L_101 dL_asked_161 rfl rfl (Nat.le_of_ble_eq_true rfl) ⟨Nat.le_of_ble_eq_true rfl, Nat.le_of_ble_eq_true rfl⟩ ⟨Nat.le_of_ble_eq_true rfl, Nat.le_of_ble_eq_true rfl⟩ ⟨Nat.le_of_ble_eq_true rfl, Nat.le_of_ble_eq_true rfl⟩ (by omega) (fun r161 σ17 => ?_)
      refine r_l2i (pc := 164) cx dL_asked_164 ?_
      refine r_iconst (pc := 165) cx dL_asked_165 ?_
      refine r_iand (pc := 166) cx dL_asked_166 ?_
      refine r_aload_n (pc := 167) cx dL_asked_167 rfl ?_
      refine r_iload_n (pc := 168) cx dL_asked_168 rfl ?_
      refine r_iconst (pc := 169) cx dL_asked_169 ?_
      refine r_wj (pc := 170) (nb := 0) (k := (kc + 1)) (mc := 1) (Mx := 300) cx (tL_cellOf hB h66 h67 h68 hl x3 2 σ17) qmh_L_cellOf wm_L_101 dL_asked_170 rfl rfl (Nat.le_of_ble_eq_true rfl) ⟨Nat.le_of_ble_eq_true rfl, Nat.le_of_ble_eq_true rfl⟩ ⟨Nat.le_of_ble_eq_true rfl, Nat.le_of_ble_eq_true rfl⟩ ⟨Nat.le_of_ble_eq_true rfl, Nat.le_of_ble_eq_true rfl⟩ (by omega) (fun r170 σ18 => ?_)
      refine r_l2i (pc := 173) cx dL_asked_173 ?_
      refine r_iconst (pc := 174) cx dL_asked_174 ?_
      refine r_ishr (pc := 175) cx dL_asked_175 ?_
      refine r_iconst (pc := 176) cx dL_asked_176 ?_
      refine r_iand (pc := 177) cx dL_asked_177 ?_
      refine r_iadd (pc := 178) cx dL_asked_178 ?_
      refine r_aload_n (pc := 179) cx dL_asked_179 rfl ?_
      refine r_iload_n (pc := 180) cx dL_asked_180 rfl ?_
      refine r_iconst (pc := 181) cx dL_asked_181 ?_
      refine r_wj (pc := 182) (nb := 0) (k := ((kc + 1) + 1)) (mc := 1) (Mx := 300) cx (tL_cellOf hB h66 h67 h68 hl x3 2 σ18) qmh_L_cellOf wm_L_101 dL_asked_182 rfl rfl (Nat.le_of_ble_eq_true rfl) ⟨Nat.le_of_ble_eq_true rfl, Nat.le_of_ble_eq_true rfl⟩ ⟨Nat.le_of_ble_eq_true rfl, Nat.le_of_ble_eq_true rfl⟩ ⟨Nat.le_of_ble_eq_true rfl, Nat.le_of_ble_eq_true rfl⟩ (by omega) (fun r182 σ19 => ?_)
      refine r_l2i (pc := 185) cx dL_asked_185 ?_
      refine r_iconst (pc := 186) cx dL_asked_186 ?_
      refine r_ishr (pc := 187) cx dL_asked_187 ?_
      refine r_iconst (pc := 188) cx dL_asked_188 ?_
      refine r_iand (pc := 189) cx dL_asked_189 ?_
      refine r_iadd (pc := 190) cx dL_asked_190 ?_
      refine r_aload_n (pc := 191) cx dL_asked_191 rfl ?_
      refine r_iload_n (pc := 192) cx dL_asked_192 rfl ?_
      refine r_iconst (pc := 193) cx dL_asked_193 ?_
      refine r_wj (pc := 194) (nb := 0) (k := (((kc + 1) + 1) + 1)) (mc := 1) (Mx := 300) cx (tL_cellOf hB h66 h67 h68 hl x3 2 σ19) qmh_L_cellOf wm_L_101 dL_asked_194 rfl rfl (Nat.le_of_ble_eq_true rfl) ⟨Nat.le_of_ble_eq_true rfl, Nat.le_of_ble_eq_true rfl⟩ ⟨Nat.le_of_ble_eq_true rfl, Nat.le_of_ble_eq_true rfl⟩ ⟨Nat.le_of_ble_eq_true rfl, Nat.le_of_ble_eq_true rfl⟩ (by omega) (fun r194 σ20 => ?_)
      refine r_l2i (pc := 197) cx dL_asked_197 ?_
      refine r_iconst (pc := 198) cx dL_asked_198 ?_
      refine r_ishr (pc := 199) cx dL_asked_199 ?_
      refine r_iconst (pc := 200) cx dL_asked_200 ?_
      refine r_iand (pc := 201) cx dL_asked_201 ?_
      refine r_iadd (pc := 202) cx dL_asked_202 ?_
      refine r_i2l (pc := 203) cx dL_asked_203 ?_
      refine r_goto (pc := 204) (tgt := 306) cx dL_asked_204 (by decide) ?_
      exact qS.sub (qsub_cons rfl (qsub_cons rfl (qsub_cons rfl (qsub_cons rfl (qsub_cons rfl (qsub_cons rfl (qsub_cons rfl (qsub_cons rfl (qsub_nil _))))))))) (tL_asked_c306 cx hB h66 h67 h68 hl _ _ _ _ _ _ _ _ _ _)
    · refine r_aload_n (pc := 126) cx dL_asked_126 rfl ?_
      refine r_iload_n (pc := 127) cx dL_asked_127 rfl ?_
      refine r_iconst (pc := 128) cx dL_asked_128 ?_
      refine r_wj (pc := 129) (nb := 0) (k := kc) (mc := 1) (Mx := 300) cx (tL_cellOf hB h66 h67 h68 hl x3 4 σ) qmh_L_cellOf wm_L_101 dL_asked_129 rfl rfl (Nat.le_of_ble_eq_true rfl) ⟨Nat.le_of_ble_eq_true rfl, Nat.le_of_ble_eq_true rfl⟩ ⟨Nat.le_of_ble_eq_true rfl, Nat.le_of_ble_eq_true rfl⟩ ⟨Nat.le_of_ble_eq_true rfl, Nat.le_of_ble_eq_true rfl⟩ (by omega) (fun r129 σ21 => ?_)
      refine r_aload_n (pc := 132) cx dL_asked_132 rfl ?_
      refine r_iload_n (pc := 133) cx dL_asked_133 rfl ?_
      refine r_iconst (pc := 134) cx dL_asked_134 ?_
      refine r_wj (pc := 135) (nb := 0) (k := (kc + 1)) (mc := 1) (Mx := 300) cx (tL_cellOf hB h66 h67 h68 hl x3 5 σ21) qmh_L_cellOf wm_L_101 dL_asked_135 rfl rfl (Nat.le_of_ble_eq_true rfl) ⟨Nat.le_of_ble_eq_true rfl, Nat.le_of_ble_eq_true rfl⟩ ⟨Nat.le_of_ble_eq_true rfl, Nat.le_of_ble_eq_true rfl⟩ ⟨Nat.le_of_ble_eq_true rfl, Nat.le_of_ble_eq_true rfl⟩ (by omega) (fun r135 σ22 => ?_)
      refine r_ladd (pc := 138) cx dL_asked_138 ?_
      refine r_aload_n (pc := 139) cx dL_asked_139 rfl ?_
      refine r_iload_n (pc := 140) cx dL_asked_140 rfl ?_
      refine r_bipush (pc := 141) (v := 6) cx dL_asked_141 (by decide +kernel) ?_
      refine r_wj (pc := 143) (nb := 0) (k := ((kc + 1) + 1)) (mc := 1) (Mx := 300) cx (tL_cellOf hB h66 h67 h68 hl x3 6 σ22) qmh_L_cellOf wm_L_101 dL_asked_143 rfl rfl (Nat.le_of_ble_eq_true rfl) ⟨Nat.le_of_ble_eq_true rfl, Nat.le_of_ble_eq_true rfl⟩ ⟨Nat.le_of_ble_eq_true rfl, Nat.le_of_ble_eq_true rfl⟩ ⟨Nat.le_of_ble_eq_true rfl, Nat.le_of_ble_eq_true rfl⟩ (by omega) (fun r143 σ23 => ?_)
      refine r_ladd (pc := 146) cx dL_asked_146 ?_
      refine r_aload_n (pc := 147) cx dL_asked_147 rfl ?_
      refine r_iload_n (pc := 148) cx dL_asked_148 rfl ?_
      refine r_bipush (pc := 149) (v := 7) cx dL_asked_149 (by decide +kernel) ?_
      refine r_wj (pc := 151) (nb := 0) (k := (((kc + 1) + 1) + 1)) (mc := 1) (Mx := 300) cx (tL_cellOf hB h66 h67 h68 hl x3 7 σ23) qmh_L_cellOf wm_L_101 dL_asked_151 rfl rfl (Nat.le_of_ble_eq_true rfl) ⟨Nat.le_of_ble_eq_true rfl, Nat.le_of_ble_eq_true rfl⟩ ⟨Nat.le_of_ble_eq_true rfl, Nat.le_of_ble_eq_true rfl⟩ ⟨Nat.le_of_ble_eq_true rfl, Nat.le_of_ble_eq_true rfl⟩ (by omega) (fun r151 σ24 => ?_)
      refine r_ladd (pc := 154) cx dL_asked_154 ?_
      refine r_goto (pc := 155) (tgt := 306) cx dL_asked_155 (by decide) ?_
      exact qS.sub (qsub_cons rfl (qsub_cons rfl (qsub_cons rfl (qsub_cons rfl (qsub_cons rfl (qsub_cons rfl (qsub_cons rfl (qsub_cons rfl (qsub_nil _))))))))) (tL_asked_c306 cx hB h66 h67 h68 hl _ _ _ _ _ _ _ _ _ _)
def fL_asked_c76 (kc : Nat) (x2 : Int) (x3 : Int) (x7 : Int) (x8 : Int) (s0 : Int) (σ : qSt) : Option (Int × qSt) :=
  (qif (kc + 3 ≤ 300) (qbd (fL_average s0 x8 (qdiv x3 12) (qrem x3 12) 1 1 σ) fun (r93 : Int) (σ7 : qSt) => (qbd (fL_cellOf x3 0 σ7) fun (r101 : Int) (σ8 : qSt) => (if qI (qlcmp r101 1) = 0 then (fL_asked_c114 ((kc + 2) + 1) x2 x3 x7 x8 s0 r93 1 σ8) else (fL_asked_c114 ((kc + 2) + 1) x2 x3 x7 x8 s0 r93 0 σ8)))))
set_option maxRecDepth 100000 in
set_option maxHeartbeats 4000000 in
theorem tL_asked_c76 {p : Program} {l : Launch} {e : Env} {s : State} {m : MethodId} {args : Array Value} {below : List Frame} {meth : Method} {c : Code} {z0 : Nat} {g : qG} {w : qWd} {ad : Nat → Nat} (cx : qCx p s m meth c cL_asked 15 RL (some .boolean) g z0) (hB : qBC g ad w) (h66 : w 66 = none) (h67 : w 67 = none) (h68 : w 68 = none) (hl : l.stackTraces = false) (kc : Nat) (x2 : Int) (x3 : Int) (x7 : Int) (x8 : Int) (s0 : Int) (σ : qSt) : qS p l e (qrk 34 300 1800) s m args below meth c 15 g z0 w kc (0 + 6 * kc) (qQ below g z0 w qri args s 300 1800) (fL_asked_c76 kc x2 x3 x7 x8 s0 σ) σ 76 [(0, some (.ref (ad 0))), (2, some (.int (qI x2))), (3, some (.int (qI x3))), (7, some (.int (qI x7))), (8, some (.int (qI x8)))] [.int (qI s0)] := by
  unfold fL_asked_c76
  refine r_qif (fun hkc => ?_)
  refine r_istore (pc := 76) cx dL_asked_76 (by decide) rfl ?_
  refine r_aload_n (pc := 78) cx dL_asked_78 rfl ?_
  refine r_iload (pc := 79) cx dL_asked_79 rfl ?_
  refine r_iload (pc := 81) cx dL_asked_81 rfl ?_
  refine r_iload_n (pc := 83) cx dL_asked_83 rfl ?_
  refine r_bipush (pc := 84) (v := 12) cx dL_asked_84 (by decide +kernel) ?_
  refine r_idiv (pc := 86) cx dL_asked_86 (by decide +kernel) ?_
  refine r_iload_n (pc := 87) cx dL_asked_87 rfl ?_
  refine r_bipush (pc := 88) (v := 12) cx dL_asked_88 (by decide +kernel) ?_
  refine r_irem (pc := 90) cx dL_asked_90 (by decide +kernel) ?_
  refine r_iconst (pc := 91) cx dL_asked_91 ?_
  refine r_iconst (pc := 92) cx dL_asked_92 ?_
  refine r_wj (pc := 93) (nb := 0) (k := kc) (mc := 2) (Mx := 300) cx (tL_average hB h66 h67 h68 hl s0 x8 (qdiv x3 12) (qrem x3 12) 1 1 σ) qmh_L_average wm_L_129 dL_asked_93 rfl rfl (Nat.le_of_ble_eq_true rfl) ⟨Nat.le_of_ble_eq_true rfl, Nat.le_of_ble_eq_true rfl⟩ ⟨Nat.le_of_ble_eq_true rfl, Nat.le_of_ble_eq_true rfl⟩ ⟨Nat.le_of_ble_eq_true rfl, Nat.le_of_ble_eq_true rfl⟩ (by omega) (fun r93 σ7 => ?_)
  refine r_lstore (pc := 96) cx dL_asked_96 (by decide) rfl ?_
  refine r_aload_n (pc := 98) cx dL_asked_98 rfl ?_
  refine r_iload_n (pc := 99) cx dL_asked_99 rfl ?_
  refine r_iconst (pc := 100) cx dL_asked_100 ?_
  refine r_wj (pc := 101) (nb := 0) (k := (kc + 2)) (mc := 1) (Mx := 300) cx (tL_cellOf hB h66 h67 h68 hl x3 0 σ7) qmh_L_cellOf wm_L_101 dL_asked_101 rfl rfl (Nat.le_of_ble_eq_true rfl) ⟨Nat.le_of_ble_eq_true rfl, Nat.le_of_ble_eq_true rfl⟩ ⟨Nat.le_of_ble_eq_true rfl, Nat.le_of_ble_eq_true rfl⟩ ⟨Nat.le_of_ble_eq_true rfl, Nat.le_of_ble_eq_true rfl⟩ (by omega) (fun r101 σ8 => ?_)
  refine r_lconst (pc := 104) (z := 1) cx dL_asked_104 (by decide +kernel) ?_
  refine r_lcmp (pc := 105) cx dL_asked_105 ?_
  refine r_if_ne (tgt := 113) cx dL_asked_106 (by decide) ?_ ?_
  · refine r_iconst (pc := 113) cx dL_asked_113 ?_
    exact qS.sub (qsub_cons rfl (qsub_cons rfl (qsub_cons rfl (qsub_cons rfl (qsub_cons rfl (qsub_cons rfl (qsub_cons rfl (qsub_nil _)))))))) (tL_asked_c114 cx hB h66 h67 h68 hl _ _ _ _ _ _ _ _ _)
  · refine r_iconst (pc := 109) cx dL_asked_109 ?_
    refine r_goto (pc := 110) (tgt := 114) cx dL_asked_110 (by decide) ?_
    exact qS.sub (qsub_cons rfl (qsub_cons rfl (qsub_cons rfl (qsub_cons rfl (qsub_cons rfl (qsub_cons rfl (qsub_cons rfl (qsub_nil _)))))))) (tL_asked_c114 cx hB h66 h67 h68 hl _ _ _ _ _ _ _ _ _)
def fL_asked_c55 (kc : Nat) (x1 : Int) (x2 : Int) (x3 : Int) (s0 : Int) (σ : qSt) : Option (Int × qSt) :=
  (qb (qrem (qdiv x1 96) 3) fun (y6 : Int) => (if qI (qrem x2 2) = 0 then (fL_asked_c76 kc x2 x3 s0 y6 1 σ) else (fL_asked_c76 kc x2 x3 s0 y6 0 σ)))
set_option maxRecDepth 100000 in
set_option maxHeartbeats 4000000 in
theorem tL_asked_c55 {p : Program} {l : Launch} {e : Env} {s : State} {m : MethodId} {args : Array Value} {below : List Frame} {meth : Method} {c : Code} {z0 : Nat} {g : qG} {w : qWd} {ad : Nat → Nat} (cx : qCx p s m meth c cL_asked 15 RL (some .boolean) g z0) (hB : qBC g ad w) (h66 : w 66 = none) (h67 : w 67 = none) (h68 : w 68 = none) (hl : l.stackTraces = false) (kc : Nat) (x1 : Int) (x2 : Int) (x3 : Int) (s0 : Int) (σ : qSt) : qS p l e (qrk 34 300 1800) s m args below meth c 15 g z0 w kc (0 + 6 * kc) (qQ below g z0 w qri args s 300 1800) (fL_asked_c55 kc x1 x2 x3 s0 σ) σ 55 [(0, some (.ref (ad 0))), (1, some (.int (qI x1))), (2, some (.int (qI x2))), (3, some (.int (qI x3)))] [.int (qI s0)] := by
  unfold fL_asked_c55
  refine r_istore (pc := 55) cx dL_asked_55 (by decide) rfl ?_
  refine r_iload_n (pc := 57) cx dL_asked_57 rfl ?_
  refine r_bipush (pc := 58) (v := 96) cx dL_asked_58 (by decide +kernel) ?_
  refine r_idiv (pc := 60) cx dL_asked_60 (by decide +kernel) ?_
  refine r_iconst (pc := 61) cx dL_asked_61 ?_
  refine r_irem (pc := 62) cx dL_asked_62 (by decide +kernel) ?_
  refine r_nmi (fun y6 => ?_)
  refine r_istore (pc := 63) cx dL_asked_63 (by decide) rfl ?_
  refine r_iload_n (pc := 65) cx dL_asked_65 rfl ?_
  refine r_iconst (pc := 66) cx dL_asked_66 ?_
  refine r_irem (pc := 67) cx dL_asked_67 (by decide +kernel) ?_
  refine r_if_ne (tgt := 75) cx dL_asked_68 (by decide) ?_ ?_
  · refine r_iconst (pc := 75) cx dL_asked_75 ?_
    exact qS.sub (qsub_cons rfl (qsub_cons rfl (qsub_cons rfl (qsub_cons rfl (qsub_cons rfl (qsub_nil _)))))) (tL_asked_c76 cx hB h66 h67 h68 hl _ _ _ _ _ _ _)
  · refine r_iconst (pc := 71) cx dL_asked_71 ?_
    refine r_goto (pc := 72) (tgt := 76) cx dL_asked_72 (by decide) ?_
    exact qS.sub (qsub_cons rfl (qsub_cons rfl (qsub_cons rfl (qsub_cons rfl (qsub_cons rfl (qsub_nil _)))))) (tL_asked_c76 cx hB h66 h67 h68 hl _ _ _ _ _ _ _)
def fL_asked_c54 (kc : Nat) (x1 : Int) (x2 : Int) (x3 : Int) (σ : qSt) : Option (Int × qSt) :=
  (fL_asked_c55 kc x1 x2 x3 0 σ)
set_option maxRecDepth 100000 in
set_option maxHeartbeats 4000000 in
theorem tL_asked_c54 {p : Program} {l : Launch} {e : Env} {s : State} {m : MethodId} {args : Array Value} {below : List Frame} {meth : Method} {c : Code} {z0 : Nat} {g : qG} {w : qWd} {ad : Nat → Nat} (cx : qCx p s m meth c cL_asked 15 RL (some .boolean) g z0) (hB : qBC g ad w) (h66 : w 66 = none) (h67 : w 67 = none) (h68 : w 68 = none) (hl : l.stackTraces = false) (kc : Nat) (x1 : Int) (x2 : Int) (x3 : Int) (σ : qSt) : qS p l e (qrk 34 300 1800) s m args below meth c 15 g z0 w kc (0 + 6 * kc) (qQ below g z0 w qri args s 300 1800) (fL_asked_c54 kc x1 x2 x3 σ) σ 54 [(0, some (.ref (ad 0))), (1, some (.int (qI x1))), (2, some (.int (qI x2))), (3, some (.int (qI x3)))] [] := by
  unfold fL_asked_c54
  refine r_iconst (pc := 54) cx dL_asked_54 ?_
  exact qS.sub (qsub_cons rfl (qsub_cons rfl (qsub_cons rfl (qsub_cons rfl (qsub_nil _))))) (tL_asked_c55 cx hB h66 h67 h68 hl _ _ _ _ _ _)
def fL_asked_c50 (kc : Nat) (x1 : Int) (x2 : Int) (x3 : Int) (σ : qSt) : Option (Int × qSt) :=
  (fL_asked_c55 kc x1 x2 x3 1 σ)
set_option maxRecDepth 100000 in
set_option maxHeartbeats 4000000 in
theorem tL_asked_c50 {p : Program} {l : Launch} {e : Env} {s : State} {m : MethodId} {args : Array Value} {below : List Frame} {meth : Method} {c : Code} {z0 : Nat} {g : qG} {w : qWd} {ad : Nat → Nat} (cx : qCx p s m meth c cL_asked 15 RL (some .boolean) g z0) (hB : qBC g ad w) (h66 : w 66 = none) (h67 : w 67 = none) (h68 : w 68 = none) (hl : l.stackTraces = false) (kc : Nat) (x1 : Int) (x2 : Int) (x3 : Int) (σ : qSt) : qS p l e (qrk 34 300 1800) s m args below meth c 15 g z0 w kc (0 + 6 * kc) (qQ below g z0 w qri args s 300 1800) (fL_asked_c50 kc x1 x2 x3 σ) σ 50 [(0, some (.ref (ad 0))), (1, some (.int (qI x1))), (2, some (.int (qI x2))), (3, some (.int (qI x3)))] [] := by
  unfold fL_asked_c50
  refine r_iconst (pc := 50) cx dL_asked_50 ?_
  refine r_goto (pc := 51) (tgt := 55) cx dL_asked_51 (by decide) ?_
  exact qS.sub (qsub_cons rfl (qsub_cons rfl (qsub_cons rfl (qsub_cons rfl (qsub_nil _))))) (tL_asked_c55 cx hB h66 h67 h68 hl _ _ _ _ _ _)
def fL_asked (p1 : Int) (p2 : Int) (σ : qSt) : Option (Int × qSt) :=
  (qb (qrem p1 96) fun (y1 : Int) => (qb (qrem p2 6) fun (y2 : Int) => (qbd (fL_ahead y1 y2 σ) fun (r15 : Int) (σ3 : qSt) => (qbd (fL_aheadAnew y1 y2 σ3) fun (r24 : Int) (σ4 : qSt) => (if qI (qlcmp r24 r15) = 0 then (if 0 < qI y2 then (fL_asked_c50 ((0 + 1) + 1) p1 p2 y1 σ4) else (qbd (fL_cellOf y1 2 σ4) fun (r43 : Int) (σ5 : qSt) => (if qI (qlcmp r15 r43) = 0 then (fL_asked_c50 (((0 + 1) + 1) + 1) p1 p2 y1 σ5) else (fL_asked_c54 (((0 + 1) + 1) + 1) p1 p2 y1 σ5)))) else (fL_asked_c54 ((0 + 1) + 1) p1 p2 y1 σ4))))))
set_option maxRecDepth 100000 in
set_option maxHeartbeats 4000000 in
theorem tL_asked {l : Launch} {z0 : Nat} {g : qG} {w : qWd} {ad : Nat → Nat} (hB : qBC g ad w) (h66 : w 66 = none) (h67 : w 67 = none) (h68 : w 68 = none) (hl : l.stackTraces = false) (p1 : Int) (p2 : Int) (σ : qSt) : qCT l yL_asked cL_asked 15 (some .boolean) (qrk 34 300 1800) g z0 w [.ref (ad 0), .int (qI p1), .int (qI p2)] σ (fL_asked p1 p2 σ) qri := by
  refine qCT.of [(0, some (.ref (ad 0))), (1, some (.int (qI p1))), (2, some (.int (qI p2)))] (by decide +kernel) (Nat.le_of_ble_eq_true rfl) rfl ?_
  intro p e s m args below meth c cx
  unfold fL_asked
  refine qS.widen (k2 := 0) (n2 := 0 + 6 * 0) (Nat.le_refl _) (Nat.zero_le _) ?_
  refine r_iload_n (pc := 0) cx dL_asked_0 rfl ?_
  refine r_bipush (pc := 1) (v := 96) cx dL_asked_1 (by decide +kernel) ?_
  refine r_irem (pc := 3) cx dL_asked_3 (by decide +kernel) ?_
  refine r_nmi (fun y1 => ?_)
  refine r_istore_n (pc := 4) cx dL_asked_4 (by decide) rfl ?_
  refine r_iload_n (pc := 5) cx dL_asked_5 rfl ?_
  refine r_bipush (pc := 6) (v := 6) cx dL_asked_6 (by decide +kernel) ?_
  refine r_irem (pc := 8) cx dL_asked_8 (by decide +kernel) ?_
  refine r_nmi (fun y2 => ?_)
  refine r_istore (pc := 9) cx dL_asked_9 (by decide) rfl ?_
  refine r_aload_n (pc := 11) cx dL_asked_11 rfl ?_
  refine r_iload_n (pc := 12) cx dL_asked_12 rfl ?_
  refine r_iload (pc := 13) cx dL_asked_13 rfl ?_
  refine r_wj (pc := 15) (nb := 0) (k := 0) (mc := 1) (Mx := 300) cx (tL_ahead hB h66 h67 h68 hl y1 y2 σ) qmh_L_ahead wm_L_125 dL_asked_15 rfl rfl (Nat.le_of_ble_eq_true rfl) ⟨Nat.le_of_ble_eq_true rfl, Nat.le_of_ble_eq_true rfl⟩ ⟨Nat.le_of_ble_eq_true rfl, Nat.le_of_ble_eq_true rfl⟩ ⟨Nat.le_of_ble_eq_true rfl, Nat.le_of_ble_eq_true rfl⟩ (by omega) (fun r15 σ3 => ?_)
  refine r_lstore (pc := 18) cx dL_asked_18 (by decide) rfl ?_
  refine r_aload_n (pc := 20) cx dL_asked_20 rfl ?_
  refine r_iload_n (pc := 21) cx dL_asked_21 rfl ?_
  refine r_iload (pc := 22) cx dL_asked_22 rfl ?_
  refine r_wj (pc := 24) (nb := 0) (k := (0 + 1)) (mc := 1) (Mx := 300) cx (tL_aheadAnew hB h66 h67 h68 hl y1 y2 σ3) qmh_L_aheadAnew wm_L_127 dL_asked_24 rfl rfl (Nat.le_of_ble_eq_true rfl) ⟨Nat.le_of_ble_eq_true rfl, Nat.le_of_ble_eq_true rfl⟩ ⟨Nat.le_of_ble_eq_true rfl, Nat.le_of_ble_eq_true rfl⟩ ⟨Nat.le_of_ble_eq_true rfl, Nat.le_of_ble_eq_true rfl⟩ (by omega) (fun r24 σ4 => ?_)
  refine r_lload (pc := 27) cx dL_asked_27 rfl ?_
  refine r_lcmp (pc := 29) cx dL_asked_29 ?_
  refine r_if_ne (tgt := 54) cx dL_asked_30 (by decide) ?_ ?_
  · exact qS.sub (qsub_cons rfl (qsub_cons rfl (qsub_cons rfl (qsub_cons rfl (qsub_nil _))))) (tL_asked_c54 cx hB h66 h67 h68 hl _ _ _ _ _)
  · refine r_iload (pc := 33) cx dL_asked_33 rfl ?_
    refine r_if_gt (tgt := 50) cx dL_asked_35 (by decide) ?_ ?_
    · exact qS.sub (qsub_cons rfl (qsub_cons rfl (qsub_cons rfl (qsub_cons rfl (qsub_nil _))))) (tL_asked_c50 cx hB h66 h67 h68 hl _ _ _ _ _)
    · refine r_lload (pc := 38) cx dL_asked_38 rfl ?_
      refine r_aload_n (pc := 40) cx dL_asked_40 rfl ?_
      refine r_iload_n (pc := 41) cx dL_asked_41 rfl ?_
      refine r_iconst (pc := 42) cx dL_asked_42 ?_
      refine r_wj (pc := 43) (nb := 0) (k := ((0 + 1) + 1)) (mc := 1) (Mx := 300) cx (tL_cellOf hB h66 h67 h68 hl y1 2 σ4) qmh_L_cellOf wm_L_101 dL_asked_43 rfl rfl (Nat.le_of_ble_eq_true rfl) ⟨Nat.le_of_ble_eq_true rfl, Nat.le_of_ble_eq_true rfl⟩ ⟨Nat.le_of_ble_eq_true rfl, Nat.le_of_ble_eq_true rfl⟩ ⟨Nat.le_of_ble_eq_true rfl, Nat.le_of_ble_eq_true rfl⟩ (by omega) (fun r43 σ5 => ?_)
      refine r_lcmp (pc := 46) cx dL_asked_46 ?_
      refine r_if_ne (tgt := 54) cx dL_asked_47 (by decide) ?_ ?_
      · exact qS.sub (qsub_cons rfl (qsub_cons rfl (qsub_cons rfl (qsub_cons rfl (qsub_nil _))))) (tL_asked_c54 cx hB h66 h67 h68 hl _ _ _ _ _)
      · exact qS.sub (qsub_cons rfl (qsub_cons rfl (qsub_cons rfl (qsub_cons rfl (qsub_nil _))))) (tL_asked_c50 cx hB h66 h67 h68 hl _ _ _ _ _)
