def fL_refuses_c293 (kc : Nat) (x1 : Int) (x3 : Int) (s0 : Int) (σ : qSt) : Option (Int × qSt) :=
  (qif (kc + 736 ≤ 2000) (if qI s0 = 0 then (some (0, σ)) else (qbd (fL_average 1 3 0 0 1 1 σ) fun (r307 : Int) (σ24 : qSt) => (if qI (qlcmp r307 (-9000000000000000002)) = 0 then (qbd (fL_scatter 1 0 7 0 2 1 σ24) fun (r325 : Int) (σ25 : qSt) => (if qI (qlcmp r325 (-9000000000000000002)) = 0 then (qbd (fL_ahead 0 6 σ25) fun (r339 : Int) (σ26 : qSt) => (if qI (qlcmp r339 (-9000000000000000002)) = 0 then (qbd (fL_aheadAnew 96 0 σ26) fun (r353 : Int) (σ27 : qSt) => (if qI (qlcmp r353 (-9000000000000000001)) = 0 then (qbd (fL_mixed 2 σ27) fun (r365 : Int) (σ28 : qSt) => (if qI (qlcmp r365 (-9000000000000000002)) = 0 then (qbd (fL_record 4 0 σ28) fun (r378 : Int) (σ29 : qSt) => (if qI (qlcmp r378 (-9000000000000000001)) = 0 then (qbd (fL_beat 4 σ29) fun (r390 : Int) (σ30 : qSt) => (if qI (qlcmp r390 (-9000000000000000001)) = 0 then (qbd (fL_better 4 1 σ30) fun (r403 : Int) (σ31 : qSt) => (if qI (qlcmp r403 (-9000000000000000001)) = 0 then (qbd (fL_better 0 0 σ31) fun (r416 : Int) (σ32 : qSt) => (if qI (qlcmp r416 (-9000000000000000002)) = 0 then (qbd (fL_mark σ32) fun (r427 : Int) (σ33 : qSt) => (if qI (qlcmp r427 x1) = 0 then (qbd (fL_sum 1 σ33) fun (r437 : Int) (σ34 : qSt) => (if qI (qlcmp r437 x3) = 0 then (some (1, σ34)) else (some (0, σ34)))) else (some (0, σ33)))) else (some (0, σ32)))) else (some (0, σ31)))) else (some (0, σ30)))) else (some (0, σ29)))) else (some (0, σ28)))) else (some (0, σ27)))) else (some (0, σ26)))) else (some (0, σ25)))) else (some (0, σ24))))))
set_option maxRecDepth 100000 in
set_option maxHeartbeats 4000000 in
theorem tL_refuses_c293 {p : Program} {l : Launch} {e : Env} {s : State} {m : MethodId} {args : Array Value} {below : List Frame} {meth : Method} {c : Code} {z0 : Nat} {g : qG} {w : qWd} {ad : Nat → Nat} (cx : qCx p s m meth c cL_refuses 6 RL (some .boolean) g z0) (hB : qBC g ad w) (h66 : w 66 = none) (h67 : w 67 = none) (h68 : w 68 = none) (hl : l.stackTraces = false) (kc : Nat) (x1 : Int) (x3 : Int) (s0 : Int) (σ : qSt) : qS p l e (qrk 34 2000 12000) s m args below meth c 6 g z0 w kc (0 + 6 * kc) (qQ below g z0 w qri args s 2000 12000) (fL_refuses_c293 kc x1 x3 s0 σ) σ 293 [(0, some (.ref (ad 0))), (1, some (.long (qJ x1))), (3, some (.long (qJ x3)))] [.int (qI s0)] := by
  unfold fL_refuses_c293
  refine r_qif (fun hkc => ?_)
  refine r_istore (pc := 293) cx dL_refuses_293 (by decide) rfl ?_
  refine r_iload (pc := 295) cx dL_refuses_295 rfl ?_
  refine r_if_eq (tgt := 449) cx dL_refuses_297 (by decide) ?_ ?_
  · refine r_iconst (pc := 449) cx dL_refuses_449 ?_
    exact r_zreturn (pc := 450) (w0 := w) (mc := 2000) (ms := 12000) (fun _ _ h => h) (by omega) (by omega) cx (by decide +kernel) dL_refuses_450 rfl
  · refine r_aload_n (pc := 300) cx dL_refuses_300 rfl ?_
    refine r_iconst (pc := 301) cx dL_refuses_301 ?_
    refine r_iconst (pc := 302) cx dL_refuses_302 ?_
    refine r_iconst (pc := 303) cx dL_refuses_303 ?_
    refine r_iconst (pc := 304) cx dL_refuses_304 ?_
    refine r_iconst (pc := 305) cx dL_refuses_305 ?_
    refine r_iconst (pc := 306) cx dL_refuses_306 ?_
    refine r_wj (pc := 307) (nb := 0) (k := kc) (mc := 2) (Mx := 2000) cx (tL_average hB h66 h67 h68 hl 1 3 0 0 1 1 σ) qmh_L_average wm_L_129 dL_refuses_307 rfl rfl (Nat.le_of_ble_eq_true rfl) ⟨Nat.le_of_ble_eq_true rfl, Nat.le_of_ble_eq_true rfl⟩ ⟨Nat.le_of_ble_eq_true rfl, Nat.le_of_ble_eq_true rfl⟩ ⟨Nat.le_of_ble_eq_true rfl, Nat.le_of_ble_eq_true rfl⟩ (by omega) (fun r307 σ24 => ?_)
    refine r_ldc2 (pc := 310) (v := (-9000000000000000002)) cx dL_refuses_310 wq_L_32 ?_
    refine r_lcmp (pc := 313) cx dL_refuses_313 ?_
    refine r_if_ne (tgt := 449) cx dL_refuses_314 (by decide) ?_ ?_
    · refine r_iconst (pc := 449) cx dL_refuses_449 ?_
      exact r_zreturn (pc := 450) (w0 := w) (mc := 2000) (ms := 12000) (fun _ _ h => h) (by omega) (by omega) cx (by decide +kernel) dL_refuses_450 rfl
    · refine r_aload_n (pc := 317) cx dL_refuses_317 rfl ?_
      refine r_iconst (pc := 318) cx dL_refuses_318 ?_
      refine r_iconst (pc := 319) cx dL_refuses_319 ?_
      refine r_bipush (pc := 320) (v := 7) cx dL_refuses_320 (by decide +kernel) ?_
      refine r_iconst (pc := 322) cx dL_refuses_322 ?_
      refine r_iconst (pc := 323) cx dL_refuses_323 ?_
      refine r_iconst (pc := 324) cx dL_refuses_324 ?_
      refine r_wj (pc := 325) (nb := 0) (k := (kc + 2)) (mc := 2) (Mx := 2000) cx (tL_scatter hB h66 h67 h68 hl 1 0 7 0 2 1 σ24) qmh_L_scatter wm_L_134 dL_refuses_325 rfl rfl (Nat.le_of_ble_eq_true rfl) ⟨Nat.le_of_ble_eq_true rfl, Nat.le_of_ble_eq_true rfl⟩ ⟨Nat.le_of_ble_eq_true rfl, Nat.le_of_ble_eq_true rfl⟩ ⟨Nat.le_of_ble_eq_true rfl, Nat.le_of_ble_eq_true rfl⟩ (by omega) (fun r325 σ25 => ?_)
      refine r_ldc2 (pc := 328) (v := (-9000000000000000002)) cx dL_refuses_328 wq_L_32 ?_
      refine r_lcmp (pc := 331) cx dL_refuses_331 ?_
      refine r_if_ne (tgt := 449) cx dL_refuses_332 (by decide) ?_ ?_
      · refine r_iconst (pc := 449) cx dL_refuses_449 ?_
        exact r_zreturn (pc := 450) (w0 := w) (mc := 2000) (ms := 12000) (fun _ _ h => h) (by omega) (by omega) cx (by decide +kernel) dL_refuses_450 rfl
      · refine r_aload_n (pc := 335) cx dL_refuses_335 rfl ?_
        refine r_iconst (pc := 336) cx dL_refuses_336 ?_
        refine r_bipush (pc := 337) (v := 6) cx dL_refuses_337 (by decide +kernel) ?_
        refine r_wj (pc := 339) (nb := 0) (k := ((kc + 2) + 2)) (mc := 1) (Mx := 2000) cx (tL_ahead hB h66 h67 h68 hl 0 6 σ25) qmh_L_ahead wm_L_125 dL_refuses_339 rfl rfl (Nat.le_of_ble_eq_true rfl) ⟨Nat.le_of_ble_eq_true rfl, Nat.le_of_ble_eq_true rfl⟩ ⟨Nat.le_of_ble_eq_true rfl, Nat.le_of_ble_eq_true rfl⟩ ⟨Nat.le_of_ble_eq_true rfl, Nat.le_of_ble_eq_true rfl⟩ (by omega) (fun r339 σ26 => ?_)
        refine r_ldc2 (pc := 342) (v := (-9000000000000000002)) cx dL_refuses_342 wq_L_32 ?_
        refine r_lcmp (pc := 345) cx dL_refuses_345 ?_
        refine r_if_ne (tgt := 449) cx dL_refuses_346 (by decide) ?_ ?_
        · refine r_iconst (pc := 449) cx dL_refuses_449 ?_
          exact r_zreturn (pc := 450) (w0 := w) (mc := 2000) (ms := 12000) (fun _ _ h => h) (by omega) (by omega) cx (by decide +kernel) dL_refuses_450 rfl
        · refine r_aload_n (pc := 349) cx dL_refuses_349 rfl ?_
          refine r_bipush (pc := 350) (v := 96) cx dL_refuses_350 (by decide +kernel) ?_
          refine r_iconst (pc := 352) cx dL_refuses_352 ?_
          refine r_wj (pc := 353) (nb := 0) (k := (((kc + 2) + 2) + 1)) (mc := 1) (Mx := 2000) cx (tL_aheadAnew hB h66 h67 h68 hl 96 0 σ26) qmh_L_aheadAnew wm_L_127 dL_refuses_353 rfl rfl (Nat.le_of_ble_eq_true rfl) ⟨Nat.le_of_ble_eq_true rfl, Nat.le_of_ble_eq_true rfl⟩ ⟨Nat.le_of_ble_eq_true rfl, Nat.le_of_ble_eq_true rfl⟩ ⟨Nat.le_of_ble_eq_true rfl, Nat.le_of_ble_eq_true rfl⟩ (by omega) (fun r353 σ27 => ?_)
          refine r_ldc2 (pc := 356) (v := (-9000000000000000001)) cx dL_refuses_356 wq_L_17 ?_
          refine r_lcmp (pc := 359) cx dL_refuses_359 ?_
          refine r_if_ne (tgt := 449) cx dL_refuses_360 (by decide) ?_ ?_
          · refine r_iconst (pc := 449) cx dL_refuses_449 ?_
            exact r_zreturn (pc := 450) (w0 := w) (mc := 2000) (ms := 12000) (fun _ _ h => h) (by omega) (by omega) cx (by decide +kernel) dL_refuses_450 rfl
          · refine r_aload_n (pc := 363) cx dL_refuses_363 rfl ?_
            refine r_iconst (pc := 364) cx dL_refuses_364 ?_
            refine r_wj (pc := 365) (nb := 0) (k := ((((kc + 2) + 2) + 1) + 1)) (mc := 24) (Mx := 2000) cx (tL_mixed hB h66 h67 h68 hl 2 σ27) qmh_L_mixed wm_L_123 dL_refuses_365 rfl rfl (Nat.le_of_ble_eq_true rfl) ⟨Nat.le_of_ble_eq_true rfl, Nat.le_of_ble_eq_true rfl⟩ ⟨Nat.le_of_ble_eq_true rfl, Nat.le_of_ble_eq_true rfl⟩ ⟨Nat.le_of_ble_eq_true rfl, Nat.le_of_ble_eq_true rfl⟩ (by omega) (fun r365 σ28 => ?_)
            refine r_ldc2 (pc := 368) (v := (-9000000000000000002)) cx dL_refuses_368 wq_L_32 ?_
            refine r_lcmp (pc := 371) cx dL_refuses_371 ?_
            refine r_if_ne (tgt := 449) cx dL_refuses_372 (by decide) ?_ ?_
            · refine r_iconst (pc := 449) cx dL_refuses_449 ?_
              exact r_zreturn (pc := 450) (w0 := w) (mc := 2000) (ms := 12000) (fun _ _ h => h) (by omega) (by omega) cx (by decide +kernel) dL_refuses_450 rfl
            · refine r_aload_n (pc := 375) cx dL_refuses_375 rfl ?_
              refine r_iconst (pc := 376) cx dL_refuses_376 ?_
              refine r_iconst (pc := 377) cx dL_refuses_377 ?_
              refine r_wj (pc := 378) (nb := 0) (k := (((((kc + 2) + 2) + 1) + 1) + 24)) (mc := 1) (Mx := 2000) cx (tL_record hB h66 h67 h68 hl 4 0 σ28) qmh_L_record wm_L_167 dL_refuses_378 rfl rfl (Nat.le_of_ble_eq_true rfl) ⟨Nat.le_of_ble_eq_true rfl, Nat.le_of_ble_eq_true rfl⟩ ⟨Nat.le_of_ble_eq_true rfl, Nat.le_of_ble_eq_true rfl⟩ ⟨Nat.le_of_ble_eq_true rfl, Nat.le_of_ble_eq_true rfl⟩ (by omega) (fun r378 σ29 => ?_)
              refine r_ldc2 (pc := 381) (v := (-9000000000000000001)) cx dL_refuses_381 wq_L_17 ?_
              refine r_lcmp (pc := 384) cx dL_refuses_384 ?_
              refine r_if_ne (tgt := 449) cx dL_refuses_385 (by decide) ?_ ?_
              · refine r_iconst (pc := 449) cx dL_refuses_449 ?_
                exact r_zreturn (pc := 450) (w0 := w) (mc := 2000) (ms := 12000) (fun _ _ h => h) (by omega) (by omega) cx (by decide +kernel) dL_refuses_450 rfl
              · refine r_aload_n (pc := 388) cx dL_refuses_388 rfl ?_
                refine r_iconst (pc := 389) cx dL_refuses_389 ?_
                refine r_wj (pc := 390) (nb := 0) (k := ((((((kc + 2) + 2) + 1) + 1) + 24) + 1)) (mc := 1) (Mx := 2000) cx (tL_beat hB h66 h67 h68 hl 4 σ29) qmh_L_beat wm_L_169 dL_refuses_390 rfl rfl (Nat.le_of_ble_eq_true rfl) ⟨Nat.le_of_ble_eq_true rfl, Nat.le_of_ble_eq_true rfl⟩ ⟨Nat.le_of_ble_eq_true rfl, Nat.le_of_ble_eq_true rfl⟩ ⟨Nat.le_of_ble_eq_true rfl, Nat.le_of_ble_eq_true rfl⟩ (by omega) (fun r390 σ30 => ?_)
                refine r_ldc2 (pc := 393) (v := (-9000000000000000001)) cx dL_refuses_393 wq_L_17 ?_
                refine r_lcmp (pc := 396) cx dL_refuses_396 ?_
                refine r_if_ne (tgt := 449) cx dL_refuses_397 (by decide) ?_ ?_
                · refine r_iconst (pc := 449) cx dL_refuses_449 ?_
                  exact r_zreturn (pc := 450) (w0 := w) (mc := 2000) (ms := 12000) (fun _ _ h => h) (by omega) (by omega) cx (by decide +kernel) dL_refuses_450 rfl
                · refine r_aload_n (pc := 400) cx dL_refuses_400 rfl ?_
                  refine r_iconst (pc := 401) cx dL_refuses_401 ?_
                  refine r_iconst (pc := 402) cx dL_refuses_402 ?_
                  refine r_wj (pc := 403) (nb := 0) (k := (((((((kc + 2) + 2) + 1) + 1) + 24) + 1) + 1)) (mc := 1) (Mx := 2000) cx (tL_better hB h66 h67 h68 hl 4 1 σ30) qmh_L_better wm_L_136 dL_refuses_403 rfl rfl (Nat.le_of_ble_eq_true rfl) ⟨Nat.le_of_ble_eq_true rfl, Nat.le_of_ble_eq_true rfl⟩ ⟨Nat.le_of_ble_eq_true rfl, Nat.le_of_ble_eq_true rfl⟩ ⟨Nat.le_of_ble_eq_true rfl, Nat.le_of_ble_eq_true rfl⟩ (by omega) (fun r403 σ31 => ?_)
                  refine r_ldc2 (pc := 406) (v := (-9000000000000000001)) cx dL_refuses_406 wq_L_17 ?_
                  refine r_lcmp (pc := 409) cx dL_refuses_409 ?_
                  refine r_if_ne (tgt := 449) cx dL_refuses_410 (by decide) ?_ ?_
                  · refine r_iconst (pc := 449) cx dL_refuses_449 ?_
                    exact r_zreturn (pc := 450) (w0 := w) (mc := 2000) (ms := 12000) (fun _ _ h => h) (by omega) (by omega) cx (by decide +kernel) dL_refuses_450 rfl
                  · refine r_aload_n (pc := 413) cx dL_refuses_413 rfl ?_
                    refine r_iconst (pc := 414) cx dL_refuses_414 ?_
                    refine r_iconst (pc := 415) cx dL_refuses_415 ?_
                    refine r_wj (pc := 416) (nb := 0) (k := ((((((((kc + 2) + 2) + 1) + 1) + 24) + 1) + 1) + 1)) (mc := 1) (Mx := 2000) cx (tL_better hB h66 h67 h68 hl 0 0 σ31) qmh_L_better wm_L_136 dL_refuses_416 rfl rfl (Nat.le_of_ble_eq_true rfl) ⟨Nat.le_of_ble_eq_true rfl, Nat.le_of_ble_eq_true rfl⟩ ⟨Nat.le_of_ble_eq_true rfl, Nat.le_of_ble_eq_true rfl⟩ ⟨Nat.le_of_ble_eq_true rfl, Nat.le_of_ble_eq_true rfl⟩ (by omega) (fun r416 σ32 => ?_)
                    refine r_ldc2 (pc := 419) (v := (-9000000000000000002)) cx dL_refuses_419 wq_L_32 ?_
                    refine r_lcmp (pc := 422) cx dL_refuses_422 ?_
                    refine r_if_ne (tgt := 449) cx dL_refuses_423 (by decide) ?_ ?_
                    · refine r_iconst (pc := 449) cx dL_refuses_449 ?_
                      exact r_zreturn (pc := 450) (w0 := w) (mc := 2000) (ms := 12000) (fun _ _ h => h) (by omega) (by omega) cx (by decide +kernel) dL_refuses_450 rfl
                    · refine r_aload_n (pc := 426) cx dL_refuses_426 rfl ?_
                      refine r_sj (pc := 427) (nb := 0) (k := (((((((((kc + 2) + 2) + 1) + 1) + 24) + 1) + 1) + 1) + 1)) (mc := 700) (Mx := 2000) cx (tL_mark hB h66 h67 h68 hl σ32) qm_L_mark qs_L_mark wm_L_140 dL_refuses_427 rfl rfl (Nat.le_of_ble_eq_true rfl) ⟨Nat.le_of_ble_eq_true rfl, Nat.le_of_ble_eq_true rfl⟩ ⟨Nat.le_of_ble_eq_true rfl, Nat.le_of_ble_eq_true rfl⟩ ⟨Nat.le_of_ble_eq_true rfl, Nat.le_of_ble_eq_true rfl⟩ (by omega) (fun r427 σ33 => ?_)
                      refine r_lload_n (pc := 430) cx dL_refuses_430 rfl ?_
                      refine r_lcmp (pc := 431) cx dL_refuses_431 ?_
                      refine r_if_ne (tgt := 449) cx dL_refuses_432 (by decide) ?_ ?_
                      · refine r_iconst (pc := 449) cx dL_refuses_449 ?_
                        exact r_zreturn (pc := 450) (w0 := w) (mc := 2000) (ms := 12000) (fun _ _ h => h) (by omega) (by omega) cx (by decide +kernel) dL_refuses_450 rfl
                      · refine r_aload_n (pc := 435) cx dL_refuses_435 rfl ?_
                        refine r_iconst (pc := 436) cx dL_refuses_436 ?_
                        refine r_wj (pc := 437) (nb := 0) (k := ((((((((((kc + 2) + 2) + 1) + 1) + 24) + 1) + 1) + 1) + 1) + 700)) (mc := 1) (Mx := 2000) cx (tL_sum hB h66 h67 h68 hl 1 σ33) qmh_L_sum wm_L_114 dL_refuses_437 rfl rfl (Nat.le_of_ble_eq_true rfl) ⟨Nat.le_of_ble_eq_true rfl, Nat.le_of_ble_eq_true rfl⟩ ⟨Nat.le_of_ble_eq_true rfl, Nat.le_of_ble_eq_true rfl⟩ ⟨Nat.le_of_ble_eq_true rfl, Nat.le_of_ble_eq_true rfl⟩ (by omega) (fun r437 σ34 => ?_)
                        refine r_lload_n (pc := 440) cx dL_refuses_440 rfl ?_
                        refine r_lcmp (pc := 441) cx dL_refuses_441 ?_
                        refine r_if_ne (tgt := 449) cx dL_refuses_442 (by decide) ?_ ?_
                        · refine r_iconst (pc := 449) cx dL_refuses_449 ?_
                          exact r_zreturn (pc := 450) (w0 := w) (mc := 2000) (ms := 12000) (fun _ _ h => h) (by omega) (by omega) cx (by decide +kernel) dL_refuses_450 rfl
                        · refine r_iconst (pc := 445) cx dL_refuses_445 ?_
                          refine r_goto (pc := 446) (tgt := 450) cx dL_refuses_446 (by decide) ?_
                          exact r_zreturn (pc := 450) (w0 := w) (mc := 2000) (ms := 12000) (fun _ _ h => h) (by omega) (by omega) cx (by decide +kernel) dL_refuses_450 rfl
def fL_refuses_c292 (kc : Nat) (x1 : Int) (x3 : Int) (σ : qSt) : Option (Int × qSt) :=
  (fL_refuses_c293 kc x1 x3 0 σ)
set_option maxRecDepth 100000 in
set_option maxHeartbeats 4000000 in
theorem tL_refuses_c292 {p : Program} {l : Launch} {e : Env} {s : State} {m : MethodId} {args : Array Value} {below : List Frame} {meth : Method} {c : Code} {z0 : Nat} {g : qG} {w : qWd} {ad : Nat → Nat} (cx : qCx p s m meth c cL_refuses 6 RL (some .boolean) g z0) (hB : qBC g ad w) (h66 : w 66 = none) (h67 : w 67 = none) (h68 : w 68 = none) (hl : l.stackTraces = false) (kc : Nat) (x1 : Int) (x3 : Int) (σ : qSt) : qS p l e (qrk 34 2000 12000) s m args below meth c 6 g z0 w kc (0 + 6 * kc) (qQ below g z0 w qri args s 2000 12000) (fL_refuses_c292 kc x1 x3 σ) σ 292 [(0, some (.ref (ad 0))), (1, some (.long (qJ x1))), (3, some (.long (qJ x3)))] [] := by
  unfold fL_refuses_c292
  refine r_iconst (pc := 292) cx dL_refuses_292 ?_
  exact qS.sub (qsub_cons rfl (qsub_cons rfl (qsub_cons rfl (qsub_nil _)))) (tL_refuses_c293 cx hB h66 h67 h68 hl _ _ _ _ _)
def fL_refuses (σ : qSt) : Option (Int × qSt) :=
  (qbd (fL_mark σ) fun (r1 : Int) (σ1 : qSt) => (qbd (fL_sum 1 σ1) fun (r7 : Int) (σ2 : qSt) => (qbd (fL_wall 96 0 σ2) fun (r15 : Int) (σ3 : qSt) => (if qI (qlcmp r15 (-9000000000000000001)) = 0 then (qbd (fL_wall 0 4 σ3) fun (r28 : Int) (σ4 : qSt) => (if qI (qlcmp r28 (-9000000000000000001)) = 0 then (qbd (fL_clear (-1) σ4) fun (r40 : Int) (σ5 : qSt) => (if qI (qlcmp r40 (-9000000000000000001)) = 0 then (qbd (fL_open 96 2 σ5) fun (r54 : Int) (σ6 : qSt) => (if qI (qlcmp r54 (-9000000000000000001)) = 0 then (qbd (fL_open 0 0 σ6) fun (r67 : Int) (σ7 : qSt) => (if qI (qlcmp r67 (-9000000000000000002)) = 0 then (qbd (fL_particle 96 0 σ7) fun (r81 : Int) (σ8 : qSt) => (if qI (qlcmp r81 (-9000000000000000001)) = 0 then (qbd (fL_particle 0 (-1) σ8) fun (r94 : Int) (σ9 : qSt) => (if qI (qlcmp r94 (-9000000000000000002)) = 0 then (qbd (fL_ink 96 σ9) fun (r107 : Int) (σ10 : qSt) => (if qI (qlcmp r107 (-9000000000000000001)) = 0 then (qbd (fL_probe (-1) σ10) fun (r119 : Int) (σ11 : qSt) => (if qI (qlcmp r119 (-9000000000000000001)) = 0 then (qbd (fL_fault (-1) 0 σ11) fun (r132 : Int) (σ12 : qSt) => (if qI (qlcmp r132 (-9000000000000000001)) = 0 then (qbd (fL_fault 0 6 σ12) fun (r146 : Int) (σ13 : qSt) => (if qI (qlcmp r146 (-9000000000000000002)) = 0 then (qbd (fL_bring 96 0 1 σ13) fun (r161 : Int) (σ14 : qSt) => (if qI (qlcmp r161 (-9000000000000000001)) = 0 then (qbd (fL_bring 0 0 0 σ14) fun (r175 : Int) (σ15 : qSt) => (if qI (qlcmp r175 (-9000000000000000002)) = 0 then (qbd (fL_step 0 σ15) fun (r187 : Int) (σ16 : qSt) => (if qI (qlcmp r187 (-9000000000000000002)) = 0 then (qbd (fL_back 0 σ16) fun (r199 : Int) (σ17 : qSt) => (if qI (qlcmp r199 (-9000000000000000002)) = 0 then (qbd (fL_flow 0 σ17) fun (r211 : Int) (σ18 : qSt) => (if qI (qlcmp r211 (-9000000000000000002)) = 0 then (qbd (fL_cellOf (-1) 0 σ18) fun (r224 : Int) (σ19 : qSt) => (if qI (qlcmp r224 (-9000000000000000001)) = 0 then (qbd (fL_cellOf 0 8 σ19) fun (r238 : Int) (σ20 : qSt) => (if qI (qlcmp r238 (-9000000000000000002)) = 0 then (qbd (fL_bodyOf 4 0 σ20) fun (r251 : Int) (σ21 : qSt) => (if qI (qlcmp r251 (-9000000000000000001)) = 0 then (qbd (fL_bodyOf 0 6 σ21) fun (r265 : Int) (σ22 : qSt) => (if qI (qlcmp r265 (-9000000000000000002)) = 0 then (qbd (fL_sum 8 σ22) fun (r278 : Int) (σ23 : qSt) => (if qI (qlcmp r278 (-9000000000000000002)) = 0 then (fL_refuses_c293 (((((((((((((((((((((((0 + 700) + 1) + 1) + 1) + 1) + 1) + 1) + 1) + 1) + 1) + 1) + 1) + 1) + 1) + 1) + 1) + 1) + 1) + 1) + 1) + 1) + 1) + 1) r1 r7 1 σ23) else (fL_refuses_c292 (((((((((((((((((((((((0 + 700) + 1) + 1) + 1) + 1) + 1) + 1) + 1) + 1) + 1) + 1) + 1) + 1) + 1) + 1) + 1) + 1) + 1) + 1) + 1) + 1) + 1) + 1) r1 r7 σ23))) else (fL_refuses_c292 ((((((((((((((((((((((0 + 700) + 1) + 1) + 1) + 1) + 1) + 1) + 1) + 1) + 1) + 1) + 1) + 1) + 1) + 1) + 1) + 1) + 1) + 1) + 1) + 1) + 1) r1 r7 σ22))) else (fL_refuses_c292 (((((((((((((((((((((0 + 700) + 1) + 1) + 1) + 1) + 1) + 1) + 1) + 1) + 1) + 1) + 1) + 1) + 1) + 1) + 1) + 1) + 1) + 1) + 1) + 1) r1 r7 σ21))) else (fL_refuses_c292 ((((((((((((((((((((0 + 700) + 1) + 1) + 1) + 1) + 1) + 1) + 1) + 1) + 1) + 1) + 1) + 1) + 1) + 1) + 1) + 1) + 1) + 1) + 1) r1 r7 σ20))) else (fL_refuses_c292 (((((((((((((((((((0 + 700) + 1) + 1) + 1) + 1) + 1) + 1) + 1) + 1) + 1) + 1) + 1) + 1) + 1) + 1) + 1) + 1) + 1) + 1) r1 r7 σ19))) else (fL_refuses_c292 ((((((((((((((((((0 + 700) + 1) + 1) + 1) + 1) + 1) + 1) + 1) + 1) + 1) + 1) + 1) + 1) + 1) + 1) + 1) + 1) + 1) r1 r7 σ18))) else (fL_refuses_c292 (((((((((((((((((0 + 700) + 1) + 1) + 1) + 1) + 1) + 1) + 1) + 1) + 1) + 1) + 1) + 1) + 1) + 1) + 1) + 1) r1 r7 σ17))) else (fL_refuses_c292 ((((((((((((((((0 + 700) + 1) + 1) + 1) + 1) + 1) + 1) + 1) + 1) + 1) + 1) + 1) + 1) + 1) + 1) + 1) r1 r7 σ16))) else (fL_refuses_c292 (((((((((((((((0 + 700) + 1) + 1) + 1) + 1) + 1) + 1) + 1) + 1) + 1) + 1) + 1) + 1) + 1) + 1) r1 r7 σ15))) else (fL_refuses_c292 ((((((((((((((0 + 700) + 1) + 1) + 1) + 1) + 1) + 1) + 1) + 1) + 1) + 1) + 1) + 1) + 1) r1 r7 σ14))) else (fL_refuses_c292 (((((((((((((0 + 700) + 1) + 1) + 1) + 1) + 1) + 1) + 1) + 1) + 1) + 1) + 1) + 1) r1 r7 σ13))) else (fL_refuses_c292 ((((((((((((0 + 700) + 1) + 1) + 1) + 1) + 1) + 1) + 1) + 1) + 1) + 1) + 1) r1 r7 σ12))) else (fL_refuses_c292 (((((((((((0 + 700) + 1) + 1) + 1) + 1) + 1) + 1) + 1) + 1) + 1) + 1) r1 r7 σ11))) else (fL_refuses_c292 ((((((((((0 + 700) + 1) + 1) + 1) + 1) + 1) + 1) + 1) + 1) + 1) r1 r7 σ10))) else (fL_refuses_c292 (((((((((0 + 700) + 1) + 1) + 1) + 1) + 1) + 1) + 1) + 1) r1 r7 σ9))) else (fL_refuses_c292 ((((((((0 + 700) + 1) + 1) + 1) + 1) + 1) + 1) + 1) r1 r7 σ8))) else (fL_refuses_c292 (((((((0 + 700) + 1) + 1) + 1) + 1) + 1) + 1) r1 r7 σ7))) else (fL_refuses_c292 ((((((0 + 700) + 1) + 1) + 1) + 1) + 1) r1 r7 σ6))) else (fL_refuses_c292 (((((0 + 700) + 1) + 1) + 1) + 1) r1 r7 σ5))) else (fL_refuses_c292 ((((0 + 700) + 1) + 1) + 1) r1 r7 σ4))) else (fL_refuses_c292 (((0 + 700) + 1) + 1) r1 r7 σ3)))))
set_option maxRecDepth 100000 in
set_option maxHeartbeats 4000000 in
theorem tL_refuses {l : Launch} {z0 : Nat} {g : qG} {w : qWd} {ad : Nat → Nat} (hB : qBC g ad w) (h66 : w 66 = none) (h67 : w 67 = none) (h68 : w 68 = none) (hl : l.stackTraces = false) (σ : qSt) : qCT l yL_refuses cL_refuses 6 (some .boolean) (qrk 34 2000 12000) g z0 w [.ref (ad 0)] σ (fL_refuses σ) qri := by
  refine qCT.of [(0, some (.ref (ad 0)))] (by decide +kernel) (Nat.le_of_ble_eq_true rfl) rfl ?_
  intro p e s m args below meth c cx
  unfold fL_refuses
  refine qS.widen (k2 := 0) (n2 := 0 + 6 * 0) (Nat.le_refl _) (Nat.zero_le _) ?_
  refine r_aload_n (pc := 0) cx dL_refuses_0 rfl ?_
  refine r_sj (pc := 1) (nb := 0) (k := 0) (mc := 700) (Mx := 2000) cx (tL_mark hB h66 h67 h68 hl σ) qm_L_mark qs_L_mark wm_L_140 dL_refuses_1 rfl rfl (Nat.le_of_ble_eq_true rfl) ⟨Nat.le_of_ble_eq_true rfl, Nat.le_of_ble_eq_true rfl⟩ ⟨Nat.le_of_ble_eq_true rfl, Nat.le_of_ble_eq_true rfl⟩ ⟨Nat.le_of_ble_eq_true rfl, Nat.le_of_ble_eq_true rfl⟩ (by omega) (fun r1 σ1 => ?_)
  refine r_lstore_n (pc := 4) cx dL_refuses_4 (by decide) rfl ?_
  refine r_aload_n (pc := 5) cx dL_refuses_5 rfl ?_
  refine r_iconst (pc := 6) cx dL_refuses_6 ?_
  refine r_wj (pc := 7) (nb := 0) (k := (0 + 700)) (mc := 1) (Mx := 2000) cx (tL_sum hB h66 h67 h68 hl 1 σ1) qmh_L_sum wm_L_114 dL_refuses_7 rfl rfl (Nat.le_of_ble_eq_true rfl) ⟨Nat.le_of_ble_eq_true rfl, Nat.le_of_ble_eq_true rfl⟩ ⟨Nat.le_of_ble_eq_true rfl, Nat.le_of_ble_eq_true rfl⟩ ⟨Nat.le_of_ble_eq_true rfl, Nat.le_of_ble_eq_true rfl⟩ (by omega) (fun r7 σ2 => ?_)
  refine r_lstore_n (pc := 10) cx dL_refuses_10 (by decide) rfl ?_
  refine r_aload_n (pc := 11) cx dL_refuses_11 rfl ?_
  refine r_bipush (pc := 12) (v := 96) cx dL_refuses_12 (by decide +kernel) ?_
  refine r_iconst (pc := 14) cx dL_refuses_14 ?_
  refine r_wj (pc := 15) (nb := 0) (k := ((0 + 700) + 1)) (mc := 1) (Mx := 2000) cx (tL_wall hB h66 h67 h68 hl 96 0 σ2) qmh_L_wall wm_L_144 dL_refuses_15 rfl rfl (Nat.le_of_ble_eq_true rfl) ⟨Nat.le_of_ble_eq_true rfl, Nat.le_of_ble_eq_true rfl⟩ ⟨Nat.le_of_ble_eq_true rfl, Nat.le_of_ble_eq_true rfl⟩ ⟨Nat.le_of_ble_eq_true rfl, Nat.le_of_ble_eq_true rfl⟩ (by omega) (fun r15 σ3 => ?_)
  refine r_ldc2 (pc := 18) (v := (-9000000000000000001)) cx dL_refuses_18 wq_L_17 ?_
  refine r_lcmp (pc := 21) cx dL_refuses_21 ?_
  refine r_if_ne (tgt := 292) cx dL_refuses_22 (by decide) ?_ ?_
  · exact qS.sub (qsub_cons rfl (qsub_cons rfl (qsub_cons rfl (qsub_nil _)))) (tL_refuses_c292 cx hB h66 h67 h68 hl _ _ _ _)
  · refine r_aload_n (pc := 25) cx dL_refuses_25 rfl ?_
    refine r_iconst (pc := 26) cx dL_refuses_26 ?_
    refine r_iconst (pc := 27) cx dL_refuses_27 ?_
    refine r_wj (pc := 28) (nb := 0) (k := (((0 + 700) + 1) + 1)) (mc := 1) (Mx := 2000) cx (tL_wall hB h66 h67 h68 hl 0 4 σ3) qmh_L_wall wm_L_144 dL_refuses_28 rfl rfl (Nat.le_of_ble_eq_true rfl) ⟨Nat.le_of_ble_eq_true rfl, Nat.le_of_ble_eq_true rfl⟩ ⟨Nat.le_of_ble_eq_true rfl, Nat.le_of_ble_eq_true rfl⟩ ⟨Nat.le_of_ble_eq_true rfl, Nat.le_of_ble_eq_true rfl⟩ (by omega) (fun r28 σ4 => ?_)
    refine r_ldc2 (pc := 31) (v := (-9000000000000000001)) cx dL_refuses_31 wq_L_17 ?_
    refine r_lcmp (pc := 34) cx dL_refuses_34 ?_
    refine r_if_ne (tgt := 292) cx dL_refuses_35 (by decide) ?_ ?_
    · exact qS.sub (qsub_cons rfl (qsub_cons rfl (qsub_cons rfl (qsub_nil _)))) (tL_refuses_c292 cx hB h66 h67 h68 hl _ _ _ _)
    · refine r_aload_n (pc := 38) cx dL_refuses_38 rfl ?_
      refine r_iconst (pc := 39) cx dL_refuses_39 ?_
      refine r_wj (pc := 40) (nb := 0) (k := ((((0 + 700) + 1) + 1) + 1)) (mc := 1) (Mx := 2000) cx (tL_clear hB h66 h67 h68 hl (-1) σ4) qmh_L_clear wm_L_146 dL_refuses_40 rfl rfl (Nat.le_of_ble_eq_true rfl) ⟨Nat.le_of_ble_eq_true rfl, Nat.le_of_ble_eq_true rfl⟩ ⟨Nat.le_of_ble_eq_true rfl, Nat.le_of_ble_eq_true rfl⟩ ⟨Nat.le_of_ble_eq_true rfl, Nat.le_of_ble_eq_true rfl⟩ (by omega) (fun r40 σ5 => ?_)
      refine r_ldc2 (pc := 43) (v := (-9000000000000000001)) cx dL_refuses_43 wq_L_17 ?_
      refine r_lcmp (pc := 46) cx dL_refuses_46 ?_
      refine r_if_ne (tgt := 292) cx dL_refuses_47 (by decide) ?_ ?_
      · exact qS.sub (qsub_cons rfl (qsub_cons rfl (qsub_cons rfl (qsub_nil _)))) (tL_refuses_c292 cx hB h66 h67 h68 hl _ _ _ _)
      · refine r_aload_n (pc := 50) cx dL_refuses_50 rfl ?_
        refine r_bipush (pc := 51) (v := 96) cx dL_refuses_51 (by decide +kernel) ?_
        refine r_iconst (pc := 53) cx dL_refuses_53 ?_
        refine r_wj (pc := 54) (nb := 0) (k := (((((0 + 700) + 1) + 1) + 1) + 1)) (mc := 1) (Mx := 2000) cx (tL_open hB h66 h67 h68 hl 96 2 σ5) qmh_L_open wm_L_148 dL_refuses_54 rfl rfl (Nat.le_of_ble_eq_true rfl) ⟨Nat.le_of_ble_eq_true rfl, Nat.le_of_ble_eq_true rfl⟩ ⟨Nat.le_of_ble_eq_true rfl, Nat.le_of_ble_eq_true rfl⟩ ⟨Nat.le_of_ble_eq_true rfl, Nat.le_of_ble_eq_true rfl⟩ (by omega) (fun r54 σ6 => ?_)
        refine r_ldc2 (pc := 57) (v := (-9000000000000000001)) cx dL_refuses_57 wq_L_17 ?_
        refine r_lcmp (pc := 60) cx dL_refuses_60 ?_
        refine r_if_ne (tgt := 292) cx dL_refuses_61 (by decide) ?_ ?_
        · exact qS.sub (qsub_cons rfl (qsub_cons rfl (qsub_cons rfl (qsub_nil _)))) (tL_refuses_c292 cx hB h66 h67 h68 hl _ _ _ _)
        · refine r_aload_n (pc := 64) cx dL_refuses_64 rfl ?_
          refine r_iconst (pc := 65) cx dL_refuses_65 ?_
          refine r_iconst (pc := 66) cx dL_refuses_66 ?_
          refine r_wj (pc := 67) (nb := 0) (k := ((((((0 + 700) + 1) + 1) + 1) + 1) + 1)) (mc := 1) (Mx := 2000) cx (tL_open hB h66 h67 h68 hl 0 0 σ6) qmh_L_open wm_L_148 dL_refuses_67 rfl rfl (Nat.le_of_ble_eq_true rfl) ⟨Nat.le_of_ble_eq_true rfl, Nat.le_of_ble_eq_true rfl⟩ ⟨Nat.le_of_ble_eq_true rfl, Nat.le_of_ble_eq_true rfl⟩ ⟨Nat.le_of_ble_eq_true rfl, Nat.le_of_ble_eq_true rfl⟩ (by omega) (fun r67 σ7 => ?_)
          refine r_ldc2 (pc := 70) (v := (-9000000000000000002)) cx dL_refuses_70 wq_L_32 ?_
          refine r_lcmp (pc := 73) cx dL_refuses_73 ?_
          refine r_if_ne (tgt := 292) cx dL_refuses_74 (by decide) ?_ ?_
          · exact qS.sub (qsub_cons rfl (qsub_cons rfl (qsub_cons rfl (qsub_nil _)))) (tL_refuses_c292 cx hB h66 h67 h68 hl _ _ _ _)
          · refine r_aload_n (pc := 77) cx dL_refuses_77 rfl ?_
            refine r_bipush (pc := 78) (v := 96) cx dL_refuses_78 (by decide +kernel) ?_
            refine r_iconst (pc := 80) cx dL_refuses_80 ?_
            refine r_wj (pc := 81) (nb := 0) (k := (((((((0 + 700) + 1) + 1) + 1) + 1) + 1) + 1)) (mc := 1) (Mx := 2000) cx (tL_particle hB h66 h67 h68 hl 96 0 σ7) qmh_L_particle wm_L_150 dL_refuses_81 rfl rfl (Nat.le_of_ble_eq_true rfl) ⟨Nat.le_of_ble_eq_true rfl, Nat.le_of_ble_eq_true rfl⟩ ⟨Nat.le_of_ble_eq_true rfl, Nat.le_of_ble_eq_true rfl⟩ ⟨Nat.le_of_ble_eq_true rfl, Nat.le_of_ble_eq_true rfl⟩ (by omega) (fun r81 σ8 => ?_)
            refine r_ldc2 (pc := 84) (v := (-9000000000000000001)) cx dL_refuses_84 wq_L_17 ?_
            refine r_lcmp (pc := 87) cx dL_refuses_87 ?_
            refine r_if_ne (tgt := 292) cx dL_refuses_88 (by decide) ?_ ?_
            · exact qS.sub (qsub_cons rfl (qsub_cons rfl (qsub_cons rfl (qsub_nil _)))) (tL_refuses_c292 cx hB h66 h67 h68 hl _ _ _ _)
            · refine r_aload_n (pc := 91) cx dL_refuses_91 rfl ?_
              refine r_iconst (pc := 92) cx dL_refuses_92 ?_
              refine r_iconst (pc := 93) cx dL_refuses_93 ?_
              refine r_wj (pc := 94) (nb := 0) (k := ((((((((0 + 700) + 1) + 1) + 1) + 1) + 1) + 1) + 1)) (mc := 1) (Mx := 2000) cx (tL_particle hB h66 h67 h68 hl 0 (-1) σ8) qmh_L_particle wm_L_150 dL_refuses_94 rfl rfl (Nat.le_of_ble_eq_true rfl) ⟨Nat.le_of_ble_eq_true rfl, Nat.le_of_ble_eq_true rfl⟩ ⟨Nat.le_of_ble_eq_true rfl, Nat.le_of_ble_eq_true rfl⟩ ⟨Nat.le_of_ble_eq_true rfl, Nat.le_of_ble_eq_true rfl⟩ (by omega) (fun r94 σ9 => ?_)
              refine r_ldc2 (pc := 97) (v := (-9000000000000000002)) cx dL_refuses_97 wq_L_32 ?_
              refine r_lcmp (pc := 100) cx dL_refuses_100 ?_
              refine r_if_ne (tgt := 292) cx dL_refuses_101 (by decide) ?_ ?_
              · exact qS.sub (qsub_cons rfl (qsub_cons rfl (qsub_cons rfl (qsub_nil _)))) (tL_refuses_c292 cx hB h66 h67 h68 hl _ _ _ _)
              · refine r_aload_n (pc := 104) cx dL_refuses_104 rfl ?_
                refine r_bipush (pc := 105) (v := 96) cx dL_refuses_105 (by decide +kernel) ?_
                refine r_wj (pc := 107) (nb := 0) (k := (((((((((0 + 700) + 1) + 1) + 1) + 1) + 1) + 1) + 1) + 1)) (mc := 1) (Mx := 2000) cx (tL_ink hB h66 h67 h68 hl 96 σ9) qmh_L_ink wm_L_152 dL_refuses_107 rfl rfl (Nat.le_of_ble_eq_true rfl) ⟨Nat.le_of_ble_eq_true rfl, Nat.le_of_ble_eq_true rfl⟩ ⟨Nat.le_of_ble_eq_true rfl, Nat.le_of_ble_eq_true rfl⟩ ⟨Nat.le_of_ble_eq_true rfl, Nat.le_of_ble_eq_true rfl⟩ (by omega) (fun r107 σ10 => ?_)
                refine r_ldc2 (pc := 110) (v := (-9000000000000000001)) cx dL_refuses_110 wq_L_17 ?_
                refine r_lcmp (pc := 113) cx dL_refuses_113 ?_
                refine r_if_ne (tgt := 292) cx dL_refuses_114 (by decide) ?_ ?_
                · exact qS.sub (qsub_cons rfl (qsub_cons rfl (qsub_cons rfl (qsub_nil _)))) (tL_refuses_c292 cx hB h66 h67 h68 hl _ _ _ _)
                · refine r_aload_n (pc := 117) cx dL_refuses_117 rfl ?_
                  refine r_iconst (pc := 118) cx dL_refuses_118 ?_
                  refine r_wj (pc := 119) (nb := 0) (k := ((((((((((0 + 700) + 1) + 1) + 1) + 1) + 1) + 1) + 1) + 1) + 1)) (mc := 1) (Mx := 2000) cx (tL_probe hB h66 h67 h68 hl (-1) σ10) qmh_L_probe wm_L_154 dL_refuses_119 rfl rfl (Nat.le_of_ble_eq_true rfl) ⟨Nat.le_of_ble_eq_true rfl, Nat.le_of_ble_eq_true rfl⟩ ⟨Nat.le_of_ble_eq_true rfl, Nat.le_of_ble_eq_true rfl⟩ ⟨Nat.le_of_ble_eq_true rfl, Nat.le_of_ble_eq_true rfl⟩ (by omega) (fun r119 σ11 => ?_)
                  refine r_ldc2 (pc := 122) (v := (-9000000000000000001)) cx dL_refuses_122 wq_L_17 ?_
                  refine r_lcmp (pc := 125) cx dL_refuses_125 ?_
                  refine r_if_ne (tgt := 292) cx dL_refuses_126 (by decide) ?_ ?_
                  · exact qS.sub (qsub_cons rfl (qsub_cons rfl (qsub_cons rfl (qsub_nil _)))) (tL_refuses_c292 cx hB h66 h67 h68 hl _ _ _ _)
                  · refine r_aload_n (pc := 129) cx dL_refuses_129 rfl ?_
                    refine r_iconst (pc := 130) cx dL_refuses_130 ?_
                    refine r_iconst (pc := 131) cx dL_refuses_131 ?_
                    refine r_wj (pc := 132) (nb := 0) (k := (((((((((((0 + 700) + 1) + 1) + 1) + 1) + 1) + 1) + 1) + 1) + 1) + 1)) (mc := 1) (Mx := 2000) cx (tL_fault hB h66 h67 h68 hl (-1) 0 σ11) qmh_L_fault wm_L_156 dL_refuses_132 rfl rfl (Nat.le_of_ble_eq_true rfl) ⟨Nat.le_of_ble_eq_true rfl, Nat.le_of_ble_eq_true rfl⟩ ⟨Nat.le_of_ble_eq_true rfl, Nat.le_of_ble_eq_true rfl⟩ ⟨Nat.le_of_ble_eq_true rfl, Nat.le_of_ble_eq_true rfl⟩ (by omega) (fun r132 σ12 => ?_)
                    refine r_ldc2 (pc := 135) (v := (-9000000000000000001)) cx dL_refuses_135 wq_L_17 ?_
                    refine r_lcmp (pc := 138) cx dL_refuses_138 ?_
                    refine r_if_ne (tgt := 292) cx dL_refuses_139 (by decide) ?_ ?_
                    · exact qS.sub (qsub_cons rfl (qsub_cons rfl (qsub_cons rfl (qsub_nil _)))) (tL_refuses_c292 cx hB h66 h67 h68 hl _ _ _ _)
                    · refine r_aload_n (pc := 142) cx dL_refuses_142 rfl ?_
                      refine r_iconst (pc := 143) cx dL_refuses_143 ?_
                      refine r_bipush (pc := 144) (v := 6) cx dL_refuses_144 (by decide +kernel) ?_
                      refine r_wj (pc := 146) (nb := 0) (k := ((((((((((((0 + 700) + 1) + 1) + 1) + 1) + 1) + 1) + 1) + 1) + 1) + 1) + 1)) (mc := 1) (Mx := 2000) cx (tL_fault hB h66 h67 h68 hl 0 6 σ12) qmh_L_fault wm_L_156 dL_refuses_146 rfl rfl (Nat.le_of_ble_eq_true rfl) ⟨Nat.le_of_ble_eq_true rfl, Nat.le_of_ble_eq_true rfl⟩ ⟨Nat.le_of_ble_eq_true rfl, Nat.le_of_ble_eq_true rfl⟩ ⟨Nat.le_of_ble_eq_true rfl, Nat.le_of_ble_eq_true rfl⟩ (by omega) (fun r146 σ13 => ?_)
                      refine r_ldc2 (pc := 149) (v := (-9000000000000000002)) cx dL_refuses_149 wq_L_32 ?_
                      refine r_lcmp (pc := 152) cx dL_refuses_152 ?_
                      refine r_if_ne (tgt := 292) cx dL_refuses_153 (by decide) ?_ ?_
                      · exact qS.sub (qsub_cons rfl (qsub_cons rfl (qsub_cons rfl (qsub_nil _)))) (tL_refuses_c292 cx hB h66 h67 h68 hl _ _ _ _)
                      · refine r_aload_n (pc := 156) cx dL_refuses_156 rfl ?_
                        refine r_bipush (pc := 157) (v := 96) cx dL_refuses_157 (by decide +kernel) ?_
                        refine r_iconst (pc := 159) cx dL_refuses_159 ?_
                        refine r_iconst (pc := 160) cx dL_refuses_160 ?_
                        refine r_wj (pc := 161) (nb := 0) (k := (((((((((((((0 + 700) + 1) + 1) + 1) + 1) + 1) + 1) + 1) + 1) + 1) + 1) + 1) + 1)) (mc := 1) (Mx := 2000) cx (tL_bring hB h66 h67 h68 hl 96 0 1 σ13) qmh_L_bring wm_L_158 dL_refuses_161 rfl rfl (Nat.le_of_ble_eq_true rfl) ⟨Nat.le_of_ble_eq_true rfl, Nat.le_of_ble_eq_true rfl⟩ ⟨Nat.le_of_ble_eq_true rfl, Nat.le_of_ble_eq_true rfl⟩ ⟨Nat.le_of_ble_eq_true rfl, Nat.le_of_ble_eq_true rfl⟩ (by omega) (fun r161 σ14 => ?_)
                        refine r_ldc2 (pc := 164) (v := (-9000000000000000001)) cx dL_refuses_164 wq_L_17 ?_
                        refine r_lcmp (pc := 167) cx dL_refuses_167 ?_
                        refine r_if_ne (tgt := 292) cx dL_refuses_168 (by decide) ?_ ?_
                        · exact qS.sub (qsub_cons rfl (qsub_cons rfl (qsub_cons rfl (qsub_nil _)))) (tL_refuses_c292 cx hB h66 h67 h68 hl _ _ _ _)
                        · refine r_aload_n (pc := 171) cx dL_refuses_171 rfl ?_
                          refine r_iconst (pc := 172) cx dL_refuses_172 ?_
                          refine r_iconst (pc := 173) cx dL_refuses_173 ?_
                          refine r_iconst (pc := 174) cx dL_refuses_174 ?_
                          refine r_wj (pc := 175) (nb := 0) (k := ((((((((((((((0 + 700) + 1) + 1) + 1) + 1) + 1) + 1) + 1) + 1) + 1) + 1) + 1) + 1) + 1)) (mc := 1) (Mx := 2000) cx (tL_bring hB h66 h67 h68 hl 0 0 0 σ14) qmh_L_bring wm_L_158 dL_refuses_175 rfl rfl (Nat.le_of_ble_eq_true rfl) ⟨Nat.le_of_ble_eq_true rfl, Nat.le_of_ble_eq_true rfl⟩ ⟨Nat.le_of_ble_eq_true rfl, Nat.le_of_ble_eq_true rfl⟩ ⟨Nat.le_of_ble_eq_true rfl, Nat.le_of_ble_eq_true rfl⟩ (by omega) (fun r175 σ15 => ?_)
                          refine r_ldc2 (pc := 178) (v := (-9000000000000000002)) cx dL_refuses_178 wq_L_32 ?_
                          refine r_lcmp (pc := 181) cx dL_refuses_181 ?_
                          refine r_if_ne (tgt := 292) cx dL_refuses_182 (by decide) ?_ ?_
                          · exact qS.sub (qsub_cons rfl (qsub_cons rfl (qsub_cons rfl (qsub_nil _)))) (tL_refuses_c292 cx hB h66 h67 h68 hl _ _ _ _)
                          · refine r_aload_n (pc := 185) cx dL_refuses_185 rfl ?_
                            refine r_iconst (pc := 186) cx dL_refuses_186 ?_
                            refine r_wj (pc := 187) (nb := 0) (k := (((((((((((((((0 + 700) + 1) + 1) + 1) + 1) + 1) + 1) + 1) + 1) + 1) + 1) + 1) + 1) + 1) + 1)) (mc := 1) (Mx := 2000) cx (tL_step hB h66 h67 h68 hl 0 σ15) qmh_L_step wm_L_161 dL_refuses_187 rfl rfl (Nat.le_of_ble_eq_true rfl) ⟨Nat.le_of_ble_eq_true rfl, Nat.le_of_ble_eq_true rfl⟩ ⟨Nat.le_of_ble_eq_true rfl, Nat.le_of_ble_eq_true rfl⟩ ⟨Nat.le_of_ble_eq_true rfl, Nat.le_of_ble_eq_true rfl⟩ (by omega) (fun r187 σ16 => ?_)
                            refine r_ldc2 (pc := 190) (v := (-9000000000000000002)) cx dL_refuses_190 wq_L_32 ?_
                            refine r_lcmp (pc := 193) cx dL_refuses_193 ?_
                            refine r_if_ne (tgt := 292) cx dL_refuses_194 (by decide) ?_ ?_
                            · exact qS.sub (qsub_cons rfl (qsub_cons rfl (qsub_cons rfl (qsub_nil _)))) (tL_refuses_c292 cx hB h66 h67 h68 hl _ _ _ _)
                            · refine r_aload_n (pc := 197) cx dL_refuses_197 rfl ?_
                              refine r_iconst (pc := 198) cx dL_refuses_198 ?_
                              refine r_wj (pc := 199) (nb := 0) (k := ((((((((((((((((0 + 700) + 1) + 1) + 1) + 1) + 1) + 1) + 1) + 1) + 1) + 1) + 1) + 1) + 1) + 1) + 1)) (mc := 1) (Mx := 2000) cx (tL_back hB h66 h67 h68 hl 0 σ16) qmh_L_back wm_L_163 dL_refuses_199 rfl rfl (Nat.le_of_ble_eq_true rfl) ⟨Nat.le_of_ble_eq_true rfl, Nat.le_of_ble_eq_true rfl⟩ ⟨Nat.le_of_ble_eq_true rfl, Nat.le_of_ble_eq_true rfl⟩ ⟨Nat.le_of_ble_eq_true rfl, Nat.le_of_ble_eq_true rfl⟩ (by omega) (fun r199 σ17 => ?_)
                              refine r_ldc2 (pc := 202) (v := (-9000000000000000002)) cx dL_refuses_202 wq_L_32 ?_
                              refine r_lcmp (pc := 205) cx dL_refuses_205 ?_
                              refine r_if_ne (tgt := 292) cx dL_refuses_206 (by decide) ?_ ?_
                              · exact qS.sub (qsub_cons rfl (qsub_cons rfl (qsub_cons rfl (qsub_nil _)))) (tL_refuses_c292 cx hB h66 h67 h68 hl _ _ _ _)
                              · refine r_aload_n (pc := 209) cx dL_refuses_209 rfl ?_
                                refine r_iconst (pc := 210) cx dL_refuses_210 ?_
                                refine r_wj (pc := 211) (nb := 0) (k := (((((((((((((((((0 + 700) + 1) + 1) + 1) + 1) + 1) + 1) + 1) + 1) + 1) + 1) + 1) + 1) + 1) + 1) + 1) + 1)) (mc := 1) (Mx := 2000) cx (tL_flow hB h66 h67 h68 hl 0 σ17) qmh_L_flow wm_L_165 dL_refuses_211 rfl rfl (Nat.le_of_ble_eq_true rfl) ⟨Nat.le_of_ble_eq_true rfl, Nat.le_of_ble_eq_true rfl⟩ ⟨Nat.le_of_ble_eq_true rfl, Nat.le_of_ble_eq_true rfl⟩ ⟨Nat.le_of_ble_eq_true rfl, Nat.le_of_ble_eq_true rfl⟩ (by omega) (fun r211 σ18 => ?_)
                                refine r_ldc2 (pc := 214) (v := (-9000000000000000002)) cx dL_refuses_214 wq_L_32 ?_
                                refine r_lcmp (pc := 217) cx dL_refuses_217 ?_
                                refine r_if_ne (tgt := 292) cx dL_refuses_218 (by decide) ?_ ?_
                                · exact qS.sub (qsub_cons rfl (qsub_cons rfl (qsub_cons rfl (qsub_nil _)))) (tL_refuses_c292 cx hB h66 h67 h68 hl _ _ _ _)
                                · refine r_aload_n (pc := 221) cx dL_refuses_221 rfl ?_
                                  refine r_iconst (pc := 222) cx dL_refuses_222 ?_
                                  refine r_iconst (pc := 223) cx dL_refuses_223 ?_
                                  refine r_wj (pc := 224) (nb := 0) (k := ((((((((((((((((((0 + 700) + 1) + 1) + 1) + 1) + 1) + 1) + 1) + 1) + 1) + 1) + 1) + 1) + 1) + 1) + 1) + 1) + 1)) (mc := 1) (Mx := 2000) cx (tL_cellOf hB h66 h67 h68 hl (-1) 0 σ18) qmh_L_cellOf wm_L_101 dL_refuses_224 rfl rfl (Nat.le_of_ble_eq_true rfl) ⟨Nat.le_of_ble_eq_true rfl, Nat.le_of_ble_eq_true rfl⟩ ⟨Nat.le_of_ble_eq_true rfl, Nat.le_of_ble_eq_true rfl⟩ ⟨Nat.le_of_ble_eq_true rfl, Nat.le_of_ble_eq_true rfl⟩ (by omega) (fun r224 σ19 => ?_)
                                  refine r_ldc2 (pc := 227) (v := (-9000000000000000001)) cx dL_refuses_227 wq_L_17 ?_
                                  refine r_lcmp (pc := 230) cx dL_refuses_230 ?_
                                  refine r_if_ne (tgt := 292) cx dL_refuses_231 (by decide) ?_ ?_
                                  · exact qS.sub (qsub_cons rfl (qsub_cons rfl (qsub_cons rfl (qsub_nil _)))) (tL_refuses_c292 cx hB h66 h67 h68 hl _ _ _ _)
                                  · refine r_aload_n (pc := 234) cx dL_refuses_234 rfl ?_
                                    refine r_iconst (pc := 235) cx dL_refuses_235 ?_
                                    refine r_bipush (pc := 236) (v := 8) cx dL_refuses_236 (by decide +kernel) ?_
                                    refine r_wj (pc := 238) (nb := 0) (k := (((((((((((((((((((0 + 700) + 1) + 1) + 1) + 1) + 1) + 1) + 1) + 1) + 1) + 1) + 1) + 1) + 1) + 1) + 1) + 1) + 1) + 1)) (mc := 1) (Mx := 2000) cx (tL_cellOf hB h66 h67 h68 hl 0 8 σ19) qmh_L_cellOf wm_L_101 dL_refuses_238 rfl rfl (Nat.le_of_ble_eq_true rfl) ⟨Nat.le_of_ble_eq_true rfl, Nat.le_of_ble_eq_true rfl⟩ ⟨Nat.le_of_ble_eq_true rfl, Nat.le_of_ble_eq_true rfl⟩ ⟨Nat.le_of_ble_eq_true rfl, Nat.le_of_ble_eq_true rfl⟩ (by omega) (fun r238 σ20 => ?_)
                                    refine r_ldc2 (pc := 241) (v := (-9000000000000000002)) cx dL_refuses_241 wq_L_32 ?_
                                    refine r_lcmp (pc := 244) cx dL_refuses_244 ?_
                                    refine r_if_ne (tgt := 292) cx dL_refuses_245 (by decide) ?_ ?_
                                    · exact qS.sub (qsub_cons rfl (qsub_cons rfl (qsub_cons rfl (qsub_nil _)))) (tL_refuses_c292 cx hB h66 h67 h68 hl _ _ _ _)
                                    · refine r_aload_n (pc := 248) cx dL_refuses_248 rfl ?_
                                      refine r_iconst (pc := 249) cx dL_refuses_249 ?_
                                      refine r_iconst (pc := 250) cx dL_refuses_250 ?_
                                      refine r_wj (pc := 251) (nb := 0) (k := ((((((((((((((((((((0 + 700) + 1) + 1) + 1) + 1) + 1) + 1) + 1) + 1) + 1) + 1) + 1) + 1) + 1) + 1) + 1) + 1) + 1) + 1) + 1)) (mc := 1) (Mx := 2000) cx (tL_bodyOf hB h66 h67 h68 hl 4 0 σ20) qmh_L_bodyOf wm_L_110 dL_refuses_251 rfl rfl (Nat.le_of_ble_eq_true rfl) ⟨Nat.le_of_ble_eq_true rfl, Nat.le_of_ble_eq_true rfl⟩ ⟨Nat.le_of_ble_eq_true rfl, Nat.le_of_ble_eq_true rfl⟩ ⟨Nat.le_of_ble_eq_true rfl, Nat.le_of_ble_eq_true rfl⟩ (by omega) (fun r251 σ21 => ?_)
                                      refine r_ldc2 (pc := 254) (v := (-9000000000000000001)) cx dL_refuses_254 wq_L_17 ?_
                                      refine r_lcmp (pc := 257) cx dL_refuses_257 ?_
                                      refine r_if_ne (tgt := 292) cx dL_refuses_258 (by decide) ?_ ?_
                                      · exact qS.sub (qsub_cons rfl (qsub_cons rfl (qsub_cons rfl (qsub_nil _)))) (tL_refuses_c292 cx hB h66 h67 h68 hl _ _ _ _)
                                      · refine r_aload_n (pc := 261) cx dL_refuses_261 rfl ?_
                                        refine r_iconst (pc := 262) cx dL_refuses_262 ?_
                                        refine r_bipush (pc := 263) (v := 6) cx dL_refuses_263 (by decide +kernel) ?_
                                        refine r_wj (pc := 265) (nb := 0) (k := (((((((((((((((((((((0 + 700) + 1) + 1) + 1) + 1) + 1) + 1) + 1) + 1) + 1) + 1) + 1) + 1) + 1) + 1) + 1) + 1) + 1) + 1) + 1) + 1)) (mc := 1) (Mx := 2000) cx (tL_bodyOf hB h66 h67 h68 hl 0 6 σ21) qmh_L_bodyOf wm_L_110 dL_refuses_265 rfl rfl (Nat.le_of_ble_eq_true rfl) ⟨Nat.le_of_ble_eq_true rfl, Nat.le_of_ble_eq_true rfl⟩ ⟨Nat.le_of_ble_eq_true rfl, Nat.le_of_ble_eq_true rfl⟩ ⟨Nat.le_of_ble_eq_true rfl, Nat.le_of_ble_eq_true rfl⟩ (by omega) (fun r265 σ22 => ?_)
                                        refine r_ldc2 (pc := 268) (v := (-9000000000000000002)) cx dL_refuses_268 wq_L_32 ?_
                                        refine r_lcmp (pc := 271) cx dL_refuses_271 ?_
                                        refine r_if_ne (tgt := 292) cx dL_refuses_272 (by decide) ?_ ?_
                                        · exact qS.sub (qsub_cons rfl (qsub_cons rfl (qsub_cons rfl (qsub_nil _)))) (tL_refuses_c292 cx hB h66 h67 h68 hl _ _ _ _)
                                        · refine r_aload_n (pc := 275) cx dL_refuses_275 rfl ?_
                                          refine r_bipush (pc := 276) (v := 8) cx dL_refuses_276 (by decide +kernel) ?_
                                          refine r_wj (pc := 278) (nb := 0) (k := ((((((((((((((((((((((0 + 700) + 1) + 1) + 1) + 1) + 1) + 1) + 1) + 1) + 1) + 1) + 1) + 1) + 1) + 1) + 1) + 1) + 1) + 1) + 1) + 1) + 1)) (mc := 1) (Mx := 2000) cx (tL_sum hB h66 h67 h68 hl 8 σ22) qmh_L_sum wm_L_114 dL_refuses_278 rfl rfl (Nat.le_of_ble_eq_true rfl) ⟨Nat.le_of_ble_eq_true rfl, Nat.le_of_ble_eq_true rfl⟩ ⟨Nat.le_of_ble_eq_true rfl, Nat.le_of_ble_eq_true rfl⟩ ⟨Nat.le_of_ble_eq_true rfl, Nat.le_of_ble_eq_true rfl⟩ (by omega) (fun r278 σ23 => ?_)
                                          refine r_ldc2 (pc := 281) (v := (-9000000000000000002)) cx dL_refuses_281 wq_L_32 ?_
                                          refine r_lcmp (pc := 284) cx dL_refuses_284 ?_
                                          refine r_if_ne (tgt := 292) cx dL_refuses_285 (by decide) ?_ ?_
                                          · exact qS.sub (qsub_cons rfl (qsub_cons rfl (qsub_cons rfl (qsub_nil _)))) (tL_refuses_c292 cx hB h66 h67 h68 hl _ _ _ _)
                                          · refine r_iconst (pc := 288) cx dL_refuses_288 ?_
                                            refine r_goto (pc := 289) (tgt := 293) cx dL_refuses_289 (by decide) ?_
                                            exact qS.sub (qsub_cons rfl (qsub_cons rfl (qsub_cons rfl (qsub_nil _)))) (tL_refuses_c293 cx hB h66 h67 h68 hl _ _ _ _ _)
