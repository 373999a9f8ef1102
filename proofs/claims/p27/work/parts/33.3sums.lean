def fL_sumsHold_c363 (kc : Nat) (σ : qSt) : Option (Int × qSt) :=
  (qif (kc + 49 ≤ 3000) (qbd (fL_mixed 0 σ) fun (r365 : Int) (σ12 : qSt) => (qbd (fL_mixed 1 σ12) fun (r370 : Int) (σ13 : qSt) => (if qI (qlcmp (r365 + r370) 0) = 0 then (some (1, σ13)) else (some (0, σ13))))))
set_option maxRecDepth 100000 in
set_option maxHeartbeats 4000000 in
theorem tL_sumsHold_c363 {p : Program} {l : Launch} {e : Env} {s : State} {m : MethodId} {args : Array Value} {below : List Frame} {meth : Method} {c : Code} {z0 : Nat} {g : qG} {w : qWd} {ad : Nat → Nat} (cx : qCx p s m meth c cL_sumsHold 17 RL (some .boolean) g z0) (hB : qBC g ad w) (h66 : w 66 = none) (h67 : w 67 = none) (h68 : w 68 = none) (hl : l.stackTraces = false) (kc : Nat) (σ : qSt) : qS p l e (qrk 9 3000 18000) s m args below meth c 17 g z0 w kc (0 + 6 * kc) (qQ below g z0 w qri args s 3000 18000) (fL_sumsHold_c363 kc σ) σ 363 [(0, some (.ref (ad 0)))] [] := by
  unfold fL_sumsHold_c363
  refine r_qif (fun hkc => ?_)
  refine r_aload_n (pc := 363) cx dL_sumsHold_363 rfl ?_
  refine r_iconst (pc := 364) cx dL_sumsHold_364 ?_
  refine r_wj (pc := 365) (nb := 0) (k := kc) (mc := 24) (Mx := 3000) cx (tL_mixed hB h66 h67 h68 hl 0 σ) qmh_L_mixed wm_L_123 dL_sumsHold_365 rfl rfl (Nat.le_of_ble_eq_true rfl) ⟨Nat.le_of_ble_eq_true rfl, Nat.le_of_ble_eq_true rfl⟩ ⟨Nat.le_of_ble_eq_true rfl, Nat.le_of_ble_eq_true rfl⟩ ⟨Nat.le_of_ble_eq_true rfl, Nat.le_of_ble_eq_true rfl⟩ (by omega) (fun r365 σ12 => ?_)
  refine r_aload_n (pc := 368) cx dL_sumsHold_368 rfl ?_
  refine r_iconst (pc := 369) cx dL_sumsHold_369 ?_
  refine r_wj (pc := 370) (nb := 0) (k := (kc + 24)) (mc := 24) (Mx := 3000) cx (tL_mixed hB h66 h67 h68 hl 1 σ12) qmh_L_mixed wm_L_123 dL_sumsHold_370 rfl rfl (Nat.le_of_ble_eq_true rfl) ⟨Nat.le_of_ble_eq_true rfl, Nat.le_of_ble_eq_true rfl⟩ ⟨Nat.le_of_ble_eq_true rfl, Nat.le_of_ble_eq_true rfl⟩ ⟨Nat.le_of_ble_eq_true rfl, Nat.le_of_ble_eq_true rfl⟩ (by omega) (fun r370 σ13 => ?_)
  refine r_ladd (pc := 373) cx dL_sumsHold_373 ?_
  refine r_lconst (pc := 374) (z := 0) cx dL_sumsHold_374 (by decide +kernel) ?_
  refine r_lcmp (pc := 375) cx dL_sumsHold_375 ?_
  refine r_if_ne (tgt := 383) cx dL_sumsHold_376 (by decide) ?_ ?_
  · refine r_iconst (pc := 383) cx dL_sumsHold_383 ?_
    exact r_zreturn (pc := 384) (w0 := w) (mc := 3000) (ms := 18000) (fun _ _ h => h) (by omega) (by omega) cx (by decide +kernel) dL_sumsHold_384 rfl
  · refine r_iconst (pc := 379) cx dL_sumsHold_379 ?_
    refine r_goto (pc := 380) (tgt := 384) cx dL_sumsHold_380 (by decide) ?_
    exact r_zreturn (pc := 384) (w0 := w) (mc := 3000) (ms := 18000) (fun _ _ h => h) (by omega) (by omega) cx (by decide +kernel) dL_sumsHold_384 rfl
def fL_sumsHold_c262 (kc : Nat) (x1 : Int) (x3 : Int) (x5 : Int) (x7 : Int) (x9 : Int) (x11 : Int) (σ : qSt) : Option (Int × qSt) :=
  (qif (kc + 30 ≤ 3000) (if qI x11 = 0 then (some (0, σ)) else (qbd (fL_sum 2 σ) fun (r269 : Int) (σ6 : qSt) => (if qI (qlcmp r269 x1) = 0 then (qbd (fL_sum 3 σ6) fun (r279 : Int) (σ7 : qSt) => (if qI (qlcmp r279 x3) = 0 then (qbd (fL_sum 7 σ7) fun (r290 : Int) (σ8 : qSt) => (if qI (qlcmp r290 x5) = 0 then (qbd (fL_sum 4 σ8) fun (r301 : Int) (σ9 : qSt) => (if qI (qlcmp r301 x7) = 0 then (qbd (fL_sum 5 σ9) fun (r312 : Int) (σ10 : qSt) => (if qI (qlcmp r312 x9) = 0 then ((fX5_left σ10 1).bind fun (r323 : Int) => (if qI (qlcmp r323 0) = 0 then ((fX5_left σ10 0).bind fun (r333 : Int) => (if qI (qlcmp r333 0) = 0 then (qbd (fL_mixed 0 σ10) fun (r343 : Int) (σ11 : qSt) => (if qI (qlcmp r343 0) < 0 then (some (0, σ11)) else (if qI (qlcmp x3 0) ≤ 0 then (fL_sumsHold_c363 ((((((kc + 1) + 1) + 1) + 1) + 1) + 24) σ11) else (if qI (qlcmp x3 x1) < 0 then (some (1, σ11)) else (fL_sumsHold_c363 ((((((kc + 1) + 1) + 1) + 1) + 1) + 24) σ11))))) else (some (0, σ10)))) else (some (0, σ10)))) else (some (0, σ10)))) else (some (0, σ9)))) else (some (0, σ8)))) else (some (0, σ7)))) else (some (0, σ6))))))
set_option maxRecDepth 100000 in
set_option maxHeartbeats 4000000 in
theorem tL_sumsHold_c262 {p : Program} {l : Launch} {e : Env} {s : State} {m : MethodId} {args : Array Value} {below : List Frame} {meth : Method} {c : Code} {z0 : Nat} {g : qG} {w : qWd} {ad : Nat → Nat} (cx : qCx p s m meth c cL_sumsHold 17 RL (some .boolean) g z0) (hB : qBC g ad w) (h66 : w 66 = none) (h67 : w 67 = none) (h68 : w 68 = none) (hl : l.stackTraces = false) (kc : Nat) (x1 : Int) (x3 : Int) (x5 : Int) (x7 : Int) (x9 : Int) (x11 : Int) (σ : qSt) : qS p l e (qrk 9 3000 18000) s m args below meth c 17 g z0 w kc (0 + 6 * kc) (qQ below g z0 w qri args s 3000 18000) (fL_sumsHold_c262 kc x1 x3 x5 x7 x9 x11 σ) σ 262 [(0, some (.ref (ad 0))), (1, some (.long (qJ x1))), (3, some (.long (qJ x3))), (5, some (.long (qJ x5))), (7, some (.long (qJ x7))), (9, some (.long (qJ x9))), (11, some (.int (qI x11)))] [] := by
  unfold fL_sumsHold_c262
  refine r_qif (fun hkc => ?_)
  refine r_iload (pc := 262) cx dL_sumsHold_262 rfl ?_
  refine r_if_eq (tgt := 383) cx dL_sumsHold_264 (by decide) ?_ ?_
  · refine r_iconst (pc := 383) cx dL_sumsHold_383 ?_
    exact r_zreturn (pc := 384) (w0 := w) (mc := 3000) (ms := 18000) (fun _ _ h => h) (by omega) (by omega) cx (by decide +kernel) dL_sumsHold_384 rfl
  · refine r_aload_n (pc := 267) cx dL_sumsHold_267 rfl ?_
    refine r_iconst (pc := 268) cx dL_sumsHold_268 ?_
    refine r_wj (pc := 269) (nb := 0) (k := kc) (mc := 1) (Mx := 3000) cx (tL_sum hB h66 h67 h68 hl 2 σ) qmh_L_sum wm_L_114 dL_sumsHold_269 rfl rfl (Nat.le_of_ble_eq_true rfl) ⟨Nat.le_of_ble_eq_true rfl, Nat.le_of_ble_eq_true rfl⟩ ⟨Nat.le_of_ble_eq_true rfl, Nat.le_of_ble_eq_true rfl⟩ ⟨Nat.le_of_ble_eq_true rfl, Nat.le_of_ble_eq_true rfl⟩ (by omega) (fun r269 σ6 => ?_)
    refine r_lload_n (pc := 272) cx dL_sumsHold_272 rfl ?_
    refine r_lcmp (pc := 273) cx dL_sumsHold_273 ?_
    refine r_if_ne (tgt := 383) cx dL_sumsHold_274 (by decide) ?_ ?_
    · refine r_iconst (pc := 383) cx dL_sumsHold_383 ?_
      exact r_zreturn (pc := 384) (w0 := w) (mc := 3000) (ms := 18000) (fun _ _ h => h) (by omega) (by omega) cx (by decide +kernel) dL_sumsHold_384 rfl
    · refine r_aload_n (pc := 277) cx dL_sumsHold_277 rfl ?_
      refine r_iconst (pc := 278) cx dL_sumsHold_278 ?_
      refine r_wj (pc := 279) (nb := 0) (k := (kc + 1)) (mc := 1) (Mx := 3000) cx (tL_sum hB h66 h67 h68 hl 3 σ6) qmh_L_sum wm_L_114 dL_sumsHold_279 rfl rfl (Nat.le_of_ble_eq_true rfl) ⟨Nat.le_of_ble_eq_true rfl, Nat.le_of_ble_eq_true rfl⟩ ⟨Nat.le_of_ble_eq_true rfl, Nat.le_of_ble_eq_true rfl⟩ ⟨Nat.le_of_ble_eq_true rfl, Nat.le_of_ble_eq_true rfl⟩ (by omega) (fun r279 σ7 => ?_)
      refine r_lload_n (pc := 282) cx dL_sumsHold_282 rfl ?_
      refine r_lcmp (pc := 283) cx dL_sumsHold_283 ?_
      refine r_if_ne (tgt := 383) cx dL_sumsHold_284 (by decide) ?_ ?_
      · refine r_iconst (pc := 383) cx dL_sumsHold_383 ?_
        exact r_zreturn (pc := 384) (w0 := w) (mc := 3000) (ms := 18000) (fun _ _ h => h) (by omega) (by omega) cx (by decide +kernel) dL_sumsHold_384 rfl
      · refine r_aload_n (pc := 287) cx dL_sumsHold_287 rfl ?_
        refine r_bipush (pc := 288) (v := 7) cx dL_sumsHold_288 (by decide +kernel) ?_
        refine r_wj (pc := 290) (nb := 0) (k := ((kc + 1) + 1)) (mc := 1) (Mx := 3000) cx (tL_sum hB h66 h67 h68 hl 7 σ7) qmh_L_sum wm_L_114 dL_sumsHold_290 rfl rfl (Nat.le_of_ble_eq_true rfl) ⟨Nat.le_of_ble_eq_true rfl, Nat.le_of_ble_eq_true rfl⟩ ⟨Nat.le_of_ble_eq_true rfl, Nat.le_of_ble_eq_true rfl⟩ ⟨Nat.le_of_ble_eq_true rfl, Nat.le_of_ble_eq_true rfl⟩ (by omega) (fun r290 σ8 => ?_)
        refine r_lload (pc := 293) cx dL_sumsHold_293 rfl ?_
        refine r_lcmp (pc := 295) cx dL_sumsHold_295 ?_
        refine r_if_ne (tgt := 383) cx dL_sumsHold_296 (by decide) ?_ ?_
        · refine r_iconst (pc := 383) cx dL_sumsHold_383 ?_
          exact r_zreturn (pc := 384) (w0 := w) (mc := 3000) (ms := 18000) (fun _ _ h => h) (by omega) (by omega) cx (by decide +kernel) dL_sumsHold_384 rfl
        · refine r_aload_n (pc := 299) cx dL_sumsHold_299 rfl ?_
          refine r_iconst (pc := 300) cx dL_sumsHold_300 ?_
          refine r_wj (pc := 301) (nb := 0) (k := (((kc + 1) + 1) + 1)) (mc := 1) (Mx := 3000) cx (tL_sum hB h66 h67 h68 hl 4 σ8) qmh_L_sum wm_L_114 dL_sumsHold_301 rfl rfl (Nat.le_of_ble_eq_true rfl) ⟨Nat.le_of_ble_eq_true rfl, Nat.le_of_ble_eq_true rfl⟩ ⟨Nat.le_of_ble_eq_true rfl, Nat.le_of_ble_eq_true rfl⟩ ⟨Nat.le_of_ble_eq_true rfl, Nat.le_of_ble_eq_true rfl⟩ (by omega) (fun r301 σ9 => ?_)
          refine r_lload (pc := 304) cx dL_sumsHold_304 rfl ?_
          refine r_lcmp (pc := 306) cx dL_sumsHold_306 ?_
          refine r_if_ne (tgt := 383) cx dL_sumsHold_307 (by decide) ?_ ?_
          · refine r_iconst (pc := 383) cx dL_sumsHold_383 ?_
            exact r_zreturn (pc := 384) (w0 := w) (mc := 3000) (ms := 18000) (fun _ _ h => h) (by omega) (by omega) cx (by decide +kernel) dL_sumsHold_384 rfl
          · refine r_aload_n (pc := 310) cx dL_sumsHold_310 rfl ?_
            refine r_iconst (pc := 311) cx dL_sumsHold_311 ?_
            refine r_wj (pc := 312) (nb := 0) (k := ((((kc + 1) + 1) + 1) + 1)) (mc := 1) (Mx := 3000) cx (tL_sum hB h66 h67 h68 hl 5 σ9) qmh_L_sum wm_L_114 dL_sumsHold_312 rfl rfl (Nat.le_of_ble_eq_true rfl) ⟨Nat.le_of_ble_eq_true rfl, Nat.le_of_ble_eq_true rfl⟩ ⟨Nat.le_of_ble_eq_true rfl, Nat.le_of_ble_eq_true rfl⟩ ⟨Nat.le_of_ble_eq_true rfl, Nat.le_of_ble_eq_true rfl⟩ (by omega) (fun r312 σ10 => ?_)
            refine r_lload (pc := 315) cx dL_sumsHold_315 rfl ?_
            refine r_lcmp (pc := 317) cx dL_sumsHold_317 ?_
            refine r_if_ne (tgt := 383) cx dL_sumsHold_318 (by decide) ?_ ?_
            · refine r_iconst (pc := 383) cx dL_sumsHold_383 ?_
              exact r_zreturn (pc := 384) (w0 := w) (mc := 3000) (ms := 18000) (fun _ _ h => h) (by omega) (by omega) cx (by decide +kernel) dL_sumsHold_384 rfl
            · refine r_aload_n (pc := 321) cx dL_sumsHold_321 rfl ?_
              refine r_iconst (pc := 322) cx dL_sumsHold_322 ?_
              refine r_pVj (pc := 323) cx (tX5_left hB 1 σ10) qm_X5_left qv_X5_left hcl_X5 (lw0 hB) wm_L_119 dL_sumsHold_323 rfl rfl (Nat.le_of_ble_eq_true rfl) ⟨Nat.le_of_ble_eq_true rfl, Nat.le_of_ble_eq_true rfl⟩ ⟨rfl, rfl⟩ ⟨by show (((((kc + 1) + 1) + 1) + 1) + 1) ≤ 3000; omega, by show 0 + 6 * (((((kc + 1) + 1) + 1) + 1) + 1) ≤ 18000; omega⟩ (fun r323 => ?_)
              refine r_lconst (pc := 326) (z := 0) cx dL_sumsHold_326 (by decide +kernel) ?_
              refine r_lcmp (pc := 327) cx dL_sumsHold_327 ?_
              refine r_if_ne (tgt := 383) cx dL_sumsHold_328 (by decide) ?_ ?_
              · refine r_iconst (pc := 383) cx dL_sumsHold_383 ?_
                exact r_zreturn (pc := 384) (w0 := w) (mc := 3000) (ms := 18000) (fun _ _ h => h) (by omega) (by omega) cx (by decide +kernel) dL_sumsHold_384 rfl
              · refine r_aload_n (pc := 331) cx dL_sumsHold_331 rfl ?_
                refine r_iconst (pc := 332) cx dL_sumsHold_332 ?_
                refine r_pVj (pc := 333) cx (tX5_left hB 0 σ10) qm_X5_left qv_X5_left hcl_X5 (lw0 hB) wm_L_119 dL_sumsHold_333 rfl rfl (Nat.le_of_ble_eq_true rfl) ⟨Nat.le_of_ble_eq_true rfl, Nat.le_of_ble_eq_true rfl⟩ ⟨rfl, rfl⟩ ⟨by show (((((kc + 1) + 1) + 1) + 1) + 1) ≤ 3000; omega, by show 0 + 6 * (((((kc + 1) + 1) + 1) + 1) + 1) ≤ 18000; omega⟩ (fun r333 => ?_)
                refine r_lconst (pc := 336) (z := 0) cx dL_sumsHold_336 (by decide +kernel) ?_
                refine r_lcmp (pc := 337) cx dL_sumsHold_337 ?_
                refine r_if_ne (tgt := 383) cx dL_sumsHold_338 (by decide) ?_ ?_
                · refine r_iconst (pc := 383) cx dL_sumsHold_383 ?_
                  exact r_zreturn (pc := 384) (w0 := w) (mc := 3000) (ms := 18000) (fun _ _ h => h) (by omega) (by omega) cx (by decide +kernel) dL_sumsHold_384 rfl
                · refine r_aload_n (pc := 341) cx dL_sumsHold_341 rfl ?_
                  refine r_iconst (pc := 342) cx dL_sumsHold_342 ?_
                  refine r_wj (pc := 343) (nb := 0) (k := (((((kc + 1) + 1) + 1) + 1) + 1)) (mc := 24) (Mx := 3000) cx (tL_mixed hB h66 h67 h68 hl 0 σ10) qmh_L_mixed wm_L_123 dL_sumsHold_343 rfl rfl (Nat.le_of_ble_eq_true rfl) ⟨Nat.le_of_ble_eq_true rfl, Nat.le_of_ble_eq_true rfl⟩ ⟨Nat.le_of_ble_eq_true rfl, Nat.le_of_ble_eq_true rfl⟩ ⟨Nat.le_of_ble_eq_true rfl, Nat.le_of_ble_eq_true rfl⟩ (by omega) (fun r343 σ11 => ?_)
                  refine r_lconst (pc := 346) (z := 0) cx dL_sumsHold_346 (by decide +kernel) ?_
                  refine r_lcmp (pc := 347) cx dL_sumsHold_347 ?_
                  refine r_if_lt (tgt := 383) cx dL_sumsHold_348 (by decide) ?_ ?_
                  · refine r_iconst (pc := 383) cx dL_sumsHold_383 ?_
                    exact r_zreturn (pc := 384) (w0 := w) (mc := 3000) (ms := 18000) (fun _ _ h => h) (by omega) (by omega) cx (by decide +kernel) dL_sumsHold_384 rfl
                  · refine r_lload_n (pc := 351) cx dL_sumsHold_351 rfl ?_
                    refine r_lconst (pc := 352) (z := 0) cx dL_sumsHold_352 (by decide +kernel) ?_
                    refine r_lcmp (pc := 353) cx dL_sumsHold_353 ?_
                    refine r_if_le (tgt := 363) cx dL_sumsHold_354 (by decide) ?_ ?_
                    · exact qS.sub (qsub_cons rfl (qsub_nil _)) (tL_sumsHold_c363 cx hB h66 h67 h68 hl _ _)
                    · refine r_lload_n (pc := 357) cx dL_sumsHold_357 rfl ?_
                      refine r_lload_n (pc := 358) cx dL_sumsHold_358 rfl ?_
                      refine r_lcmp (pc := 359) cx dL_sumsHold_359 ?_
                      refine r_if_lt (tgt := 379) cx dL_sumsHold_360 (by decide) ?_ ?_
                      · refine r_iconst (pc := 379) cx dL_sumsHold_379 ?_
                        refine r_goto (pc := 380) (tgt := 384) cx dL_sumsHold_380 (by decide) ?_
                        exact r_zreturn (pc := 384) (w0 := w) (mc := 3000) (ms := 18000) (fun _ _ h => h) (by omega) (by omega) cx (by decide +kernel) dL_sumsHold_384 rfl
                      · exact qS.sub (qsub_cons rfl (qsub_nil _)) (tL_sumsHold_c363 cx hB h66 h67 h68 hl _ _)
def fL_sumsHold_c254 (k19 : Nat → Int → Int → Int → Int → Int → Int → Int → qSt → Option (Int × qSt)) (kc : Nat) (x1 : Int) (x3 : Int) (x5 : Int) (x7 : Int) (x9 : Int) (x12 : Int) (s0 : Int) (σ : qSt) : Option (Int × qSt) :=
  (k19 kc x1 x3 x5 x7 x9 s0 (x12 + 1) σ)
set_option maxRecDepth 100000 in
set_option maxHeartbeats 4000000 in
theorem tL_sumsHold_c254 {p : Program} {l : Launch} {e : Env} {s : State} {m : MethodId} {args : Array Value} {below : List Frame} {meth : Method} {c : Code} {z0 : Nat} {g : qG} {w : qWd} {ad : Nat → Nat} (cx : qCx p s m meth c cL_sumsHold 17 RL (some .boolean) g z0) (hB : qBC g ad w) (h66 : w 66 = none) (h67 : w 67 = none) (h68 : w 68 = none) (hl : l.stackTraces = false) {k19 : Nat → Int → Int → Int → Int → Int → Int → Int → qSt → Option (Int × qSt)} (hk19 : ∀ (kc : Nat) (x1 : Int) (x3 : Int) (x5 : Int) (x7 : Int) (x9 : Int) (x11 : Int) (x12 : Int) (σ : qSt), qS p l e (qrk 9 3000 18000) s m args below meth c 17 g z0 w kc (0 + 6 * kc) (qQ below g z0 w qri args s 3000 18000) (k19 kc x1 x3 x5 x7 x9 x11 x12 σ) σ 19 [(0, some (.ref (ad 0))), (1, some (.long (qJ x1))), (3, some (.long (qJ x3))), (5, some (.long (qJ x5))), (7, some (.long (qJ x7))), (9, some (.long (qJ x9))), (11, some (.int (qI x11))), (12, some (.int (qI x12)))] []) (kc : Nat) (x1 : Int) (x3 : Int) (x5 : Int) (x7 : Int) (x9 : Int) (x12 : Int) (s0 : Int) (σ : qSt) : qS p l e (qrk 9 3000 18000) s m args below meth c 17 g z0 w kc (0 + 6 * kc) (qQ below g z0 w qri args s 3000 18000) (fL_sumsHold_c254 k19 kc x1 x3 x5 x7 x9 x12 s0 σ) σ 254 [(0, some (.ref (ad 0))), (1, some (.long (qJ x1))), (3, some (.long (qJ x3))), (5, some (.long (qJ x5))), (7, some (.long (qJ x7))), (9, some (.long (qJ x9))), (12, some (.int (qI x12)))] [.int (qI s0)] := by
  unfold fL_sumsHold_c254
  refine r_istore (pc := 254) cx dL_sumsHold_254 (by decide) rfl ?_
  refine r_iinc (pc := 256) cx dL_sumsHold_256 rfl (by decide) rfl ?_
  refine r_goto (pc := 259) (tgt := 19) cx dL_sumsHold_259 (by decide) ?_
  exact qS.sub (qsub_cons rfl (qsub_cons rfl (qsub_cons rfl (qsub_cons rfl (qsub_cons rfl (qsub_cons rfl (qsub_cons rfl (qsub_cons rfl (qsub_nil _))))))))) (hk19 _ _ _ _ _ _ _ _ _)
def fL_sumsHold_c253 (k19 : Nat → Int → Int → Int → Int → Int → Int → Int → qSt → Option (Int × qSt)) (kc : Nat) (x1 : Int) (x3 : Int) (x5 : Int) (x7 : Int) (x9 : Int) (x12 : Int) (σ : qSt) : Option (Int × qSt) :=
  (fL_sumsHold_c254 k19 kc x1 x3 x5 x7 x9 x12 0 σ)
set_option maxRecDepth 100000 in
set_option maxHeartbeats 4000000 in
theorem tL_sumsHold_c253 {p : Program} {l : Launch} {e : Env} {s : State} {m : MethodId} {args : Array Value} {below : List Frame} {meth : Method} {c : Code} {z0 : Nat} {g : qG} {w : qWd} {ad : Nat → Nat} (cx : qCx p s m meth c cL_sumsHold 17 RL (some .boolean) g z0) (hB : qBC g ad w) (h66 : w 66 = none) (h67 : w 67 = none) (h68 : w 68 = none) (hl : l.stackTraces = false) {k19 : Nat → Int → Int → Int → Int → Int → Int → Int → qSt → Option (Int × qSt)} (hk19 : ∀ (kc : Nat) (x1 : Int) (x3 : Int) (x5 : Int) (x7 : Int) (x9 : Int) (x11 : Int) (x12 : Int) (σ : qSt), qS p l e (qrk 9 3000 18000) s m args below meth c 17 g z0 w kc (0 + 6 * kc) (qQ below g z0 w qri args s 3000 18000) (k19 kc x1 x3 x5 x7 x9 x11 x12 σ) σ 19 [(0, some (.ref (ad 0))), (1, some (.long (qJ x1))), (3, some (.long (qJ x3))), (5, some (.long (qJ x5))), (7, some (.long (qJ x7))), (9, some (.long (qJ x9))), (11, some (.int (qI x11))), (12, some (.int (qI x12)))] []) (kc : Nat) (x1 : Int) (x3 : Int) (x5 : Int) (x7 : Int) (x9 : Int) (x12 : Int) (σ : qSt) : qS p l e (qrk 9 3000 18000) s m args below meth c 17 g z0 w kc (0 + 6 * kc) (qQ below g z0 w qri args s 3000 18000) (fL_sumsHold_c253 k19 kc x1 x3 x5 x7 x9 x12 σ) σ 253 [(0, some (.ref (ad 0))), (1, some (.long (qJ x1))), (3, some (.long (qJ x3))), (5, some (.long (qJ x5))), (7, some (.long (qJ x7))), (9, some (.long (qJ x9))), (12, some (.int (qI x12)))] [] := by
  unfold fL_sumsHold_c253
  refine r_iconst (pc := 253) cx dL_sumsHold_253 ?_
  exact qS.sub (qsub_cons rfl (qsub_cons rfl (qsub_cons rfl (qsub_cons rfl (qsub_cons rfl (qsub_cons rfl (qsub_cons rfl (qsub_nil _)))))))) (tL_sumsHold_c254 cx hB h66 h67 h68 hl hk19 _ _ _ _ _ _ _ _ _)
def fL_sumsHold_c249 (k19 : Nat → Int → Int → Int → Int → Int → Int → Int → qSt → Option (Int × qSt)) (kc : Nat) (x1 : Int) (x3 : Int) (x5 : Int) (x7 : Int) (x9 : Int) (x12 : Int) (σ : qSt) : Option (Int × qSt) :=
  (fL_sumsHold_c254 k19 kc x1 x3 x5 x7 x9 x12 1 σ)
set_option maxRecDepth 100000 in
set_option maxHeartbeats 4000000 in
theorem tL_sumsHold_c249 {p : Program} {l : Launch} {e : Env} {s : State} {m : MethodId} {args : Array Value} {below : List Frame} {meth : Method} {c : Code} {z0 : Nat} {g : qG} {w : qWd} {ad : Nat → Nat} (cx : qCx p s m meth c cL_sumsHold 17 RL (some .boolean) g z0) (hB : qBC g ad w) (h66 : w 66 = none) (h67 : w 67 = none) (h68 : w 68 = none) (hl : l.stackTraces = false) {k19 : Nat → Int → Int → Int → Int → Int → Int → Int → qSt → Option (Int × qSt)} (hk19 : ∀ (kc : Nat) (x1 : Int) (x3 : Int) (x5 : Int) (x7 : Int) (x9 : Int) (x11 : Int) (x12 : Int) (σ : qSt), qS p l e (qrk 9 3000 18000) s m args below meth c 17 g z0 w kc (0 + 6 * kc) (qQ below g z0 w qri args s 3000 18000) (k19 kc x1 x3 x5 x7 x9 x11 x12 σ) σ 19 [(0, some (.ref (ad 0))), (1, some (.long (qJ x1))), (3, some (.long (qJ x3))), (5, some (.long (qJ x5))), (7, some (.long (qJ x7))), (9, some (.long (qJ x9))), (11, some (.int (qI x11))), (12, some (.int (qI x12)))] []) (kc : Nat) (x1 : Int) (x3 : Int) (x5 : Int) (x7 : Int) (x9 : Int) (x12 : Int) (σ : qSt) : qS p l e (qrk 9 3000 18000) s m args below meth c 17 g z0 w kc (0 + 6 * kc) (qQ below g z0 w qri args s 3000 18000) (fL_sumsHold_c249 k19 kc x1 x3 x5 x7 x9 x12 σ) σ 249 [(0, some (.ref (ad 0))), (1, some (.long (qJ x1))), (3, some (.long (qJ x3))), (5, some (.long (qJ x5))), (7, some (.long (qJ x7))), (9, some (.long (qJ x9))), (12, some (.int (qI x12)))] [] := by
  unfold fL_sumsHold_c249
  refine r_iconst (pc := 249) cx dL_sumsHold_249 ?_
  refine r_goto (pc := 250) (tgt := 254) cx dL_sumsHold_250 (by decide) ?_
  exact qS.sub (qsub_cons rfl (qsub_cons rfl (qsub_cons rfl (qsub_cons rfl (qsub_cons rfl (qsub_cons rfl (qsub_cons rfl (qsub_nil _)))))))) (tL_sumsHold_c254 cx hB h66 h67 h68 hl hk19 _ _ _ _ _ _ _ _ _)
def fL_sumsHold_c230 (k19 : Nat → Int → Int → Int → Int → Int → Int → Int → qSt → Option (Int × qSt)) (kc : Nat) (x1 : Int) (x3 : Int) (x5 : Int) (x7 : Int) (x9 : Int) (x12 : Int) (x15 : Int) (σ : qSt) : Option (Int × qSt) :=
  (qif (kc + 1 ≤ 3000) (if qI x15 = 0 then (qbd (fL_cellOf x12 1 σ) fun (r239 : Int) (σ21 : qSt) => (if qI (qlcmp r239 (-1)) = 0 then (fL_sumsHold_c249 k19 (kc + 1) x1 x3 x5 x7 x9 x12 σ21) else (fL_sumsHold_c253 k19 (kc + 1) x1 x3 x5 x7 x9 x12 σ21))) else (fL_sumsHold_c249 k19 kc x1 x3 x5 x7 x9 x12 σ)))
set_option maxRecDepth 100000 in
set_option maxHeartbeats 4000000 in
theorem tL_sumsHold_c230 {p : Program} {l : Launch} {e : Env} {s : State} {m : MethodId} {args : Array Value} {below : List Frame} {meth : Method} {c : Code} {z0 : Nat} {g : qG} {w : qWd} {ad : Nat → Nat} (cx : qCx p s m meth c cL_sumsHold 17 RL (some .boolean) g z0) (hB : qBC g ad w) (h66 : w 66 = none) (h67 : w 67 = none) (h68 : w 68 = none) (hl : l.stackTraces = false) {k19 : Nat → Int → Int → Int → Int → Int → Int → Int → qSt → Option (Int × qSt)} (hk19 : ∀ (kc : Nat) (x1 : Int) (x3 : Int) (x5 : Int) (x7 : Int) (x9 : Int) (x11 : Int) (x12 : Int) (σ : qSt), qS p l e (qrk 9 3000 18000) s m args below meth c 17 g z0 w kc (0 + 6 * kc) (qQ below g z0 w qri args s 3000 18000) (k19 kc x1 x3 x5 x7 x9 x11 x12 σ) σ 19 [(0, some (.ref (ad 0))), (1, some (.long (qJ x1))), (3, some (.long (qJ x3))), (5, some (.long (qJ x5))), (7, some (.long (qJ x7))), (9, some (.long (qJ x9))), (11, some (.int (qI x11))), (12, some (.int (qI x12)))] []) (kc : Nat) (x1 : Int) (x3 : Int) (x5 : Int) (x7 : Int) (x9 : Int) (x12 : Int) (x15 : Int) (σ : qSt) : qS p l e (qrk 9 3000 18000) s m args below meth c 17 g z0 w kc (0 + 6 * kc) (qQ below g z0 w qri args s 3000 18000) (fL_sumsHold_c230 k19 kc x1 x3 x5 x7 x9 x12 x15 σ) σ 230 [(0, some (.ref (ad 0))), (1, some (.long (qJ x1))), (3, some (.long (qJ x3))), (5, some (.long (qJ x5))), (7, some (.long (qJ x7))), (9, some (.long (qJ x9))), (12, some (.int (qI x12))), (15, some (.int (qI x15)))] [] := by
  unfold fL_sumsHold_c230
  refine r_qif (fun hkc => ?_)
  refine r_iload (pc := 230) cx dL_sumsHold_230 rfl ?_
  refine r_if_ne (tgt := 249) cx dL_sumsHold_232 (by decide) ?_ ?_
  · exact qS.sub (qsub_cons rfl (qsub_cons rfl (qsub_cons rfl (qsub_cons rfl (qsub_cons rfl (qsub_cons rfl (qsub_cons rfl (qsub_nil _)))))))) (tL_sumsHold_c249 cx hB h66 h67 h68 hl hk19 _ _ _ _ _ _ _ _)
  · refine r_aload_n (pc := 235) cx dL_sumsHold_235 rfl ?_
    refine r_iload (pc := 236) cx dL_sumsHold_236 rfl ?_
    refine r_iconst (pc := 238) cx dL_sumsHold_238 ?_
    refine r_wj (pc := 239) (nb := 0) (k := kc) (mc := 1) (Mx := 3000) cx (tL_cellOf hB h66 h67 h68 hl x12 1 σ) qmh_L_cellOf wm_L_101 dL_sumsHold_239 rfl rfl (Nat.le_of_ble_eq_true rfl) ⟨Nat.le_of_ble_eq_true rfl, Nat.le_of_ble_eq_true rfl⟩ ⟨Nat.le_of_ble_eq_true rfl, Nat.le_of_ble_eq_true rfl⟩ ⟨Nat.le_of_ble_eq_true rfl, Nat.le_of_ble_eq_true rfl⟩ (by omega) (fun r239 σ21 => ?_)
    refine r_ldc2 (pc := 242) (v := (-1)) cx dL_sumsHold_242 wq_L_117 ?_
    refine r_lcmp (pc := 245) cx dL_sumsHold_245 ?_
    refine r_if_ne (tgt := 253) cx dL_sumsHold_246 (by decide) ?_ ?_
    · exact qS.sub (qsub_cons rfl (qsub_cons rfl (qsub_cons rfl (qsub_cons rfl (qsub_cons rfl (qsub_cons rfl (qsub_cons rfl (qsub_nil _)))))))) (tL_sumsHold_c253 cx hB h66 h67 h68 hl hk19 _ _ _ _ _ _ _ _)
    · exact qS.sub (qsub_cons rfl (qsub_cons rfl (qsub_cons rfl (qsub_cons rfl (qsub_cons rfl (qsub_cons rfl (qsub_cons rfl (qsub_nil _)))))))) (tL_sumsHold_c249 cx hB h66 h67 h68 hl hk19 _ _ _ _ _ _ _ _)
def fL_sumsHold_c161 (k19 : Nat → Int → Int → Int → Int → Int → Int → Int → qSt → Option (Int × qSt)) (k73 : Nat → Int → Int → Int → Int → Int → Int → Int → Int → Int → Int → Int → qSt → Option (Int × qSt)) (kc : Nat) (x1 : Int) (x3 : Int) (x5 : Int) (x7 : Int) (x9 : Int) (x12 : Int) (x13 : Int) (x14 : Int) (x15 : Int) (x16 : Int) (s0 : Int) (σ : qSt) : Option (Int × qSt) :=
  (k73 kc x1 x3 x5 x7 x9 s0 x12 x13 x14 x15 (x16 + 1) σ)
set_option maxRecDepth 100000 in
set_option maxHeartbeats 4000000 in
theorem tL_sumsHold_c161 {p : Program} {l : Launch} {e : Env} {s : State} {m : MethodId} {args : Array Value} {below : List Frame} {meth : Method} {c : Code} {z0 : Nat} {g : qG} {w : qWd} {ad : Nat → Nat} (cx : qCx p s m meth c cL_sumsHold 17 RL (some .boolean) g z0) (hB : qBC g ad w) (h66 : w 66 = none) (h67 : w 67 = none) (h68 : w 68 = none) (hl : l.stackTraces = false) {k19 : Nat → Int → Int → Int → Int → Int → Int → Int → qSt → Option (Int × qSt)} (hk19 : ∀ (kc : Nat) (x1 : Int) (x3 : Int) (x5 : Int) (x7 : Int) (x9 : Int) (x11 : Int) (x12 : Int) (σ : qSt), qS p l e (qrk 9 3000 18000) s m args below meth c 17 g z0 w kc (0 + 6 * kc) (qQ below g z0 w qri args s 3000 18000) (k19 kc x1 x3 x5 x7 x9 x11 x12 σ) σ 19 [(0, some (.ref (ad 0))), (1, some (.long (qJ x1))), (3, some (.long (qJ x3))), (5, some (.long (qJ x5))), (7, some (.long (qJ x7))), (9, some (.long (qJ x9))), (11, some (.int (qI x11))), (12, some (.int (qI x12)))] []) {k73 : Nat → Int → Int → Int → Int → Int → Int → Int → Int → Int → Int → Int → qSt → Option (Int × qSt)} (hk73 : ∀ (kc : Nat) (x1 : Int) (x3 : Int) (x5 : Int) (x7 : Int) (x9 : Int) (x11 : Int) (x12 : Int) (x13 : Int) (x14 : Int) (x15 : Int) (x16 : Int) (σ : qSt), qS p l e (qrk 9 3000 18000) s m args below meth c 17 g z0 w kc (0 + 6 * kc) (qQ below g z0 w qri args s 3000 18000) (k73 kc x1 x3 x5 x7 x9 x11 x12 x13 x14 x15 x16 σ) σ 73 [(0, some (.ref (ad 0))), (1, some (.long (qJ x1))), (3, some (.long (qJ x3))), (5, some (.long (qJ x5))), (7, some (.long (qJ x7))), (9, some (.long (qJ x9))), (11, some (.int (qI x11))), (12, some (.int (qI x12))), (13, some (.int (qI x13))), (14, some (.int (qI x14))), (15, some (.int (qI x15))), (16, some (.int (qI x16)))] []) (kc : Nat) (x1 : Int) (x3 : Int) (x5 : Int) (x7 : Int) (x9 : Int) (x12 : Int) (x13 : Int) (x14 : Int) (x15 : Int) (x16 : Int) (s0 : Int) (σ : qSt) : qS p l e (qrk 9 3000 18000) s m args below meth c 17 g z0 w kc (0 + 6 * kc) (qQ below g z0 w qri args s 3000 18000) (fL_sumsHold_c161 k19 k73 kc x1 x3 x5 x7 x9 x12 x13 x14 x15 x16 s0 σ) σ 161 [(0, some (.ref (ad 0))), (1, some (.long (qJ x1))), (3, some (.long (qJ x3))), (5, some (.long (qJ x5))), (7, some (.long (qJ x7))), (9, some (.long (qJ x9))), (12, some (.int (qI x12))), (13, some (.int (qI x13))), (14, some (.int (qI x14))), (15, some (.int (qI x15))), (16, some (.int (qI x16)))] [.int (qI s0)] := by
  unfold fL_sumsHold_c161
  refine r_istore (pc := 161) cx dL_sumsHold_161 (by decide) rfl ?_
  refine r_iinc (pc := 163) cx dL_sumsHold_163 rfl (by decide) rfl ?_
  refine r_goto (pc := 166) (tgt := 73) cx dL_sumsHold_166 (by decide) ?_
  exact qS.sub (qsub_cons rfl (qsub_cons rfl (qsub_cons rfl (qsub_cons rfl (qsub_cons rfl (qsub_cons rfl (qsub_cons rfl (qsub_cons rfl (qsub_cons rfl (qsub_cons rfl (qsub_cons rfl (qsub_cons rfl (qsub_nil _))))))))))))) (hk73 _ _ _ _ _ _ _ _ _ _ _ _ _)
def fL_sumsHold_c160 (k19 : Nat → Int → Int → Int → Int → Int → Int → Int → qSt → Option (Int × qSt)) (k73 : Nat → Int → Int → Int → Int → Int → Int → Int → Int → Int → Int → Int → qSt → Option (Int × qSt)) (kc : Nat) (x1 : Int) (x3 : Int) (x5 : Int) (x7 : Int) (x9 : Int) (x12 : Int) (x13 : Int) (x14 : Int) (x15 : Int) (x16 : Int) (σ : qSt) : Option (Int × qSt) :=
  (fL_sumsHold_c161 k19 k73 kc x1 x3 x5 x7 x9 x12 x13 x14 x15 x16 0 σ)
set_option maxRecDepth 100000 in
set_option maxHeartbeats 4000000 in
theorem tL_sumsHold_c160 {p : Program} {l : Launch} {e : Env} {s : State} {m : MethodId} {args : Array Value} {below : List Frame} {meth : Method} {c : Code} {z0 : Nat} {g : qG} {w : qWd} {ad : Nat → Nat} (cx : qCx p s m meth c cL_sumsHold 17 RL (some .boolean) g z0) (hB : qBC g ad w) (h66 : w 66 = none) (h67 : w 67 = none) (h68 : w 68 = none) (hl : l.stackTraces = false) {k19 : Nat → Int → Int → Int → Int → Int → Int → Int → qSt → Option (Int × qSt)} (hk19 : ∀ (kc : Nat) (x1 : Int) (x3 : Int) (x5 : Int) (x7 : Int) (x9 : Int) (x11 : Int) (x12 : Int) (σ : qSt), qS p l e (qrk 9 3000 18000) s m args below meth c 17 g z0 w kc (0 + 6 * kc) (qQ below g z0 w qri args s 3000 18000) (k19 kc x1 x3 x5 x7 x9 x11 x12 σ) σ 19 [(0, some (.ref (ad 0))), (1, some (.long (qJ x1))), (3, some (.long (qJ x3))), (5, some (.long (qJ x5))), (7, some (.long (qJ x7))), (9, some (.long (qJ x9))), (11, some (.int (qI x11))), (12, some (.int (qI x12)))] []) {k73 : Nat → Int → Int → Int → Int → Int → Int → Int → Int → Int → Int → Int → qSt → Option (Int × qSt)} (hk73 : ∀ (kc : Nat) (x1 : Int) (x3 : Int) (x5 : Int) (x7 : Int) (x9 : Int) (x11 : Int) (x12 : Int) (x13 : Int) (x14 : Int) (x15 : Int) (x16 : Int) (σ : qSt), qS p l e (qrk 9 3000 18000) s m args below meth c 17 g z0 w kc (0 + 6 * kc) (qQ below g z0 w qri args s 3000 18000) (k73 kc x1 x3 x5 x7 x9 x11 x12 x13 x14 x15 x16 σ) σ 73 [(0, some (.ref (ad 0))), (1, some (.long (qJ x1))), (3, some (.long (qJ x3))), (5, some (.long (qJ x5))), (7, some (.long (qJ x7))), (9, some (.long (qJ x9))), (11, some (.int (qI x11))), (12, some (.int (qI x12))), (13, some (.int (qI x13))), (14, some (.int (qI x14))), (15, some (.int (qI x15))), (16, some (.int (qI x16)))] []) (kc : Nat) (x1 : Int) (x3 : Int) (x5 : Int) (x7 : Int) (x9 : Int) (x12 : Int) (x13 : Int) (x14 : Int) (x15 : Int) (x16 : Int) (σ : qSt) : qS p l e (qrk 9 3000 18000) s m args below meth c 17 g z0 w kc (0 + 6 * kc) (qQ below g z0 w qri args s 3000 18000) (fL_sumsHold_c160 k19 k73 kc x1 x3 x5 x7 x9 x12 x13 x14 x15 x16 σ) σ 160 [(0, some (.ref (ad 0))), (1, some (.long (qJ x1))), (3, some (.long (qJ x3))), (5, some (.long (qJ x5))), (7, some (.long (qJ x7))), (9, some (.long (qJ x9))), (12, some (.int (qI x12))), (13, some (.int (qI x13))), (14, some (.int (qI x14))), (15, some (.int (qI x15))), (16, some (.int (qI x16)))] [] := by
  unfold fL_sumsHold_c160
  refine r_iconst (pc := 160) cx dL_sumsHold_160 ?_
  exact qS.sub (qsub_cons rfl (qsub_cons rfl (qsub_cons rfl (qsub_cons rfl (qsub_cons rfl (qsub_cons rfl (qsub_cons rfl (qsub_cons rfl (qsub_cons rfl (qsub_cons rfl (qsub_cons rfl (qsub_nil _)))))))))))) (tL_sumsHold_c161 cx hB h66 h67 h68 hl hk19 hk73 _ _ _ _ _ _ _ _ _ _ _ _ _)
def fL_sumsHold_c141 (k19 : Nat → Int → Int → Int → Int → Int → Int → Int → qSt → Option (Int × qSt)) (k73 : Nat → Int → Int → Int → Int → Int → Int → Int → Int → Int → Int → Int → qSt → Option (Int × qSt)) (kc : Nat) (x1 : Int) (x3 : Int) (x5 : Int) (x7 : Int) (x9 : Int) (x12 : Int) (x13 : Int) (x14 : Int) (x15 : Int) (x16 : Int) (σ : qSt) : Option (Int × qSt) :=
  (qif (kc + 1 ≤ 3000) (qbd (fL_cellOf x12 (4 + x16) σ) fun (r148 : Int) (σ22 : qSt) => (if qI (qlcmp r148 0) < 0 then (fL_sumsHold_c160 k19 k73 (kc + 1) x1 x3 x5 x7 x9 x12 x13 x14 x15 x16 σ22) else (fL_sumsHold_c161 k19 k73 (kc + 1) x1 x3 x5 x7 x9 x12 x13 x14 x15 x16 1 σ22))))
set_option maxRecDepth 100000 in
set_option maxHeartbeats 4000000 in
theorem tL_sumsHold_c141 {p : Program} {l : Launch} {e : Env} {s : State} {m : MethodId} {args : Array Value} {below : List Frame} {meth : Method} {c : Code} {z0 : Nat} {g : qG} {w : qWd} {ad : Nat → Nat} (cx : qCx p s m meth c cL_sumsHold 17 RL (some .boolean) g z0) (hB : qBC g ad w) (h66 : w 66 = none) (h67 : w 67 = none) (h68 : w 68 = none) (hl : l.stackTraces = false) {k19 : Nat → Int → Int → Int → Int → Int → Int → Int → qSt → Option (Int × qSt)} (hk19 : ∀ (kc : Nat) (x1 : Int) (x3 : Int) (x5 : Int) (x7 : Int) (x9 : Int) (x11 : Int) (x12 : Int) (σ : qSt), qS p l e (qrk 9 3000 18000) s m args below meth c 17 g z0 w kc (0 + 6 * kc) (qQ below g z0 w qri args s 3000 18000) (k19 kc x1 x3 x5 x7 x9 x11 x12 σ) σ 19 [(0, some (.ref (ad 0))), (1, some (.long (qJ x1))), (3, some (.long (qJ x3))), (5, some (.long (qJ x5))), (7, some (.long (qJ x7))), (9, some (.long (qJ x9))), (11, some (.int (qI x11))), (12, some (.int (qI x12)))] []) {k73 : Nat → Int → Int → Int → Int → Int → Int → Int → Int → Int → Int → Int → qSt → Option (Int × qSt)} (hk73 : ∀ (kc : Nat) (x1 : Int) (x3 : Int) (x5 : Int) (x7 : Int) (x9 : Int) (x11 : Int) (x12 : Int) (x13 : Int) (x14 : Int) (x15 : Int) (x16 : Int) (σ : qSt), qS p l e (qrk 9 3000 18000) s m args below meth c 17 g z0 w kc (0 + 6 * kc) (qQ below g z0 w qri args s 3000 18000) (k73 kc x1 x3 x5 x7 x9 x11 x12 x13 x14 x15 x16 σ) σ 73 [(0, some (.ref (ad 0))), (1, some (.long (qJ x1))), (3, some (.long (qJ x3))), (5, some (.long (qJ x5))), (7, some (.long (qJ x7))), (9, some (.long (qJ x9))), (11, some (.int (qI x11))), (12, some (.int (qI x12))), (13, some (.int (qI x13))), (14, some (.int (qI x14))), (15, some (.int (qI x15))), (16, some (.int (qI x16)))] []) (kc : Nat) (x1 : Int) (x3 : Int) (x5 : Int) (x7 : Int) (x9 : Int) (x12 : Int) (x13 : Int) (x14 : Int) (x15 : Int) (x16 : Int) (σ : qSt) : qS p l e (qrk 9 3000 18000) s m args below meth c 17 g z0 w kc (0 + 6 * kc) (qQ below g z0 w qri args s 3000 18000) (fL_sumsHold_c141 k19 k73 kc x1 x3 x5 x7 x9 x12 x13 x14 x15 x16 σ) σ 141 [(0, some (.ref (ad 0))), (1, some (.long (qJ x1))), (3, some (.long (qJ x3))), (5, some (.long (qJ x5))), (7, some (.long (qJ x7))), (9, some (.long (qJ x9))), (12, some (.int (qI x12))), (13, some (.int (qI x13))), (14, some (.int (qI x14))), (15, some (.int (qI x15))), (16, some (.int (qI x16)))] [] := by
  unfold fL_sumsHold_c141
  refine r_qif (fun hkc => ?_)
  refine r_aload_n (pc := 141) cx dL_sumsHold_141 rfl ?_
  refine r_iload (pc := 142) cx dL_sumsHold_142 rfl ?_
  refine r_iconst (pc := 144) cx dL_sumsHold_144 ?_
  refine r_iload (pc := 145) cx dL_sumsHold_145 rfl ?_
  refine r_iadd (pc := 147) cx dL_sumsHold_147 ?_
  refine r_wj (pc := 148) (nb := 0) (k := kc) (mc := 1) (Mx := 3000) cx (tL_cellOf hB h66 h67 h68 hl x12 (4 + x16) σ) qmh_L_cellOf wm_L_101 dL_sumsHold_148 rfl rfl (Nat.le_of_ble_eq_true rfl) ⟨Nat.le_of_ble_eq_true rfl, Nat.le_of_ble_eq_true rfl⟩ ⟨Nat.le_of_ble_eq_true rfl, Nat.le_of_ble_eq_true rfl⟩ ⟨Nat.le_of_ble_eq_true rfl, Nat.le_of_ble_eq_true rfl⟩ (by omega) (fun r148 σ22 => ?_)
  refine r_lconst (pc := 151) (z := 0) cx dL_sumsHold_151 (by decide +kernel) ?_
  refine r_lcmp (pc := 152) cx dL_sumsHold_152 ?_
  refine r_if_lt (tgt := 160) cx dL_sumsHold_153 (by decide) ?_ ?_
  · exact qS.sub (qsub_cons rfl (qsub_cons rfl (qsub_cons rfl (qsub_cons rfl (qsub_cons rfl (qsub_cons rfl (qsub_cons rfl (qsub_cons rfl (qsub_cons rfl (qsub_cons rfl (qsub_cons rfl (qsub_nil _)))))))))))) (tL_sumsHold_c160 cx hB h66 h67 h68 hl hk19 hk73 _ _ _ _ _ _ _ _ _ _ _ _)
  · refine r_iconst (pc := 156) cx dL_sumsHold_156 ?_
    refine r_goto (pc := 157) (tgt := 161) cx dL_sumsHold_157 (by decide) ?_
    exact qS.sub (qsub_cons rfl (qsub_cons rfl (qsub_cons rfl (qsub_cons rfl (qsub_cons rfl (qsub_cons rfl (qsub_cons rfl (qsub_cons rfl (qsub_cons rfl (qsub_cons rfl (qsub_cons rfl (qsub_nil _)))))))))))) (tL_sumsHold_c161 cx hB h66 h67 h68 hl hk19 hk73 _ _ _ _ _ _ _ _ _ _ _ _ _)
def fL_sumsHold_c73 (k19 : Nat → Int → Int → Int → Int → Int → Int → Int → qSt → Option (Int × qSt)) : Nat → Nat → Int → Int → Int → Int → Int → Int → Int → Int → Int → Int → Int → qSt → Option (Int × qSt)
  | 0, _, _, _, _, _, _, _, _, _, _, _, _, _ => none
  | f + 1, kc, x1, x3, x5, x7, x9, x11, x12, x13, x14, x15, x16, σ => (qif (kc + 2 ≤ 3000) (if qI 4 ≤ qI x16 then (qb (x7 + (qi2l ((qand x13 1) - (qand (qshr x13 2) 1)))) fun (y14 : Int) => (qb (x9 + (qi2l ((qand (qshr x13 1) 1) - (qand (qshr x13 3) 1)))) fun (y15 : Int) => (if qI x11 = 0 then (fL_sumsHold_c253 k19 kc x1 x3 x5 y14 y15 x12 σ) else (if qI (qand x14 (qxor x13 (-1))) = 0 then (if qI x15 = 0 then (fL_sumsHold_c230 k19 kc x1 x3 x5 y14 y15 x12 x15 σ) else (if qI x13 = 0 then (fL_sumsHold_c230 k19 kc x1 x3 x5 y14 y15 x12 x15 σ) else (fL_sumsHold_c253 k19 kc x1 x3 x5 y14 y15 x12 σ))) else (fL_sumsHold_c253 k19 kc x1 x3 x5 y14 y15 x12 σ))))) else (qb (x1 + (qi2l (qand (qshr x13 x16) 1))) fun (y16 : Int) => (qb (x3 + (qi2l (qand (qshr x14 x16) 1))) fun (y17 : Int) => (qbd (fL_cellOf x12 (4 + x16) σ) fun (r110 : Int) (σ18 : qSt) => (qb (x5 + r110) fun (y19 : Int) => (if qI x11 = 0 then (fL_sumsHold_c160 k19 (fL_sumsHold_c73 k19 f) (kc + 1) y16 y17 y19 x7 x9 x12 x13 x14 x15 x16 σ18) else (if qI x15 = 0 then (fL_sumsHold_c141 k19 (fL_sumsHold_c73 k19 f) (kc + 1) y16 y17 y19 x7 x9 x12 x13 x14 x15 x16 σ18) else (qbd (fL_cellOf x12 (4 + x16) σ18) fun (r133 : Int) (σ20 : qSt) => (if qI (qlcmp r133 0) = 0 then (fL_sumsHold_c141 k19 (fL_sumsHold_c73 k19 f) ((kc + 1) + 1) y16 y17 y19 x7 x9 x12 x13 x14 x15 x16 σ20) else (fL_sumsHold_c160 k19 (fL_sumsHold_c73 k19 f) ((kc + 1) + 1) y16 y17 y19 x7 x9 x12 x13 x14 x15 x16 σ20)))))))))))
set_option maxRecDepth 100000 in
set_option maxHeartbeats 4000000 in
theorem tL_sumsHold_c73 {p : Program} {l : Launch} {e : Env} {s : State} {m : MethodId} {args : Array Value} {below : List Frame} {meth : Method} {c : Code} {z0 : Nat} {g : qG} {w : qWd} {ad : Nat → Nat} (cx : qCx p s m meth c cL_sumsHold 17 RL (some .boolean) g z0) (hB : qBC g ad w) (h66 : w 66 = none) (h67 : w 67 = none) (h68 : w 68 = none) (hl : l.stackTraces = false) {k19 : Nat → Int → Int → Int → Int → Int → Int → Int → qSt → Option (Int × qSt)} (hk19 : ∀ (kc : Nat) (x1 : Int) (x3 : Int) (x5 : Int) (x7 : Int) (x9 : Int) (x11 : Int) (x12 : Int) (σ : qSt), qS p l e (qrk 9 3000 18000) s m args below meth c 17 g z0 w kc (0 + 6 * kc) (qQ below g z0 w qri args s 3000 18000) (k19 kc x1 x3 x5 x7 x9 x11 x12 σ) σ 19 [(0, some (.ref (ad 0))), (1, some (.long (qJ x1))), (3, some (.long (qJ x3))), (5, some (.long (qJ x5))), (7, some (.long (qJ x7))), (9, some (.long (qJ x9))), (11, some (.int (qI x11))), (12, some (.int (qI x12)))] []) : ∀ (f : Nat) (kc : Nat) (x1 : Int) (x3 : Int) (x5 : Int) (x7 : Int) (x9 : Int) (x11 : Int) (x12 : Int) (x13 : Int) (x14 : Int) (x15 : Int) (x16 : Int) (σ : qSt), qS p l e (qrk 9 3000 18000) s m args below meth c 17 g z0 w kc (0 + 6 * kc) (qQ below g z0 w qri args s 3000 18000) (fL_sumsHold_c73 k19 f kc x1 x3 x5 x7 x9 x11 x12 x13 x14 x15 x16 σ) σ 73 [(0, some (.ref (ad 0))), (1, some (.long (qJ x1))), (3, some (.long (qJ x3))), (5, some (.long (qJ x5))), (7, some (.long (qJ x7))), (9, some (.long (qJ x9))), (11, some (.int (qI x11))), (12, some (.int (qI x12))), (13, some (.int (qI x13))), (14, some (.int (qI x14))), (15, some (.int (qI x15))), (16, some (.int (qI x16)))] [] := by
  intro f
  induction f with
  | zero => exact fun _ _ _ _ _ _ _ _ _ _ _ _ _ => qS.fail
  | succ f ih =>
    intro kc x1 x3 x5 x7 x9 x11 x12 x13 x14 x15 x16 σ
    unfold fL_sumsHold_c73
    refine r_qif (fun hkc => ?_)
    refine r_iload (pc := 73) cx dL_sumsHold_73 rfl ?_
    refine r_iconst (pc := 75) cx dL_sumsHold_75 ?_
    refine r_icmp_ge (tgt := 169) cx dL_sumsHold_76 (by decide) ?_ ?_
    · refine r_lload (pc := 169) cx dL_sumsHold_169 rfl ?_
      refine r_iload (pc := 171) cx dL_sumsHold_171 rfl ?_
      refine r_iconst (pc := 173) cx dL_sumsHold_173 ?_
      refine r_iand (pc := 174) cx dL_sumsHold_174 ?_
      refine r_iload (pc := 175) cx dL_sumsHold_175 rfl ?_
      refine r_iconst (pc := 177) cx dL_sumsHold_177 ?_
      refine r_ishr (pc := 178) cx dL_sumsHold_178 ?_
      refine r_iconst (pc := 179) cx dL_sumsHold_179 ?_
      refine r_iand (pc := 180) cx dL_sumsHold_180 ?_
      refine r_isub (pc := 181) cx dL_sumsHold_181 ?_
      refine r_i2l (pc := 182) cx dL_sumsHold_182 ?_
      refine r_ladd (pc := 183) cx dL_sumsHold_183 ?_
      refine r_nml (fun y14 => ?_)
      refine r_lstore (pc := 184) cx dL_sumsHold_184 (by decide) rfl ?_
      refine r_lload (pc := 186) cx dL_sumsHold_186 rfl ?_
      refine r_iload (pc := 188) cx dL_sumsHold_188 rfl ?_
      refine r_iconst (pc := 190) cx dL_sumsHold_190 ?_
      refine r_ishr (pc := 191) cx dL_sumsHold_191 ?_
      refine r_iconst (pc := 192) cx dL_sumsHold_192 ?_
      refine r_iand (pc := 193) cx dL_sumsHold_193 ?_
      refine r_iload (pc := 194) cx dL_sumsHold_194 rfl ?_
      refine r_iconst (pc := 196) cx dL_sumsHold_196 ?_
      refine r_ishr (pc := 197) cx dL_sumsHold_197 ?_
      refine r_iconst (pc := 198) cx dL_sumsHold_198 ?_
      refine r_iand (pc := 199) cx dL_sumsHold_199 ?_
      refine r_isub (pc := 200) cx dL_sumsHold_200 ?_
      refine r_i2l (pc := 201) cx dL_sumsHold_201 ?_
      refine r_ladd (pc := 202) cx dL_sumsHold_202 ?_
      refine r_nml (fun y15 => ?_)
      refine r_lstore (pc := 203) cx dL_sumsHold_203 (by decide) rfl ?_
      refine r_iload (pc := 205) cx dL_sumsHold_205 rfl ?_
      refine r_if_eq (tgt := 253) cx dL_sumsHold_207 (by decide) ?_ ?_
      · exact qS.sub (qsub_cons rfl (qsub_cons rfl (qsub_cons rfl (qsub_cons rfl (qsub_cons rfl (qsub_cons rfl (qsub_cons rfl (qsub_nil _)))))))) (tL_sumsHold_c253 cx hB h66 h67 h68 hl hk19 _ _ _ _ _ _ _ _)
      · refine r_iload (pc := 210) cx dL_sumsHold_210 rfl ?_
        refine r_iload (pc := 212) cx dL_sumsHold_212 rfl ?_
        refine r_iconst (pc := 214) cx dL_sumsHold_214 ?_
        refine r_ixor (pc := 215) cx dL_sumsHold_215 ?_
        refine r_iand (pc := 216) cx dL_sumsHold_216 ?_
        refine r_if_ne (tgt := 253) cx dL_sumsHold_217 (by decide) ?_ ?_
        · exact qS.sub (qsub_cons rfl (qsub_cons rfl (qsub_cons rfl (qsub_cons rfl (qsub_cons rfl (qsub_cons rfl (qsub_cons rfl (qsub_nil _)))))))) (tL_sumsHold_c253 cx hB h66 h67 h68 hl hk19 _ _ _ _ _ _ _ _)
        · refine r_iload (pc := 220) cx dL_sumsHold_220 rfl ?_
          refine r_if_eq (tgt := 230) cx dL_sumsHold_222 (by decide) ?_ ?_
          · exact qS.sub (qsub_cons rfl (qsub_cons rfl (qsub_cons rfl (qsub_cons rfl (qsub_cons rfl (qsub_cons rfl (qsub_cons rfl (qsub_cons rfl (qsub_nil _))))))))) (tL_sumsHold_c230 cx hB h66 h67 h68 hl hk19 _ _ _ _ _ _ _ _ _)
          · refine r_iload (pc := 225) cx dL_sumsHold_225 rfl ?_
            refine r_if_ne (tgt := 253) cx dL_sumsHold_227 (by decide) ?_ ?_
            · exact qS.sub (qsub_cons rfl (qsub_cons rfl (qsub_cons rfl (qsub_cons rfl (qsub_cons rfl (qsub_cons rfl (qsub_cons rfl (qsub_nil _)))))))) (tL_sumsHold_c253 cx hB h66 h67 h68 hl hk19 _ _ _ _ _ _ _ _)
            · exact qS.sub (qsub_cons rfl (qsub_cons rfl (qsub_cons rfl (qsub_cons rfl (qsub_cons rfl (qsub_cons rfl (qsub_cons rfl (qsub_cons rfl (qsub_nil _))))))))) (tL_sumsHold_c230 cx hB h66 h67 h68 hl hk19 _ _ _ _ _ _ _ _ _)
    · refine r_lload_n (pc := 79) cx dL_sumsHold_79 rfl ?_
      refine r_iload (pc := 80) cx dL_sumsHold_80 rfl ?_
      refine r_iload (pc := 82) cx dL_sumsHold_82 rfl ?_
      refine r_ishr (pc := 84) cx dL_sumsHold_84 ?_
      refine r_iconst (pc := 85) cx dL_sumsHold_85 ?_
      refine r_iand (pc := 86) cx dL_sumsHold_86 ?_
      refine r_i2l (pc := 87) cx dL_sumsHold_87 ?_
      refine r_ladd (pc := 88) cx dL_sumsHold_88 ?_
      refine r_nml (fun y16 => ?_)
      refine r_lstore_n (pc := 89) cx dL_sumsHold_89 (by decide) rfl ?_
      refine r_lload_n (pc := 90) cx dL_sumsHold_90 rfl ?_
      refine r_iload (pc := 91) cx dL_sumsHold_91 rfl ?_
      refine r_iload (pc := 93) cx dL_sumsHold_93 rfl ?_
      refine r_ishr (pc := 95) cx dL_sumsHold_95 ?_
      refine r_iconst (pc := 96) cx dL_sumsHold_96 ?_
      refine r_iand (pc := 97) cx dL_sumsHold_97 ?_
      refine r_i2l (pc := 98) cx dL_sumsHold_98 ?_
      refine r_ladd (pc := 99) cx dL_sumsHold_99 ?_
      refine r_nml (fun y17 => ?_)
      refine r_lstore_n (pc := 100) cx dL_sumsHold_100 (by decide) rfl ?_
      refine r_lload (pc := 101) cx dL_sumsHold_101 rfl ?_
      refine r_aload_n (pc := 103) cx dL_sumsHold_103 rfl ?_
      refine r_iload (pc := 104) cx dL_sumsHold_104 rfl ?_
      refine r_iconst (pc := 106) cx dL_sumsHold_106 ?_
      refine r_iload (pc := 107) cx dL_sumsHold_107 rfl ?_
      refine r_iadd (pc := 109) cx dL_sumsHold_109 ?_
      refine r_wj (pc := 110) (nb := 0) (k := kc) (mc := 1) (Mx := 3000) cx (tL_cellOf hB h66 h67 h68 hl x12 (4 + x16) σ) qmh_L_cellOf wm_L_101 dL_sumsHold_110 rfl rfl (Nat.le_of_ble_eq_true rfl) ⟨Nat.le_of_ble_eq_true rfl, Nat.le_of_ble_eq_true rfl⟩ ⟨Nat.le_of_ble_eq_true rfl, Nat.le_of_ble_eq_true rfl⟩ ⟨Nat.le_of_ble_eq_true rfl, Nat.le_of_ble_eq_true rfl⟩ (by omega) (fun r110 σ18 => ?_)
      refine r_ladd (pc := 113) cx dL_sumsHold_113 ?_
      refine r_nml (fun y19 => ?_)
      refine r_lstore (pc := 114) cx dL_sumsHold_114 (by decide) rfl ?_
      refine r_iload (pc := 116) cx dL_sumsHold_116 rfl ?_
      refine r_if_eq (tgt := 160) cx dL_sumsHold_118 (by decide) ?_ ?_
      · exact qS.sub (qsub_cons rfl (qsub_cons rfl (qsub_cons rfl (qsub_cons rfl (qsub_cons rfl (qsub_cons rfl (qsub_cons rfl (qsub_cons rfl (qsub_cons rfl (qsub_cons rfl (qsub_cons rfl (qsub_nil _)))))))))))) (tL_sumsHold_c160 cx hB h66 h67 h68 hl hk19 ih _ _ _ _ _ _ _ _ _ _ _ _)
      · refine r_iload (pc := 121) cx dL_sumsHold_121 rfl ?_
        refine r_if_eq (tgt := 141) cx dL_sumsHold_123 (by decide) ?_ ?_
        · exact qS.sub (qsub_cons rfl (qsub_cons rfl (qsub_cons rfl (qsub_cons rfl (qsub_cons rfl (qsub_cons rfl (qsub_cons rfl (qsub_cons rfl (qsub_cons rfl (qsub_cons rfl (qsub_cons rfl (qsub_nil _)))))))))))) (tL_sumsHold_c141 cx hB h66 h67 h68 hl hk19 ih _ _ _ _ _ _ _ _ _ _ _ _)
        · refine r_aload_n (pc := 126) cx dL_sumsHold_126 rfl ?_
          refine r_iload (pc := 127) cx dL_sumsHold_127 rfl ?_
          refine r_iconst (pc := 129) cx dL_sumsHold_129 ?_
          refine r_iload (pc := 130) cx dL_sumsHold_130 rfl ?_
          refine r_iadd (pc := 132) cx dL_sumsHold_132 ?_
          refine r_wj (pc := 133) (nb := 0) (k := (kc + 1)) (mc := 1) (Mx := 3000) cx (tL_cellOf hB h66 h67 h68 hl x12 (4 + x16) σ18) qmh_L_cellOf wm_L_101 dL_sumsHold_133 rfl rfl (Nat.le_of_ble_eq_true rfl) ⟨Nat.le_of_ble_eq_true rfl, Nat.le_of_ble_eq_true rfl⟩ ⟨Nat.le_of_ble_eq_true rfl, Nat.le_of_ble_eq_true rfl⟩ ⟨Nat.le_of_ble_eq_true rfl, Nat.le_of_ble_eq_true rfl⟩ (by omega) (fun r133 σ20 => ?_)
          refine r_lconst (pc := 136) (z := 0) cx dL_sumsHold_136 (by decide +kernel) ?_
          refine r_lcmp (pc := 137) cx dL_sumsHold_137 ?_
          refine r_if_ne (tgt := 160) cx dL_sumsHold_138 (by decide) ?_ ?_
          · exact qS.sub (qsub_cons rfl (qsub_cons rfl (qsub_cons rfl (qsub_cons rfl (qsub_cons rfl (qsub_cons rfl (qsub_cons rfl (qsub_cons rfl (qsub_cons rfl (qsub_cons rfl (qsub_cons rfl (qsub_nil _)))))))))))) (tL_sumsHold_c160 cx hB h66 h67 h68 hl hk19 ih _ _ _ _ _ _ _ _ _ _ _ _)
          · exact qS.sub (qsub_cons rfl (qsub_cons rfl (qsub_cons rfl (qsub_cons rfl (qsub_cons rfl (qsub_cons rfl (qsub_cons rfl (qsub_cons rfl (qsub_cons rfl (qsub_cons rfl (qsub_cons rfl (qsub_nil _)))))))))))) (tL_sumsHold_c141 cx hB h66 h67 h68 hl hk19 ih _ _ _ _ _ _ _ _ _ _ _ _)
def fL_sumsHold_c68 (k19 : Nat → Int → Int → Int → Int → Int → Int → Int → qSt → Option (Int × qSt)) (kc : Nat) (x1 : Int) (x3 : Int) (x5 : Int) (x7 : Int) (x9 : Int) (x11 : Int) (x12 : Int) (x13 : Int) (x14 : Int) (s0 : Int) (σ : qSt) : Option (Int × qSt) :=
  (fL_sumsHold_c73 k19 qFU kc x1 x3 x5 x7 x9 x11 x12 x13 x14 s0 0 σ)
set_option maxRecDepth 100000 in
set_option maxHeartbeats 4000000 in
theorem tL_sumsHold_c68 {p : Program} {l : Launch} {e : Env} {s : State} {m : MethodId} {args : Array Value} {below : List Frame} {meth : Method} {c : Code} {z0 : Nat} {g : qG} {w : qWd} {ad : Nat → Nat} (cx : qCx p s m meth c cL_sumsHold 17 RL (some .boolean) g z0) (hB : qBC g ad w) (h66 : w 66 = none) (h67 : w 67 = none) (h68 : w 68 = none) (hl : l.stackTraces = false) {k19 : Nat → Int → Int → Int → Int → Int → Int → Int → qSt → Option (Int × qSt)} (hk19 : ∀ (kc : Nat) (x1 : Int) (x3 : Int) (x5 : Int) (x7 : Int) (x9 : Int) (x11 : Int) (x12 : Int) (σ : qSt), qS p l e (qrk 9 3000 18000) s m args below meth c 17 g z0 w kc (0 + 6 * kc) (qQ below g z0 w qri args s 3000 18000) (k19 kc x1 x3 x5 x7 x9 x11 x12 σ) σ 19 [(0, some (.ref (ad 0))), (1, some (.long (qJ x1))), (3, some (.long (qJ x3))), (5, some (.long (qJ x5))), (7, some (.long (qJ x7))), (9, some (.long (qJ x9))), (11, some (.int (qI x11))), (12, some (.int (qI x12)))] []) (kc : Nat) (x1 : Int) (x3 : Int) (x5 : Int) (x7 : Int) (x9 : Int) (x11 : Int) (x12 : Int) (x13 : Int) (x14 : Int) (s0 : Int) (σ : qSt) : qS p l e (qrk 9 3000 18000) s m args below meth c 17 g z0 w kc (0 + 6 * kc) (qQ below g z0 w qri args s 3000 18000) (fL_sumsHold_c68 k19 kc x1 x3 x5 x7 x9 x11 x12 x13 x14 s0 σ) σ 68 [(0, some (.ref (ad 0))), (1, some (.long (qJ x1))), (3, some (.long (qJ x3))), (5, some (.long (qJ x5))), (7, some (.long (qJ x7))), (9, some (.long (qJ x9))), (11, some (.int (qI x11))), (12, some (.int (qI x12))), (13, some (.int (qI x13))), (14, some (.int (qI x14)))] [.int (qI s0)] := by
  unfold fL_sumsHold_c68
  refine r_istore (pc := 68) cx dL_sumsHold_68 (by decide) rfl ?_
  refine r_iconst (pc := 70) cx dL_sumsHold_70 ?_
  refine r_istore (pc := 71) cx dL_sumsHold_71 (by decide) rfl ?_
  exact qS.sub (qsub_cons rfl (qsub_cons rfl (qsub_cons rfl (qsub_cons rfl (qsub_cons rfl (qsub_cons rfl (qsub_cons rfl (qsub_cons rfl (qsub_cons rfl (qsub_cons rfl (qsub_cons rfl (qsub_cons rfl (qsub_nil _))))))))))))) (tL_sumsHold_c73 cx hB h66 h67 h68 hl hk19 _ _ _ _ _ _ _ _ _ _ _ _ _ _)
def fL_sumsHold_c19 : Nat → Nat → Int → Int → Int → Int → Int → Int → Int → qSt → Option (Int × qSt)
  | 0, _, _, _, _, _, _, _, _, _ => none
  | f + 1, kc, x1, x3, x5, x7, x9, x11, x12, σ => (qif (kc + 3 ≤ 3000) (if qI 96 ≤ qI x12 then (fL_sumsHold_c262 kc x1 x3 x5 x7 x9 x11 σ) else (if qI x11 = 0 then (fL_sumsHold_c262 kc x1 x3 x5 x7 x9 x11 σ) else (qbd (fL_cellOf x12 2 σ) fun (r35 : Int) (σ1 : qSt) => (qb (ql2i r35) fun (y2 : Int) => (qbd (fL_cellOf x12 3 σ1) fun (r45 : Int) (σ3 : qSt) => (qb (ql2i r45) fun (y4 : Int) => (qbd (fL_cellOf x12 0 σ3) fun (r55 : Int) (σ5 : qSt) => (if qI (qlcmp r55 1) = 0 then (fL_sumsHold_c68 (fL_sumsHold_c19 f) (((kc + 1) + 1) + 1) x1 x3 x5 x7 x9 x11 x12 y2 y4 1 σ5) else (fL_sumsHold_c68 (fL_sumsHold_c19 f) (((kc + 1) + 1) + 1) x1 x3 x5 x7 x9 x11 x12 y2 y4 0 σ5))))))))))
set_option maxRecDepth 100000 in
set_option maxHeartbeats 4000000 in
theorem tL_sumsHold_c19 {p : Program} {l : Launch} {e : Env} {s : State} {m : MethodId} {args : Array Value} {below : List Frame} {meth : Method} {c : Code} {z0 : Nat} {g : qG} {w : qWd} {ad : Nat → Nat} (cx : qCx p s m meth c cL_sumsHold 17 RL (some .boolean) g z0) (hB : qBC g ad w) (h66 : w 66 = none) (h67 : w 67 = none) (h68 : w 68 = none) (hl : l.stackTraces = false) : ∀ (f : Nat) (kc : Nat) (x1 : Int) (x3 : Int) (x5 : Int) (x7 : Int) (x9 : Int) (x11 : Int) (x12 : Int) (σ : qSt), qS p l e (qrk 9 3000 18000) s m args below meth c 17 g z0 w kc (0 + 6 * kc) (qQ below g z0 w qri args s 3000 18000) (fL_sumsHold_c19 f kc x1 x3 x5 x7 x9 x11 x12 σ) σ 19 [(0, some (.ref (ad 0))), (1, some (.long (qJ x1))), (3, some (.long (qJ x3))), (5, some (.long (qJ x5))), (7, some (.long (qJ x7))), (9, some (.long (qJ x9))), (11, some (.int (qI x11))), (12, some (.int (qI x12)))] [] := by
  intro f
  induction f with
  | zero => exact fun _ _ _ _ _ _ _ _ _ => qS.fail
  | succ f ih =>
    intro kc x1 x3 x5 x7 x9 x11 x12 σ
    unfold fL_sumsHold_c19
    refine r_qif (fun hkc => ?_)
    refine r_iload (pc := 19) cx dL_sumsHold_19 rfl ?_
    refine r_bipush (pc := 21) (v := 96) cx dL_sumsHold_21 (by decide +kernel) ?_
    refine r_icmp_ge (tgt := 262) cx dL_sumsHold_23 (by decide) ?_ ?_
    · exact qS.sub (qsub_cons rfl (qsub_cons rfl (qsub_cons rfl (qsub_cons rfl (qsub_cons rfl (qsub_cons rfl (qsub_cons rfl (qsub_nil _)))))))) (tL_sumsHold_c262 cx hB h66 h67 h68 hl _ _ _ _ _ _ _ _)
    · refine r_iload (pc := 26) cx dL_sumsHold_26 rfl ?_
      refine r_if_eq (tgt := 262) cx dL_sumsHold_28 (by decide) ?_ ?_
      · exact qS.sub (qsub_cons rfl (qsub_cons rfl (qsub_cons rfl (qsub_cons rfl (qsub_cons rfl (qsub_cons rfl (qsub_cons rfl (qsub_nil _)))))))) (tL_sumsHold_c262 cx hB h66 h67 h68 hl _ _ _ _ _ _ _ _)
      · refine r_aload_n (pc := 31) cx dL_sumsHold_31 rfl ?_
        refine r_iload (pc := 32) cx dL_sumsHold_32 rfl ?_
        refine r_iconst (pc := 34) cx dL_sumsHold_34 ?_
        refine r_wj (pc := 35) (nb := 0) (k := kc) (mc := 1) (Mx := 3000) cx (tL_cellOf hB h66 h67 h68 hl x12 2 σ) qmh_L_cellOf wm_L_101 dL_sumsHold_35 rfl rfl (Nat.le_of_ble_eq_true rfl) ⟨Nat.le_of_ble_eq_true rfl, Nat.le_of_ble_eq_true rfl⟩ ⟨Nat.le_of_ble_eq_true rfl, Nat.le_of_ble_eq_true rfl⟩ ⟨Nat.le_of_ble_eq_true rfl, Nat.le_of_ble_eq_true rfl⟩ (by omega) (fun r35 σ1 => ?_)
        refine r_l2i (pc := 38) cx dL_sumsHold_38 ?_
        refine r_nmi (fun y2 => ?_)
        refine r_istore (pc := 39) cx dL_sumsHold_39 (by decide) rfl ?_
        refine r_aload_n (pc := 41) cx dL_sumsHold_41 rfl ?_
        refine r_iload (pc := 42) cx dL_sumsHold_42 rfl ?_
        refine r_iconst (pc := 44) cx dL_sumsHold_44 ?_
        refine r_wj (pc := 45) (nb := 0) (k := (kc + 1)) (mc := 1) (Mx := 3000) cx (tL_cellOf hB h66 h67 h68 hl x12 3 σ1) qmh_L_cellOf wm_L_101 dL_sumsHold_45 rfl rfl (Nat.le_of_ble_eq_true rfl) ⟨Nat.le_of_ble_eq_true rfl, Nat.le_of_ble_eq_true rfl⟩ ⟨Nat.le_of_ble_eq_true rfl, Nat.le_of_ble_eq_true rfl⟩ ⟨Nat.le_of_ble_eq_true rfl, Nat.le_of_ble_eq_true rfl⟩ (by omega) (fun r45 σ3 => ?_)
        refine r_l2i (pc := 48) cx dL_sumsHold_48 ?_
        refine r_nmi (fun y4 => ?_)
        refine r_istore (pc := 49) cx dL_sumsHold_49 (by decide) rfl ?_
        refine r_aload_n (pc := 51) cx dL_sumsHold_51 rfl ?_
        refine r_iload (pc := 52) cx dL_sumsHold_52 rfl ?_
        refine r_iconst (pc := 54) cx dL_sumsHold_54 ?_
        refine r_wj (pc := 55) (nb := 0) (k := ((kc + 1) + 1)) (mc := 1) (Mx := 3000) cx (tL_cellOf hB h66 h67 h68 hl x12 0 σ3) qmh_L_cellOf wm_L_101 dL_sumsHold_55 rfl rfl (Nat.le_of_ble_eq_true rfl) ⟨Nat.le_of_ble_eq_true rfl, Nat.le_of_ble_eq_true rfl⟩ ⟨Nat.le_of_ble_eq_true rfl, Nat.le_of_ble_eq_true rfl⟩ ⟨Nat.le_of_ble_eq_true rfl, Nat.le_of_ble_eq_true rfl⟩ (by omega) (fun r55 σ5 => ?_)
        refine r_lconst (pc := 58) (z := 1) cx dL_sumsHold_58 (by decide +kernel) ?_
        refine r_lcmp (pc := 59) cx dL_sumsHold_59 ?_
        refine r_if_ne (tgt := 67) cx dL_sumsHold_60 (by decide) ?_ ?_
        · refine r_iconst (pc := 67) cx dL_sumsHold_67 ?_
          exact qS.sub (qsub_cons rfl (qsub_cons rfl (qsub_cons rfl (qsub_cons rfl (qsub_cons rfl (qsub_cons rfl (qsub_cons rfl (qsub_cons rfl (qsub_cons rfl (qsub_cons rfl (qsub_nil _))))))))))) (tL_sumsHold_c68 cx hB h66 h67 h68 hl ih _ _ _ _ _ _ _ _ _ _ _ _)
        · refine r_iconst (pc := 63) cx dL_sumsHold_63 ?_
          refine r_goto (pc := 64) (tgt := 68) cx dL_sumsHold_64 (by decide) ?_
          exact qS.sub (qsub_cons rfl (qsub_cons rfl (qsub_cons rfl (qsub_cons rfl (qsub_cons rfl (qsub_cons rfl (qsub_cons rfl (qsub_cons rfl (qsub_cons rfl (qsub_cons rfl (qsub_nil _))))))))))) (tL_sumsHold_c68 cx hB h66 h67 h68 hl ih _ _ _ _ _ _ _ _ _ _ _ _)
def fL_sumsHold (σ : qSt) : Option (Int × qSt) :=
  (fL_sumsHold_c19 qFU 0 0 0 0 0 0 1 0 σ)
set_option maxRecDepth 100000 in
set_option maxHeartbeats 4000000 in
theorem tL_sumsHold {l : Launch} {z0 : Nat} {g : qG} {w : qWd} {ad : Nat → Nat} (hB : qBC g ad w) (h66 : w 66 = none) (h67 : w 67 = none) (h68 : w 68 = none) (hl : l.stackTraces = false) (σ : qSt) : qCT l yL_sumsHold cL_sumsHold 17 (some .boolean) (qrk 9 3000 18000) g z0 w [.ref (ad 0)] σ (fL_sumsHold σ) qri := by
  refine qCT.of [(0, some (.ref (ad 0)))] (by decide +kernel) (Nat.le_of_ble_eq_true rfl) rfl ?_
  intro p e s m args below meth c cx
  unfold fL_sumsHold
  refine qS.widen (k2 := 0) (n2 := 0 + 6 * 0) (Nat.le_refl _) (Nat.zero_le _) ?_
  refine r_lconst (pc := 0) (z := 0) cx dL_sumsHold_0 (by decide +kernel) ?_
  refine r_lstore_n (pc := 1) cx dL_sumsHold_1 (by decide) rfl ?_
  refine r_lconst (pc := 2) (z := 0) cx dL_sumsHold_2 (by decide +kernel) ?_
  refine r_lstore_n (pc := 3) cx dL_sumsHold_3 (by decide) rfl ?_
  refine r_lconst (pc := 4) (z := 0) cx dL_sumsHold_4 (by decide +kernel) ?_
  refine r_lstore (pc := 5) cx dL_sumsHold_5 (by decide) rfl ?_
  refine r_lconst (pc := 7) (z := 0) cx dL_sumsHold_7 (by decide +kernel) ?_
  refine r_lstore (pc := 8) cx dL_sumsHold_8 (by decide) rfl ?_
  refine r_lconst (pc := 10) (z := 0) cx dL_sumsHold_10 (by decide +kernel) ?_
  refine r_lstore (pc := 11) cx dL_sumsHold_11 (by decide) rfl ?_
  refine r_iconst (pc := 13) cx dL_sumsHold_13 ?_
  refine r_istore (pc := 14) cx dL_sumsHold_14 (by decide) rfl ?_
  refine r_iconst (pc := 16) cx dL_sumsHold_16 ?_
  refine r_istore (pc := 17) cx dL_sumsHold_17 (by decide) rfl ?_
  exact qS.sub (qsub_cons rfl (qsub_cons rfl (qsub_cons rfl (qsub_cons rfl (qsub_cons rfl (qsub_cons rfl (qsub_cons rfl (qsub_cons rfl (qsub_nil _))))))))) (tL_sumsHold_c19 cx hB h66 h67 h68 hl _ _ _ _ _ _ _ _ _ _)
