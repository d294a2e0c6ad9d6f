def f_law_c0 (sc : Nat → Int32) (L : Nat) (i : Int32) (M : xM) : Option xM := if x_in (i + (1 : Int32)) L = true then (f_L_addCustomer (sc (i + (1 : Int32)).toNatClampNeg) M).bind fun q2 => if x_in (i + (1 : Int32)) L = true then (f_X7_addCustomer (sc (i + (1 : Int32)).toNatClampNeg) q2.2).bind fun q5 => (f_X7_thrown q5.2).bind fun q7 => (if q7 = q2.1 then (if q2.1 = 0 then (if (lg_cmp q5.2.2.2.1 q5.1.toInt64) = 0 then some q5.2 else none) else some q5.2) else none) else none else none
set_option maxHeartbeats 4000000 in
set_option maxRecDepth 100000 in
theorem t_law_c0 {G : xG} {p : Program} {l : Launch} {e : Env} {s : State} {m : MethodId} {args : Array Value} {below : List Frame} {meth : Method} {c : Code} {Q : State → Prop} {b L : Nat} {sc : Nat → Int32} (C : xC G p s m args c cL_law 9 wsL_law RL) (hfl : l.stackTraces = false) (X : xLw G s b L sc) {i : Int32} {M M9 : xM} {ta : Nat × Nat} {k0 n0 : Nat} (hk0 : k0 + 54 ≤ 603072) (hn0 : n0 + 7600 ≤ 7166058) (hf : f_law_c0 sc L i M = some M9) (kk : ∀ ta2, xW G p l e room_1 s m args below meth c 9 Q (k0 + 54) (n0 + 7600) ta2 M9 2752 [(0, .ref b), (1, .ref (xad G 0)), (2, .ref (xad G 9)), (3, .ref (xad G 20)), (4, .ref (xad G 21)), (5, .int i)] []) : xW G p l e room_1 s m args below meth c 9 Q k0 n0 ta M 276 [(0, .ref b), (1, .ref (xad G 0)), (2, .ref (xad G 9)), (3, .ref (xad G 20)), (4, .ref (xad G 21)), (5, .int i)] [] := by
  unfold f_law_c0 at hf
  refine x_aload_n C 1 dL_law_276 rfl ?_
  refine x_aload_n C 0 dL_law_277 rfl ?_
  refine x_iload C 5 dL_law_278 rfl ?_
  refine x_iconst (v := 1) C dL_law_280 (by decide) ?_
  refine x_iadd C dL_law_281 ?_
  obtain ⟨g1, hf⟩ := x_gd hf
  refine x_sald C X g1 dL_law_282 ?_
  refine x_aload_n C 3 dL_law_283 rfl ?_
  obtain ⟨q2, hg, hf⟩ := x_bd hf
  refine x_callSWr C (t_L_addCustomer hfl hg) (vx_cwSW 3 C.1.2.2.2.2 gL_law_L_addCustomer rfl rfl rfl (by decide +kernel) ⟨Nat.le_of_ble_eq_true rfl, Nat.le_of_ble_eq_true rfl⟩) rfl rfl (Nat.le_of_ble_eq_true rfl) dL_law_284 ⟨by show _ ≤ (603072 : Nat); omega, by show _ ≤ (7166058 : Nat); omega⟩ (fun ta3 => ?_)
  clear hg
  refine x_istore (lv' := [(6, .int q2.1), (0, .ref b), (1, .ref (xad G 0)), (2, .ref (xad G 9)), (3, .ref (xad G 20)), (4, .ref (xad G 21)), (5, .int i)]) C dL_law_287 (by decide) rfl ?_
  refine x_aload_n C 3 dL_law_289 rfl ?_
  refine x_aload_n C 1 dL_law_290 rfl ?_
  refine x_iload C 6 dL_law_291 rfl ?_
  refine x_iconst (v := 1) C dL_law_293 (by decide) ?_
  refine x_iadd C dL_law_294 ?_
  obtain ⟨g4, hf⟩ := x_gd hf
  refine x_sald C X g4 dL_law_295 ?_
  obtain ⟨q5, hg, hf⟩ := x_bd hf
  refine x_callVr C (by rw [xkd_9]; decide) (by rw [xkd_9]; decide) (xc9 xkd_9) rfl (t_X7_addCustomer hg) (cwV 1 C.1.2.2.2.2 gL_law_X7_addCustomer rfl rfl rfl (by decide +kernel) ⟨Nat.le_of_ble_eq_true rfl, Nat.le_of_ble_eq_true rfl⟩) rfl rfl (Nat.le_of_ble_eq_true rfl) dL_law_296 ⟨by show _ ≤ (603072 : Nat); omega, by show _ ≤ (7166058 : Nat); omega⟩ (fun ta6 => ?_)
  clear hg
  refine x_istore (lv' := [(7, .int q5.1), (6, .int q2.1), (0, .ref b), (1, .ref (xad G 0)), (2, .ref (xad G 9)), (3, .ref (xad G 20)), (4, .ref (xad G 21)), (5, .int i)]) C dL_law_299 (by decide) rfl ?_
  refine x_aload_n C 4 dL_law_301 rfl ?_
  obtain ⟨q7, hg, hf⟩ := x_bd hf
  refine x_callVr C (by rw [xkd_9]; decide) (by rw [xkd_9]; decide) (xc9 xkd_9) rfl (t_X7_thrown hg) (cwV 0 C.1.2.2.2.2 gL_law_X7_thrown rfl rfl rfl (by decide +kernel) ⟨Nat.le_of_ble_eq_true rfl, Nat.le_of_ble_eq_true rfl⟩) rfl rfl (Nat.le_of_ble_eq_true rfl) dL_law_302 ⟨by show _ ≤ (603072 : Nat); omega, by show _ ≤ (7166058 : Nat); omega⟩ (fun ta8 => ?_)
  clear hg
  refine x_iload C 1 dL_law_305 rfl ?_
  refine x_icmp_eq C 312 dL_law_307 (by decide) (fun hc9 => ?_) (fun hc9 => ?_)
  · have hf := x_ip hc9 hf
    refine x_iload C 1 dL_law_312 rfl ?_
    refine x_if_ne C 329 dL_law_314 (by decide) (fun hc10 => ?_) (fun hc10 => ?_)
    · have hf := x_ine hc10 hf
      refine x_goto C 2752 dL_law_329 (by decide) ?_
      obtain rfl := Option.some.inj hf
      refine x_widen (k' := k0 + 54) (n' := n0 + 7600) (by omega) (by omega) ?_
      refine x_sub [2, 3, 4, 5, 6, 7] rfl ?_
      exact kk _
    · have hf := x_ip hc10 hf
      refine x_aload_n C 5 dL_law_317 rfl ?_
      refine x_iconst (v := 0) C dL_law_318 (by decide) ?_
      refine x_lald C dL_law_319 ?_
      refine x_iload C 0 dL_law_320 rfl ?_
      refine x_i2l (v := q5.1.toInt64) C dL_law_322 rfl ?_
      refine x_lcmp C dL_law_323 ?_
      refine x_if_eq C 329 dL_law_324 (by decide) (fun hc11 => ?_) (fun hc11 => ?_)
      · have hf := x_ip hc11 hf
        refine x_goto C 2752 dL_law_329 (by decide) ?_
        obtain rfl := Option.some.inj hf
        refine x_widen (k' := k0 + 54) (n' := n0 + 7600) (by omega) (by omega) ?_
        refine x_sub [2, 3, 4, 5, 6, 7] rfl ?_
        exact kk _
      · have hf := x_ine hc11 hf
        cases hf
  · have hf := x_ine hc9 hf
    cases hf
def f_law_c1 (sc : Nat → Int32) (L : Nat) (i : Int32) (M : xM) : Option xM := if x_in (i + (1 : Int32)) L = true then if x_in (i + (2 : Int32)) L = true then if x_in (i + (3 : Int32)) L = true then (f_L_openWindow (sc (i + (1 : Int32)).toNatClampNeg) (sc (i + (2 : Int32)).toNatClampNeg) (sc (i + (3 : Int32)).toNatClampNeg) M).bind fun q4 => if x_in (i + (1 : Int32)) L = true then if x_in (i + (2 : Int32)) L = true then if x_in (i + (3 : Int32)) L = true then (f_X7_openWindow (sc (i + (1 : Int32)).toNatClampNeg) (sc (i + (2 : Int32)).toNatClampNeg) (sc (i + (3 : Int32)).toNatClampNeg) q4.2).bind fun q9 => (f_X7_thrown q9.2).bind fun q11 => (if q11 = q4.1 then (if q4.1 = 0 then (if (lg_cmp q9.2.2.2.1 q9.1.toInt64) = 0 then some q9.2 else none) else some q9.2) else none) else none else none else none else none else none else none
set_option maxHeartbeats 4000000 in
set_option maxRecDepth 100000 in
theorem t_law_c1 {G : xG} {p : Program} {l : Launch} {e : Env} {s : State} {m : MethodId} {args : Array Value} {below : List Frame} {meth : Method} {c : Code} {Q : State → Prop} {b L : Nat} {sc : Nat → Int32} (C : xC G p s m args c cL_law 9 wsL_law RL) (hfl : l.stackTraces = false) (X : xLw G s b L sc) {i : Int32} {M M9 : xM} {ta : Nat × Nat} {k0 n0 : Nat} (hk0 : k0 + 54 ≤ 603072) (hn0 : n0 + 7600 ≤ 7166058) (hf : f_law_c1 sc L i M = some M9) (kk : ∀ ta2, xW G p l e room_1 s m args below meth c 9 Q (k0 + 54) (n0 + 7600) ta2 M9 2752 [(0, .ref b), (1, .ref (xad G 0)), (2, .ref (xad G 9)), (3, .ref (xad G 20)), (4, .ref (xad G 21)), (5, .int i)] []) : xW G p l e room_1 s m args below meth c 9 Q k0 n0 ta M 332 [(0, .ref b), (1, .ref (xad G 0)), (2, .ref (xad G 9)), (3, .ref (xad G 20)), (4, .ref (xad G 21)), (5, .int i)] [] := by
  unfold f_law_c1 at hf
  refine x_aload_n C 1 dL_law_332 rfl ?_
  refine x_aload_n C 0 dL_law_333 rfl ?_
  refine x_iload C 5 dL_law_334 rfl ?_
  refine x_iconst (v := 1) C dL_law_336 (by decide) ?_
  refine x_iadd C dL_law_337 ?_
  obtain ⟨g1, hf⟩ := x_gd hf
  refine x_sald C X g1 dL_law_338 ?_
  refine x_aload_n C 0 dL_law_339 rfl ?_
  refine x_iload C 5 dL_law_340 rfl ?_
  refine x_iconst (v := 2) C dL_law_342 (by decide) ?_
  refine x_iadd C dL_law_343 ?_
  obtain ⟨g2, hf⟩ := x_gd hf
  refine x_sald C X g2 dL_law_344 ?_
  refine x_aload_n C 0 dL_law_345 rfl ?_
  refine x_iload C 5 dL_law_346 rfl ?_
  refine x_iconst (v := 3) C dL_law_348 (by decide) ?_
  refine x_iadd C dL_law_349 ?_
  obtain ⟨g3, hf⟩ := x_gd hf
  refine x_sald C X g3 dL_law_350 ?_
  refine x_aload_n C 3 dL_law_351 rfl ?_
  obtain ⟨q4, hg, hf⟩ := x_bd hf
  refine x_callSWr C (t_L_openWindow hfl hg) (vx_cwSW 5 C.1.2.2.2.2 gL_law_L_openWindow rfl rfl rfl (by decide +kernel) ⟨Nat.le_of_ble_eq_true rfl, Nat.le_of_ble_eq_true rfl⟩) rfl rfl (Nat.le_of_ble_eq_true rfl) dL_law_352 ⟨by show _ ≤ (603072 : Nat); omega, by show _ ≤ (7166058 : Nat); omega⟩ (fun ta5 => ?_)
  clear hg
  refine x_istore (lv' := [(6, .int q4.1), (0, .ref b), (1, .ref (xad G 0)), (2, .ref (xad G 9)), (3, .ref (xad G 20)), (4, .ref (xad G 21)), (5, .int i)]) C dL_law_355 (by decide) rfl ?_
  refine x_aload_n C 3 dL_law_357 rfl ?_
  refine x_aload_n C 1 dL_law_358 rfl ?_
  refine x_iload C 6 dL_law_359 rfl ?_
  refine x_iconst (v := 1) C dL_law_361 (by decide) ?_
  refine x_iadd C dL_law_362 ?_
  obtain ⟨g6, hf⟩ := x_gd hf
  refine x_sald C X g6 dL_law_363 ?_
  refine x_aload_n C 1 dL_law_364 rfl ?_
  refine x_iload C 6 dL_law_365 rfl ?_
  refine x_iconst (v := 2) C dL_law_367 (by decide) ?_
  refine x_iadd C dL_law_368 ?_
  obtain ⟨g7, hf⟩ := x_gd hf
  refine x_sald C X g7 dL_law_369 ?_
  refine x_aload_n C 1 dL_law_370 rfl ?_
  refine x_iload C 6 dL_law_371 rfl ?_
  refine x_iconst (v := 3) C dL_law_373 (by decide) ?_
  refine x_iadd C dL_law_374 ?_
  obtain ⟨g8, hf⟩ := x_gd hf
  refine x_sald C X g8 dL_law_375 ?_
  obtain ⟨q9, hg, hf⟩ := x_bd hf
  refine x_callVr C (by rw [xkd_9]; decide) (by rw [xkd_9]; decide) (xc9 xkd_9) rfl (t_X7_openWindow hg) (cwV 3 C.1.2.2.2.2 gL_law_X7_openWindow rfl rfl rfl (by decide +kernel) ⟨Nat.le_of_ble_eq_true rfl, Nat.le_of_ble_eq_true rfl⟩) rfl rfl (Nat.le_of_ble_eq_true rfl) dL_law_376 ⟨by show _ ≤ (603072 : Nat); omega, by show _ ≤ (7166058 : Nat); omega⟩ (fun ta10 => ?_)
  clear hg
  refine x_istore (lv' := [(7, .int q9.1), (6, .int q4.1), (0, .ref b), (1, .ref (xad G 0)), (2, .ref (xad G 9)), (3, .ref (xad G 20)), (4, .ref (xad G 21)), (5, .int i)]) C dL_law_379 (by decide) rfl ?_
  refine x_aload_n C 4 dL_law_381 rfl ?_
  obtain ⟨q11, hg, hf⟩ := x_bd hf
  refine x_callVr C (by rw [xkd_9]; decide) (by rw [xkd_9]; decide) (xc9 xkd_9) rfl (t_X7_thrown hg) (cwV 0 C.1.2.2.2.2 gL_law_X7_thrown rfl rfl rfl (by decide +kernel) ⟨Nat.le_of_ble_eq_true rfl, Nat.le_of_ble_eq_true rfl⟩) rfl rfl (Nat.le_of_ble_eq_true rfl) dL_law_382 ⟨by show _ ≤ (603072 : Nat); omega, by show _ ≤ (7166058 : Nat); omega⟩ (fun ta12 => ?_)
  clear hg
  refine x_iload C 1 dL_law_385 rfl ?_
  refine x_icmp_eq C 392 dL_law_387 (by decide) (fun hc13 => ?_) (fun hc13 => ?_)
  · have hf := x_ip hc13 hf
    refine x_iload C 1 dL_law_392 rfl ?_
    refine x_if_ne C 409 dL_law_394 (by decide) (fun hc14 => ?_) (fun hc14 => ?_)
    · have hf := x_ine hc14 hf
      refine x_goto C 2752 dL_law_409 (by decide) ?_
      obtain rfl := Option.some.inj hf
      refine x_widen (k' := k0 + 54) (n' := n0 + 7600) (by omega) (by omega) ?_
      refine x_sub [2, 3, 4, 5, 6, 7] rfl ?_
      exact kk _
    · have hf := x_ip hc14 hf
      refine x_aload_n C 5 dL_law_397 rfl ?_
      refine x_iconst (v := 0) C dL_law_398 (by decide) ?_
      refine x_lald C dL_law_399 ?_
      refine x_iload C 0 dL_law_400 rfl ?_
      refine x_i2l (v := q9.1.toInt64) C dL_law_402 rfl ?_
      refine x_lcmp C dL_law_403 ?_
      refine x_if_eq C 409 dL_law_404 (by decide) (fun hc15 => ?_) (fun hc15 => ?_)
      · have hf := x_ip hc15 hf
        refine x_goto C 2752 dL_law_409 (by decide) ?_
        obtain rfl := Option.some.inj hf
        refine x_widen (k' := k0 + 54) (n' := n0 + 7600) (by omega) (by omega) ?_
        refine x_sub [2, 3, 4, 5, 6, 7] rfl ?_
        exact kk _
      · have hf := x_ine hc15 hf
        cases hf
  · have hf := x_ine hc13 hf
    cases hf
def f_law_c2 (sc : Nat → Int32) (L : Nat) (i : Int32) (M : xM) : Option xM := if x_in (i + (1 : Int32)) L = true then (f_L_closeWindow (sc (i + (1 : Int32)).toNatClampNeg) M).bind fun q2 => if x_in (i + (1 : Int32)) L = true then (f_X7_closeWindow (sc (i + (1 : Int32)).toNatClampNeg) q2.2).bind fun q5 => (f_X7_thrown q5.2).bind fun q7 => (if q7 = q2.1 then (if q2.1 = 0 then (if (lg_cmp q5.2.2.2.1 q5.1.toInt64) = 0 then some q5.2 else none) else some q5.2) else none) else none else none
set_option maxHeartbeats 4000000 in
set_option maxRecDepth 100000 in
theorem t_law_c2 {G : xG} {p : Program} {l : Launch} {e : Env} {s : State} {m : MethodId} {args : Array Value} {below : List Frame} {meth : Method} {c : Code} {Q : State → Prop} {b L : Nat} {sc : Nat → Int32} (C : xC G p s m args c cL_law 9 wsL_law RL) (hfl : l.stackTraces = false) (X : xLw G s b L sc) {i : Int32} {M M9 : xM} {ta : Nat × Nat} {k0 n0 : Nat} (hk0 : k0 + 54 ≤ 603072) (hn0 : n0 + 7600 ≤ 7166058) (hf : f_law_c2 sc L i M = some M9) (kk : ∀ ta2, xW G p l e room_1 s m args below meth c 9 Q (k0 + 54) (n0 + 7600) ta2 M9 2752 [(0, .ref b), (1, .ref (xad G 0)), (2, .ref (xad G 9)), (3, .ref (xad G 20)), (4, .ref (xad G 21)), (5, .int i)] []) : xW G p l e room_1 s m args below meth c 9 Q k0 n0 ta M 412 [(0, .ref b), (1, .ref (xad G 0)), (2, .ref (xad G 9)), (3, .ref (xad G 20)), (4, .ref (xad G 21)), (5, .int i)] [] := by
  unfold f_law_c2 at hf
  refine x_aload_n C 1 dL_law_412 rfl ?_
  refine x_aload_n C 0 dL_law_413 rfl ?_
  refine x_iload C 5 dL_law_414 rfl ?_
  refine x_iconst (v := 1) C dL_law_416 (by decide) ?_
  refine x_iadd C dL_law_417 ?_
  obtain ⟨g1, hf⟩ := x_gd hf
  refine x_sald C X g1 dL_law_418 ?_
  refine x_aload_n C 3 dL_law_419 rfl ?_
  obtain ⟨q2, hg, hf⟩ := x_bd hf
  refine x_callSWr C (t_L_closeWindow hfl hg) (vx_cwSW 3 C.1.2.2.2.2 gL_law_L_closeWindow rfl rfl rfl (by decide +kernel) ⟨Nat.le_of_ble_eq_true rfl, Nat.le_of_ble_eq_true rfl⟩) rfl rfl (Nat.le_of_ble_eq_true rfl) dL_law_420 ⟨by show _ ≤ (603072 : Nat); omega, by show _ ≤ (7166058 : Nat); omega⟩ (fun ta3 => ?_)
  clear hg
  refine x_istore (lv' := [(6, .int q2.1), (0, .ref b), (1, .ref (xad G 0)), (2, .ref (xad G 9)), (3, .ref (xad G 20)), (4, .ref (xad G 21)), (5, .int i)]) C dL_law_423 (by decide) rfl ?_
  refine x_aload_n C 3 dL_law_425 rfl ?_
  refine x_aload_n C 1 dL_law_426 rfl ?_
  refine x_iload C 6 dL_law_427 rfl ?_
  refine x_iconst (v := 1) C dL_law_429 (by decide) ?_
  refine x_iadd C dL_law_430 ?_
  obtain ⟨g4, hf⟩ := x_gd hf
  refine x_sald C X g4 dL_law_431 ?_
  obtain ⟨q5, hg, hf⟩ := x_bd hf
  refine x_callVr C (by rw [xkd_9]; decide) (by rw [xkd_9]; decide) (xc9 xkd_9) rfl (t_X7_closeWindow hg) (cwV 1 C.1.2.2.2.2 gL_law_X7_closeWindow rfl rfl rfl (by decide +kernel) ⟨Nat.le_of_ble_eq_true rfl, Nat.le_of_ble_eq_true rfl⟩) rfl rfl (Nat.le_of_ble_eq_true rfl) dL_law_432 ⟨by show _ ≤ (603072 : Nat); omega, by show _ ≤ (7166058 : Nat); omega⟩ (fun ta6 => ?_)
  clear hg
  refine x_istore (lv' := [(7, .int q5.1), (6, .int q2.1), (0, .ref b), (1, .ref (xad G 0)), (2, .ref (xad G 9)), (3, .ref (xad G 20)), (4, .ref (xad G 21)), (5, .int i)]) C dL_law_435 (by decide) rfl ?_
  refine x_aload_n C 4 dL_law_437 rfl ?_
  obtain ⟨q7, hg, hf⟩ := x_bd hf
  refine x_callVr C (by rw [xkd_9]; decide) (by rw [xkd_9]; decide) (xc9 xkd_9) rfl (t_X7_thrown hg) (cwV 0 C.1.2.2.2.2 gL_law_X7_thrown rfl rfl rfl (by decide +kernel) ⟨Nat.le_of_ble_eq_true rfl, Nat.le_of_ble_eq_true rfl⟩) rfl rfl (Nat.le_of_ble_eq_true rfl) dL_law_438 ⟨by show _ ≤ (603072 : Nat); omega, by show _ ≤ (7166058 : Nat); omega⟩ (fun ta8 => ?_)
  clear hg
  refine x_iload C 1 dL_law_441 rfl ?_
  refine x_icmp_eq C 448 dL_law_443 (by decide) (fun hc9 => ?_) (fun hc9 => ?_)
  · have hf := x_ip hc9 hf
    refine x_iload C 1 dL_law_448 rfl ?_
    refine x_if_ne C 465 dL_law_450 (by decide) (fun hc10 => ?_) (fun hc10 => ?_)
    · have hf := x_ine hc10 hf
      refine x_goto C 2752 dL_law_465 (by decide) ?_
      obtain rfl := Option.some.inj hf
      refine x_widen (k' := k0 + 54) (n' := n0 + 7600) (by omega) (by omega) ?_
      refine x_sub [2, 3, 4, 5, 6, 7] rfl ?_
      exact kk _
    · have hf := x_ip hc10 hf
      refine x_aload_n C 5 dL_law_453 rfl ?_
      refine x_iconst (v := 0) C dL_law_454 (by decide) ?_
      refine x_lald C dL_law_455 ?_
      refine x_iload C 0 dL_law_456 rfl ?_
      refine x_i2l (v := q5.1.toInt64) C dL_law_458 rfl ?_
      refine x_lcmp C dL_law_459 ?_
      refine x_if_eq C 465 dL_law_460 (by decide) (fun hc11 => ?_) (fun hc11 => ?_)
      · have hf := x_ip hc11 hf
        refine x_goto C 2752 dL_law_465 (by decide) ?_
        obtain rfl := Option.some.inj hf
        refine x_widen (k' := k0 + 54) (n' := n0 + 7600) (by omega) (by omega) ?_
        refine x_sub [2, 3, 4, 5, 6, 7] rfl ?_
        exact kk _
      · have hf := x_ine hc11 hf
        cases hf
  · have hf := x_ine hc9 hf
    cases hf
def f_law_c3 (sc : Nat → Int32) (L : Nat) (i : Int32) (M : xM) : Option xM := (f_L_callNext M).bind fun q1 => (f_X7_callNext q1.2).bind fun q3 => (f_X7_thrown q3.2).bind fun q5 => (if q5 = q1.1 then (if q1.1 = 0 then (if (lg_cmp q3.2.2.2.1 q3.1.toInt64) = 0 then some q3.2 else none) else some q3.2) else none)
set_option maxHeartbeats 4000000 in
set_option maxRecDepth 100000 in
theorem t_law_c3 {G : xG} {p : Program} {l : Launch} {e : Env} {s : State} {m : MethodId} {args : Array Value} {below : List Frame} {meth : Method} {c : Code} {Q : State → Prop} {b L : Nat} {sc : Nat → Int32} (C : xC G p s m args c cL_law 9 wsL_law RL) (hfl : l.stackTraces = false) (X : xLw G s b L sc) {i : Int32} {M M9 : xM} {ta : Nat × Nat} {k0 n0 : Nat} (hk0 : k0 + 54 ≤ 603072) (hn0 : n0 + 7600 ≤ 7166058) (hf : f_law_c3 sc L i M = some M9) (kk : ∀ ta2, xW G p l e room_1 s m args below meth c 9 Q (k0 + 54) (n0 + 7600) ta2 M9 2752 [(0, .ref b), (1, .ref (xad G 0)), (2, .ref (xad G 9)), (3, .ref (xad G 20)), (4, .ref (xad G 21)), (5, .int i)] []) : xW G p l e room_1 s m args below meth c 9 Q k0 n0 ta M 468 [(0, .ref b), (1, .ref (xad G 0)), (2, .ref (xad G 9)), (3, .ref (xad G 20)), (4, .ref (xad G 21)), (5, .int i)] [] := by
  unfold f_law_c3 at hf
  refine x_aload_n C 1 dL_law_468 rfl ?_
  refine x_aload_n C 3 dL_law_469 rfl ?_
  obtain ⟨q1, hg, hf⟩ := x_bd hf
  refine x_callSWr C (t_L_callNext hfl hg) (vx_cwSW 2 C.1.2.2.2.2 gL_law_L_callNext rfl rfl rfl (by decide +kernel) ⟨Nat.le_of_ble_eq_true rfl, Nat.le_of_ble_eq_true rfl⟩) rfl rfl (Nat.le_of_ble_eq_true rfl) dL_law_470 ⟨by show _ ≤ (603072 : Nat); omega, by show _ ≤ (7166058 : Nat); omega⟩ (fun ta2 => ?_)
  clear hg
  refine x_istore (lv' := [(6, .int q1.1), (0, .ref b), (1, .ref (xad G 0)), (2, .ref (xad G 9)), (3, .ref (xad G 20)), (4, .ref (xad G 21)), (5, .int i)]) C dL_law_473 (by decide) rfl ?_
  refine x_aload_n C 3 dL_law_475 rfl ?_
  obtain ⟨q3, hg, hf⟩ := x_bd hf
  refine x_callVr C (by rw [xkd_9]; decide) (by rw [xkd_9]; decide) (xc9 xkd_9) rfl (t_X7_callNext hg) (cwV 0 C.1.2.2.2.2 gL_law_X7_callNext rfl rfl rfl (by decide +kernel) ⟨Nat.le_of_ble_eq_true rfl, Nat.le_of_ble_eq_true rfl⟩) rfl rfl (Nat.le_of_ble_eq_true rfl) dL_law_476 ⟨by show _ ≤ (603072 : Nat); omega, by show _ ≤ (7166058 : Nat); omega⟩ (fun ta4 => ?_)
  clear hg
  refine x_istore (lv' := [(7, .int q3.1), (6, .int q1.1), (0, .ref b), (1, .ref (xad G 0)), (2, .ref (xad G 9)), (3, .ref (xad G 20)), (4, .ref (xad G 21)), (5, .int i)]) C dL_law_479 (by decide) rfl ?_
  refine x_aload_n C 4 dL_law_481 rfl ?_
  obtain ⟨q5, hg, hf⟩ := x_bd hf
  refine x_callVr C (by rw [xkd_9]; decide) (by rw [xkd_9]; decide) (xc9 xkd_9) rfl (t_X7_thrown hg) (cwV 0 C.1.2.2.2.2 gL_law_X7_thrown rfl rfl rfl (by decide +kernel) ⟨Nat.le_of_ble_eq_true rfl, Nat.le_of_ble_eq_true rfl⟩) rfl rfl (Nat.le_of_ble_eq_true rfl) dL_law_482 ⟨by show _ ≤ (603072 : Nat); omega, by show _ ≤ (7166058 : Nat); omega⟩ (fun ta6 => ?_)
  clear hg
  refine x_iload C 1 dL_law_485 rfl ?_
  refine x_icmp_eq C 492 dL_law_487 (by decide) (fun hc7 => ?_) (fun hc7 => ?_)
  · have hf := x_ip hc7 hf
    refine x_iload C 1 dL_law_492 rfl ?_
    refine x_if_ne C 509 dL_law_494 (by decide) (fun hc8 => ?_) (fun hc8 => ?_)
    · have hf := x_ine hc8 hf
      refine x_goto C 2752 dL_law_509 (by decide) ?_
      obtain rfl := Option.some.inj hf
      refine x_widen (k' := k0 + 54) (n' := n0 + 7600) (by omega) (by omega) ?_
      refine x_sub [2, 3, 4, 5, 6, 7] rfl ?_
      exact kk _
    · have hf := x_ip hc8 hf
      refine x_aload_n C 5 dL_law_497 rfl ?_
      refine x_iconst (v := 0) C dL_law_498 (by decide) ?_
      refine x_lald C dL_law_499 ?_
      refine x_iload C 0 dL_law_500 rfl ?_
      refine x_i2l (v := q3.1.toInt64) C dL_law_502 rfl ?_
      refine x_lcmp C dL_law_503 ?_
      refine x_if_eq C 509 dL_law_504 (by decide) (fun hc9 => ?_) (fun hc9 => ?_)
      · have hf := x_ip hc9 hf
        refine x_goto C 2752 dL_law_509 (by decide) ?_
        obtain rfl := Option.some.inj hf
        refine x_widen (k' := k0 + 54) (n' := n0 + 7600) (by omega) (by omega) ?_
        refine x_sub [2, 3, 4, 5, 6, 7] rfl ?_
        exact kk _
      · have hf := x_ine hc9 hf
        cases hf
  · have hf := x_ine hc7 hf
    cases hf
def f_law_c4 (sc : Nat → Int32) (L : Nat) (i : Int32) (M : xM) : Option xM := if x_in (i + (1 : Int32)) L = true then if x_in (i + (2 : Int32)) L = true then (f_L_swap (sc (i + (1 : Int32)).toNatClampNeg) (sc (i + (2 : Int32)).toNatClampNeg) M).bind fun q3 => if x_in (i + (1 : Int32)) L = true then if x_in (i + (2 : Int32)) L = true then (f_X7_swap (sc (i + (1 : Int32)).toNatClampNeg) (sc (i + (2 : Int32)).toNatClampNeg) q3.2).bind fun q7 => (f_X7_thrown q7.2).bind fun q9 => (if q9 = q3.1 then (if q3.1 = 0 then (if (lg_cmp q7.2.2.2.1 q7.1.toInt64) = 0 then some q7.2 else none) else some q7.2) else none) else none else none else none else none
set_option maxHeartbeats 4000000 in
set_option maxRecDepth 100000 in
theorem t_law_c4 {G : xG} {p : Program} {l : Launch} {e : Env} {s : State} {m : MethodId} {args : Array Value} {below : List Frame} {meth : Method} {c : Code} {Q : State → Prop} {b L : Nat} {sc : Nat → Int32} (C : xC G p s m args c cL_law 9 wsL_law RL) (hfl : l.stackTraces = false) (X : xLw G s b L sc) {i : Int32} {M M9 : xM} {ta : Nat × Nat} {k0 n0 : Nat} (hk0 : k0 + 54 ≤ 603072) (hn0 : n0 + 7600 ≤ 7166058) (hf : f_law_c4 sc L i M = some M9) (kk : ∀ ta2, xW G p l e room_1 s m args below meth c 9 Q (k0 + 54) (n0 + 7600) ta2 M9 2752 [(0, .ref b), (1, .ref (xad G 0)), (2, .ref (xad G 9)), (3, .ref (xad G 20)), (4, .ref (xad G 21)), (5, .int i)] []) : xW G p l e room_1 s m args below meth c 9 Q k0 n0 ta M 512 [(0, .ref b), (1, .ref (xad G 0)), (2, .ref (xad G 9)), (3, .ref (xad G 20)), (4, .ref (xad G 21)), (5, .int i)] [] := by
  unfold f_law_c4 at hf
  refine x_aload_n C 1 dL_law_512 rfl ?_
  refine x_aload_n C 0 dL_law_513 rfl ?_
  refine x_iload C 5 dL_law_514 rfl ?_
  refine x_iconst (v := 1) C dL_law_516 (by decide) ?_
  refine x_iadd C dL_law_517 ?_
  obtain ⟨g1, hf⟩ := x_gd hf
  refine x_sald C X g1 dL_law_518 ?_
  refine x_aload_n C 0 dL_law_519 rfl ?_
  refine x_iload C 5 dL_law_520 rfl ?_
  refine x_iconst (v := 2) C dL_law_522 (by decide) ?_
  refine x_iadd C dL_law_523 ?_
  obtain ⟨g2, hf⟩ := x_gd hf
  refine x_sald C X g2 dL_law_524 ?_
  refine x_aload_n C 3 dL_law_525 rfl ?_
  obtain ⟨q3, hg, hf⟩ := x_bd hf
  refine x_callSWr C (t_L_swap hfl hg) (vx_cwSW 4 C.1.2.2.2.2 gL_law_L_swap rfl rfl rfl (by decide +kernel) ⟨Nat.le_of_ble_eq_true rfl, Nat.le_of_ble_eq_true rfl⟩) rfl rfl (Nat.le_of_ble_eq_true rfl) dL_law_526 ⟨by show _ ≤ (603072 : Nat); omega, by show _ ≤ (7166058 : Nat); omega⟩ (fun ta4 => ?_)
  clear hg
  refine x_istore (lv' := [(6, .int q3.1), (0, .ref b), (1, .ref (xad G 0)), (2, .ref (xad G 9)), (3, .ref (xad G 20)), (4, .ref (xad G 21)), (5, .int i)]) C dL_law_529 (by decide) rfl ?_
  refine x_aload_n C 3 dL_law_531 rfl ?_
  refine x_aload_n C 1 dL_law_532 rfl ?_
  refine x_iload C 6 dL_law_533 rfl ?_
  refine x_iconst (v := 1) C dL_law_535 (by decide) ?_
  refine x_iadd C dL_law_536 ?_
  obtain ⟨g5, hf⟩ := x_gd hf
  refine x_sald C X g5 dL_law_537 ?_
  refine x_aload_n C 1 dL_law_538 rfl ?_
  refine x_iload C 6 dL_law_539 rfl ?_
  refine x_iconst (v := 2) C dL_law_541 (by decide) ?_
  refine x_iadd C dL_law_542 ?_
  obtain ⟨g6, hf⟩ := x_gd hf
  refine x_sald C X g6 dL_law_543 ?_
  obtain ⟨q7, hg, hf⟩ := x_bd hf
  refine x_callVr C (by rw [xkd_9]; decide) (by rw [xkd_9]; decide) (xc9 xkd_9) rfl (t_X7_swap hg) (cwV 2 C.1.2.2.2.2 gL_law_X7_swap rfl rfl rfl (by decide +kernel) ⟨Nat.le_of_ble_eq_true rfl, Nat.le_of_ble_eq_true rfl⟩) rfl rfl (Nat.le_of_ble_eq_true rfl) dL_law_544 ⟨by show _ ≤ (603072 : Nat); omega, by show _ ≤ (7166058 : Nat); omega⟩ (fun ta8 => ?_)
  clear hg
  refine x_istore (lv' := [(7, .int q7.1), (6, .int q3.1), (0, .ref b), (1, .ref (xad G 0)), (2, .ref (xad G 9)), (3, .ref (xad G 20)), (4, .ref (xad G 21)), (5, .int i)]) C dL_law_547 (by decide) rfl ?_
  refine x_aload_n C 4 dL_law_549 rfl ?_
  obtain ⟨q9, hg, hf⟩ := x_bd hf
  refine x_callVr C (by rw [xkd_9]; decide) (by rw [xkd_9]; decide) (xc9 xkd_9) rfl (t_X7_thrown hg) (cwV 0 C.1.2.2.2.2 gL_law_X7_thrown rfl rfl rfl (by decide +kernel) ⟨Nat.le_of_ble_eq_true rfl, Nat.le_of_ble_eq_true rfl⟩) rfl rfl (Nat.le_of_ble_eq_true rfl) dL_law_550 ⟨by show _ ≤ (603072 : Nat); omega, by show _ ≤ (7166058 : Nat); omega⟩ (fun ta10 => ?_)
  clear hg
  refine x_iload C 1 dL_law_553 rfl ?_
  refine x_icmp_eq C 560 dL_law_555 (by decide) (fun hc11 => ?_) (fun hc11 => ?_)
  · have hf := x_ip hc11 hf
    refine x_iload C 1 dL_law_560 rfl ?_
    refine x_if_ne C 577 dL_law_562 (by decide) (fun hc12 => ?_) (fun hc12 => ?_)
    · have hf := x_ine hc12 hf
      refine x_goto C 2752 dL_law_577 (by decide) ?_
      obtain rfl := Option.some.inj hf
      refine x_widen (k' := k0 + 54) (n' := n0 + 7600) (by omega) (by omega) ?_
      refine x_sub [2, 3, 4, 5, 6, 7] rfl ?_
      exact kk _
    · have hf := x_ip hc12 hf
      refine x_aload_n C 5 dL_law_565 rfl ?_
      refine x_iconst (v := 0) C dL_law_566 (by decide) ?_
      refine x_lald C dL_law_567 ?_
      refine x_iload C 0 dL_law_568 rfl ?_
      refine x_i2l (v := q7.1.toInt64) C dL_law_570 rfl ?_
      refine x_lcmp C dL_law_571 ?_
      refine x_if_eq C 577 dL_law_572 (by decide) (fun hc13 => ?_) (fun hc13 => ?_)
      · have hf := x_ip hc13 hf
        refine x_goto C 2752 dL_law_577 (by decide) ?_
        obtain rfl := Option.some.inj hf
        refine x_widen (k' := k0 + 54) (n' := n0 + 7600) (by omega) (by omega) ?_
        refine x_sub [2, 3, 4, 5, 6, 7] rfl ?_
        exact kk _
      · have hf := x_ine hc13 hf
        cases hf
  · have hf := x_ine hc11 hf
    cases hf
def f_law_c5 (sc : Nat → Int32) (L : Nat) (i : Int32) (M : xM) : Option xM := if x_in (i + (1 : Int32)) L = true then (f_L_sit (sc (i + (1 : Int32)).toNatClampNeg) M).bind fun q2 => if x_in (i + (1 : Int32)) L = true then (f_X7_sit (sc (i + (1 : Int32)).toNatClampNeg) q2.2).bind fun q5 => (f_X7_thrown q5.2).bind fun q7 => (if q7 = q2.1 then (if q2.1 = 0 then (if (lg_cmp q5.2.2.2.1 q5.1.toInt64) = 0 then some q5.2 else none) else some q5.2) else none) else none else none
set_option maxHeartbeats 4000000 in
set_option maxRecDepth 100000 in
theorem t_law_c5 {G : xG} {p : Program} {l : Launch} {e : Env} {s : State} {m : MethodId} {args : Array Value} {below : List Frame} {meth : Method} {c : Code} {Q : State → Prop} {b L : Nat} {sc : Nat → Int32} (C : xC G p s m args c cL_law 9 wsL_law RL) (hfl : l.stackTraces = false) (X : xLw G s b L sc) {i : Int32} {M M9 : xM} {ta : Nat × Nat} {k0 n0 : Nat} (hk0 : k0 + 54 ≤ 603072) (hn0 : n0 + 7600 ≤ 7166058) (hf : f_law_c5 sc L i M = some M9) (kk : ∀ ta2, xW G p l e room_1 s m args below meth c 9 Q (k0 + 54) (n0 + 7600) ta2 M9 2752 [(0, .ref b), (1, .ref (xad G 0)), (2, .ref (xad G 9)), (3, .ref (xad G 20)), (4, .ref (xad G 21)), (5, .int i)] []) : xW G p l e room_1 s m args below meth c 9 Q k0 n0 ta M 580 [(0, .ref b), (1, .ref (xad G 0)), (2, .ref (xad G 9)), (3, .ref (xad G 20)), (4, .ref (xad G 21)), (5, .int i)] [] := by
  unfold f_law_c5 at hf
  refine x_aload_n C 1 dL_law_580 rfl ?_
  refine x_aload_n C 0 dL_law_581 rfl ?_
  refine x_iload C 5 dL_law_582 rfl ?_
  refine x_iconst (v := 1) C dL_law_584 (by decide) ?_
  refine x_iadd C dL_law_585 ?_
  obtain ⟨g1, hf⟩ := x_gd hf
  refine x_sald C X g1 dL_law_586 ?_
  refine x_aload_n C 3 dL_law_587 rfl ?_
  obtain ⟨q2, hg, hf⟩ := x_bd hf
  refine x_callSWr C (t_L_sit hfl hg) (vx_cwSW 3 C.1.2.2.2.2 gL_law_L_sit rfl rfl rfl (by decide +kernel) ⟨Nat.le_of_ble_eq_true rfl, Nat.le_of_ble_eq_true rfl⟩) rfl rfl (Nat.le_of_ble_eq_true rfl) dL_law_588 ⟨by show _ ≤ (603072 : Nat); omega, by show _ ≤ (7166058 : Nat); omega⟩ (fun ta3 => ?_)
  clear hg
  refine x_istore (lv' := [(6, .int q2.1), (0, .ref b), (1, .ref (xad G 0)), (2, .ref (xad G 9)), (3, .ref (xad G 20)), (4, .ref (xad G 21)), (5, .int i)]) C dL_law_591 (by decide) rfl ?_
  refine x_aload_n C 3 dL_law_593 rfl ?_
  refine x_aload_n C 1 dL_law_594 rfl ?_
  refine x_iload C 6 dL_law_595 rfl ?_
  refine x_iconst (v := 1) C dL_law_597 (by decide) ?_
  refine x_iadd C dL_law_598 ?_
  obtain ⟨g4, hf⟩ := x_gd hf
  refine x_sald C X g4 dL_law_599 ?_
  obtain ⟨q5, hg, hf⟩ := x_bd hf
  refine x_callVr C (by rw [xkd_9]; decide) (by rw [xkd_9]; decide) (xc9 xkd_9) rfl (t_X7_sit hg) (cwV 1 C.1.2.2.2.2 gL_law_X7_sit rfl rfl rfl (by decide +kernel) ⟨Nat.le_of_ble_eq_true rfl, Nat.le_of_ble_eq_true rfl⟩) rfl rfl (Nat.le_of_ble_eq_true rfl) dL_law_600 ⟨by show _ ≤ (603072 : Nat); omega, by show _ ≤ (7166058 : Nat); omega⟩ (fun ta6 => ?_)
  clear hg
  refine x_istore (lv' := [(7, .int q5.1), (6, .int q2.1), (0, .ref b), (1, .ref (xad G 0)), (2, .ref (xad G 9)), (3, .ref (xad G 20)), (4, .ref (xad G 21)), (5, .int i)]) C dL_law_603 (by decide) rfl ?_
  refine x_aload_n C 4 dL_law_605 rfl ?_
  obtain ⟨q7, hg, hf⟩ := x_bd hf
  refine x_callVr C (by rw [xkd_9]; decide) (by rw [xkd_9]; decide) (xc9 xkd_9) rfl (t_X7_thrown hg) (cwV 0 C.1.2.2.2.2 gL_law_X7_thrown rfl rfl rfl (by decide +kernel) ⟨Nat.le_of_ble_eq_true rfl, Nat.le_of_ble_eq_true rfl⟩) rfl rfl (Nat.le_of_ble_eq_true rfl) dL_law_606 ⟨by show _ ≤ (603072 : Nat); omega, by show _ ≤ (7166058 : Nat); omega⟩ (fun ta8 => ?_)
  clear hg
  refine x_iload C 1 dL_law_609 rfl ?_
  refine x_icmp_eq C 616 dL_law_611 (by decide) (fun hc9 => ?_) (fun hc9 => ?_)
  · have hf := x_ip hc9 hf
    refine x_iload C 1 dL_law_616 rfl ?_
    refine x_if_ne C 633 dL_law_618 (by decide) (fun hc10 => ?_) (fun hc10 => ?_)
    · have hf := x_ine hc10 hf
      refine x_goto C 2752 dL_law_633 (by decide) ?_
      obtain rfl := Option.some.inj hf
      refine x_widen (k' := k0 + 54) (n' := n0 + 7600) (by omega) (by omega) ?_
      refine x_sub [2, 3, 4, 5, 6, 7] rfl ?_
      exact kk _
    · have hf := x_ip hc10 hf
      refine x_aload_n C 5 dL_law_621 rfl ?_
      refine x_iconst (v := 0) C dL_law_622 (by decide) ?_
      refine x_lald C dL_law_623 ?_
      refine x_iload C 0 dL_law_624 rfl ?_
      refine x_i2l (v := q5.1.toInt64) C dL_law_626 rfl ?_
      refine x_lcmp C dL_law_627 ?_
      refine x_if_eq C 633 dL_law_628 (by decide) (fun hc11 => ?_) (fun hc11 => ?_)
      · have hf := x_ip hc11 hf
        refine x_goto C 2752 dL_law_633 (by decide) ?_
        obtain rfl := Option.some.inj hf
        refine x_widen (k' := k0 + 54) (n' := n0 + 7600) (by omega) (by omega) ?_
        refine x_sub [2, 3, 4, 5, 6, 7] rfl ?_
        exact kk _
      · have hf := x_ine hc11 hf
        cases hf
  · have hf := x_ine hc9 hf
    cases hf
def f_law_c6 (sc : Nat → Int32) (L : Nat) (i : Int32) (M : xM) : Option xM := if x_in (i + (1 : Int32)) L = true then (f_L_standUp (sc (i + (1 : Int32)).toNatClampNeg) M).bind fun q2 => if x_in (i + (1 : Int32)) L = true then (f_X7_standUp (sc (i + (1 : Int32)).toNatClampNeg) q2.2).bind fun q5 => (f_X7_thrown q5.2).bind fun q7 => (if q7 = q2.1 then (if q2.1 = 0 then (if (lg_cmp q5.2.2.2.1 q5.1.toInt64) = 0 then some q5.2 else none) else some q5.2) else none) else none else none
set_option maxHeartbeats 4000000 in
set_option maxRecDepth 100000 in
theorem t_law_c6 {G : xG} {p : Program} {l : Launch} {e : Env} {s : State} {m : MethodId} {args : Array Value} {below : List Frame} {meth : Method} {c : Code} {Q : State → Prop} {b L : Nat} {sc : Nat → Int32} (C : xC G p s m args c cL_law 9 wsL_law RL) (hfl : l.stackTraces = false) (X : xLw G s b L sc) {i : Int32} {M M9 : xM} {ta : Nat × Nat} {k0 n0 : Nat} (hk0 : k0 + 54 ≤ 603072) (hn0 : n0 + 7600 ≤ 7166058) (hf : f_law_c6 sc L i M = some M9) (kk : ∀ ta2, xW G p l e room_1 s m args below meth c 9 Q (k0 + 54) (n0 + 7600) ta2 M9 2752 [(0, .ref b), (1, .ref (xad G 0)), (2, .ref (xad G 9)), (3, .ref (xad G 20)), (4, .ref (xad G 21)), (5, .int i)] []) : xW G p l e room_1 s m args below meth c 9 Q k0 n0 ta M 636 [(0, .ref b), (1, .ref (xad G 0)), (2, .ref (xad G 9)), (3, .ref (xad G 20)), (4, .ref (xad G 21)), (5, .int i)] [] := by
  unfold f_law_c6 at hf
  refine x_aload_n C 1 dL_law_636 rfl ?_
  refine x_aload_n C 0 dL_law_637 rfl ?_
  refine x_iload C 5 dL_law_638 rfl ?_
  refine x_iconst (v := 1) C dL_law_640 (by decide) ?_
  refine x_iadd C dL_law_641 ?_
  obtain ⟨g1, hf⟩ := x_gd hf
  refine x_sald C X g1 dL_law_642 ?_
  refine x_aload_n C 3 dL_law_643 rfl ?_
  obtain ⟨q2, hg, hf⟩ := x_bd hf
  refine x_callSWr C (t_L_standUp hfl hg) (vx_cwSW 3 C.1.2.2.2.2 gL_law_L_standUp rfl rfl rfl (by decide +kernel) ⟨Nat.le_of_ble_eq_true rfl, Nat.le_of_ble_eq_true rfl⟩) rfl rfl (Nat.le_of_ble_eq_true rfl) dL_law_644 ⟨by show _ ≤ (603072 : Nat); omega, by show _ ≤ (7166058 : Nat); omega⟩ (fun ta3 => ?_)
  clear hg
  refine x_istore (lv' := [(6, .int q2.1), (0, .ref b), (1, .ref (xad G 0)), (2, .ref (xad G 9)), (3, .ref (xad G 20)), (4, .ref (xad G 21)), (5, .int i)]) C dL_law_647 (by decide) rfl ?_
  refine x_aload_n C 3 dL_law_649 rfl ?_
  refine x_aload_n C 1 dL_law_650 rfl ?_
  refine x_iload C 6 dL_law_651 rfl ?_
  refine x_iconst (v := 1) C dL_law_653 (by decide) ?_
  refine x_iadd C dL_law_654 ?_
  obtain ⟨g4, hf⟩ := x_gd hf
  refine x_sald C X g4 dL_law_655 ?_
  obtain ⟨q5, hg, hf⟩ := x_bd hf
  refine x_callVr C (by rw [xkd_9]; decide) (by rw [xkd_9]; decide) (xc9 xkd_9) rfl (t_X7_standUp hg) (cwV 1 C.1.2.2.2.2 gL_law_X7_standUp rfl rfl rfl (by decide +kernel) ⟨Nat.le_of_ble_eq_true rfl, Nat.le_of_ble_eq_true rfl⟩) rfl rfl (Nat.le_of_ble_eq_true rfl) dL_law_656 ⟨by show _ ≤ (603072 : Nat); omega, by show _ ≤ (7166058 : Nat); omega⟩ (fun ta6 => ?_)
  clear hg
  refine x_istore (lv' := [(7, .int q5.1), (6, .int q2.1), (0, .ref b), (1, .ref (xad G 0)), (2, .ref (xad G 9)), (3, .ref (xad G 20)), (4, .ref (xad G 21)), (5, .int i)]) C dL_law_659 (by decide) rfl ?_
  refine x_aload_n C 4 dL_law_661 rfl ?_
  obtain ⟨q7, hg, hf⟩ := x_bd hf
  refine x_callVr C (by rw [xkd_9]; decide) (by rw [xkd_9]; decide) (xc9 xkd_9) rfl (t_X7_thrown hg) (cwV 0 C.1.2.2.2.2 gL_law_X7_thrown rfl rfl rfl (by decide +kernel) ⟨Nat.le_of_ble_eq_true rfl, Nat.le_of_ble_eq_true rfl⟩) rfl rfl (Nat.le_of_ble_eq_true rfl) dL_law_662 ⟨by show _ ≤ (603072 : Nat); omega, by show _ ≤ (7166058 : Nat); omega⟩ (fun ta8 => ?_)
  clear hg
  refine x_iload C 1 dL_law_665 rfl ?_
  refine x_icmp_eq C 672 dL_law_667 (by decide) (fun hc9 => ?_) (fun hc9 => ?_)
  · have hf := x_ip hc9 hf
    refine x_iload C 1 dL_law_672 rfl ?_
    refine x_if_ne C 689 dL_law_674 (by decide) (fun hc10 => ?_) (fun hc10 => ?_)
    · have hf := x_ine hc10 hf
      refine x_goto C 2752 dL_law_689 (by decide) ?_
      obtain rfl := Option.some.inj hf
      refine x_widen (k' := k0 + 54) (n' := n0 + 7600) (by omega) (by omega) ?_
      refine x_sub [2, 3, 4, 5, 6, 7] rfl ?_
      exact kk _
    · have hf := x_ip hc10 hf
      refine x_aload_n C 5 dL_law_677 rfl ?_
      refine x_iconst (v := 0) C dL_law_678 (by decide) ?_
      refine x_lald C dL_law_679 ?_
      refine x_iload C 0 dL_law_680 rfl ?_
      refine x_i2l (v := q5.1.toInt64) C dL_law_682 rfl ?_
      refine x_lcmp C dL_law_683 ?_
      refine x_if_eq C 689 dL_law_684 (by decide) (fun hc11 => ?_) (fun hc11 => ?_)
      · have hf := x_ip hc11 hf
        refine x_goto C 2752 dL_law_689 (by decide) ?_
        obtain rfl := Option.some.inj hf
        refine x_widen (k' := k0 + 54) (n' := n0 + 7600) (by omega) (by omega) ?_
        refine x_sub [2, 3, 4, 5, 6, 7] rfl ?_
        exact kk _
      · have hf := x_ine hc11 hf
        cases hf
  · have hf := x_ine hc9 hf
    cases hf
def f_law_c7 (sc : Nat → Int32) (L : Nat) (i : Int32) (M : xM) : Option xM := if x_in (i + (1 : Int32)) L = true then (f_L_remove (sc (i + (1 : Int32)).toNatClampNeg) M).bind fun q2 => if x_in (i + (1 : Int32)) L = true then (f_X7_remove (sc (i + (1 : Int32)).toNatClampNeg) q2.2).bind fun q5 => (f_X7_thrown q5.2).bind fun q7 => (if q7 = q2.1 then (if q2.1 = 0 then (if (lg_cmp q5.2.2.2.1 q5.1.toInt64) = 0 then some q5.2 else none) else some q5.2) else none) else none else none
set_option maxHeartbeats 4000000 in
set_option maxRecDepth 100000 in
theorem t_law_c7 {G : xG} {p : Program} {l : Launch} {e : Env} {s : State} {m : MethodId} {args : Array Value} {below : List Frame} {meth : Method} {c : Code} {Q : State → Prop} {b L : Nat} {sc : Nat → Int32} (C : xC G p s m args c cL_law 9 wsL_law RL) (hfl : l.stackTraces = false) (X : xLw G s b L sc) {i : Int32} {M M9 : xM} {ta : Nat × Nat} {k0 n0 : Nat} (hk0 : k0 + 54 ≤ 603072) (hn0 : n0 + 7600 ≤ 7166058) (hf : f_law_c7 sc L i M = some M9) (kk : ∀ ta2, xW G p l e room_1 s m args below meth c 9 Q (k0 + 54) (n0 + 7600) ta2 M9 2752 [(0, .ref b), (1, .ref (xad G 0)), (2, .ref (xad G 9)), (3, .ref (xad G 20)), (4, .ref (xad G 21)), (5, .int i)] []) : xW G p l e room_1 s m args below meth c 9 Q k0 n0 ta M 692 [(0, .ref b), (1, .ref (xad G 0)), (2, .ref (xad G 9)), (3, .ref (xad G 20)), (4, .ref (xad G 21)), (5, .int i)] [] := by
  unfold f_law_c7 at hf
  refine x_aload_n C 1 dL_law_692 rfl ?_
  refine x_aload_n C 0 dL_law_693 rfl ?_
  refine x_iload C 5 dL_law_694 rfl ?_
  refine x_iconst (v := 1) C dL_law_696 (by decide) ?_
  refine x_iadd C dL_law_697 ?_
  obtain ⟨g1, hf⟩ := x_gd hf
  refine x_sald C X g1 dL_law_698 ?_
  refine x_aload_n C 3 dL_law_699 rfl ?_
  obtain ⟨q2, hg, hf⟩ := x_bd hf
  refine x_callSWr C (t_L_remove hfl hg) (vx_cwSW 3 C.1.2.2.2.2 gL_law_L_remove rfl rfl rfl (by decide +kernel) ⟨Nat.le_of_ble_eq_true rfl, Nat.le_of_ble_eq_true rfl⟩) rfl rfl (Nat.le_of_ble_eq_true rfl) dL_law_700 ⟨by show _ ≤ (603072 : Nat); omega, by show _ ≤ (7166058 : Nat); omega⟩ (fun ta3 => ?_)
  clear hg
  refine x_istore (lv' := [(6, .int q2.1), (0, .ref b), (1, .ref (xad G 0)), (2, .ref (xad G 9)), (3, .ref (xad G 20)), (4, .ref (xad G 21)), (5, .int i)]) C dL_law_703 (by decide) rfl ?_
  refine x_aload_n C 3 dL_law_705 rfl ?_
  refine x_aload_n C 1 dL_law_706 rfl ?_
  refine x_iload C 6 dL_law_707 rfl ?_
  refine x_iconst (v := 1) C dL_law_709 (by decide) ?_
  refine x_iadd C dL_law_710 ?_
  obtain ⟨g4, hf⟩ := x_gd hf
  refine x_sald C X g4 dL_law_711 ?_
  obtain ⟨q5, hg, hf⟩ := x_bd hf
  refine x_callVr C (by rw [xkd_9]; decide) (by rw [xkd_9]; decide) (xc9 xkd_9) rfl (t_X7_remove hg) (cwV 1 C.1.2.2.2.2 gL_law_X7_remove rfl rfl rfl (by decide +kernel) ⟨Nat.le_of_ble_eq_true rfl, Nat.le_of_ble_eq_true rfl⟩) rfl rfl (Nat.le_of_ble_eq_true rfl) dL_law_712 ⟨by show _ ≤ (603072 : Nat); omega, by show _ ≤ (7166058 : Nat); omega⟩ (fun ta6 => ?_)
  clear hg
  refine x_istore (lv' := [(7, .int q5.1), (6, .int q2.1), (0, .ref b), (1, .ref (xad G 0)), (2, .ref (xad G 9)), (3, .ref (xad G 20)), (4, .ref (xad G 21)), (5, .int i)]) C dL_law_715 (by decide) rfl ?_
  refine x_aload_n C 4 dL_law_717 rfl ?_
  obtain ⟨q7, hg, hf⟩ := x_bd hf
  refine x_callVr C (by rw [xkd_9]; decide) (by rw [xkd_9]; decide) (xc9 xkd_9) rfl (t_X7_thrown hg) (cwV 0 C.1.2.2.2.2 gL_law_X7_thrown rfl rfl rfl (by decide +kernel) ⟨Nat.le_of_ble_eq_true rfl, Nat.le_of_ble_eq_true rfl⟩) rfl rfl (Nat.le_of_ble_eq_true rfl) dL_law_718 ⟨by show _ ≤ (603072 : Nat); omega, by show _ ≤ (7166058 : Nat); omega⟩ (fun ta8 => ?_)
  clear hg
  refine x_iload C 1 dL_law_721 rfl ?_
  refine x_icmp_eq C 728 dL_law_723 (by decide) (fun hc9 => ?_) (fun hc9 => ?_)
  · have hf := x_ip hc9 hf
    refine x_iload C 1 dL_law_728 rfl ?_
    refine x_if_ne C 745 dL_law_730 (by decide) (fun hc10 => ?_) (fun hc10 => ?_)
    · have hf := x_ine hc10 hf
      refine x_goto C 2752 dL_law_745 (by decide) ?_
      obtain rfl := Option.some.inj hf
      refine x_widen (k' := k0 + 54) (n' := n0 + 7600) (by omega) (by omega) ?_
      refine x_sub [2, 3, 4, 5, 6, 7] rfl ?_
      exact kk _
    · have hf := x_ip hc10 hf
      refine x_aload_n C 5 dL_law_733 rfl ?_
      refine x_iconst (v := 0) C dL_law_734 (by decide) ?_
      refine x_lald C dL_law_735 ?_
      refine x_iload C 0 dL_law_736 rfl ?_
      refine x_i2l (v := q5.1.toInt64) C dL_law_738 rfl ?_
      refine x_lcmp C dL_law_739 ?_
      refine x_if_eq C 745 dL_law_740 (by decide) (fun hc11 => ?_) (fun hc11 => ?_)
      · have hf := x_ip hc11 hf
        refine x_goto C 2752 dL_law_745 (by decide) ?_
        obtain rfl := Option.some.inj hf
        refine x_widen (k' := k0 + 54) (n' := n0 + 7600) (by omega) (by omega) ?_
        refine x_sub [2, 3, 4, 5, 6, 7] rfl ?_
        exact kk _
      · have hf := x_ine hc11 hf
        cases hf
  · have hf := x_ine hc9 hf
    cases hf
def f_law_c8 (sc : Nat → Int32) (L : Nat) (i : Int32) (M : xM) : Option xM := if x_in (i + (1 : Int32)) L = true then (f_L_advance (sc (i + (1 : Int32)).toNatClampNeg) M).bind fun q2 => if x_in (i + (1 : Int32)) L = true then (f_X7_advance (sc (i + (1 : Int32)).toNatClampNeg) q2.2).bind fun q5 => (f_X7_thrown q5.2).bind fun q7 => (if q7 = q2.1 then (if q2.1 = 0 then (if (lg_cmp q5.2.2.2.1 q5.1.toInt64) = 0 then some q5.2 else none) else some q5.2) else none) else none else none
set_option maxHeartbeats 4000000 in
set_option maxRecDepth 100000 in
theorem t_law_c8 {G : xG} {p : Program} {l : Launch} {e : Env} {s : State} {m : MethodId} {args : Array Value} {below : List Frame} {meth : Method} {c : Code} {Q : State → Prop} {b L : Nat} {sc : Nat → Int32} (C : xC G p s m args c cL_law 9 wsL_law RL) (hfl : l.stackTraces = false) (X : xLw G s b L sc) {i : Int32} {M M9 : xM} {ta : Nat × Nat} {k0 n0 : Nat} (hk0 : k0 + 54 ≤ 603072) (hn0 : n0 + 7600 ≤ 7166058) (hf : f_law_c8 sc L i M = some M9) (kk : ∀ ta2, xW G p l e room_1 s m args below meth c 9 Q (k0 + 54) (n0 + 7600) ta2 M9 2752 [(0, .ref b), (1, .ref (xad G 0)), (2, .ref (xad G 9)), (3, .ref (xad G 20)), (4, .ref (xad G 21)), (5, .int i)] []) : xW G p l e room_1 s m args below meth c 9 Q k0 n0 ta M 748 [(0, .ref b), (1, .ref (xad G 0)), (2, .ref (xad G 9)), (3, .ref (xad G 20)), (4, .ref (xad G 21)), (5, .int i)] [] := by
  unfold f_law_c8 at hf
  refine x_aload_n C 1 dL_law_748 rfl ?_
  refine x_aload_n C 0 dL_law_749 rfl ?_
  refine x_iload C 5 dL_law_750 rfl ?_
  refine x_iconst (v := 1) C dL_law_752 (by decide) ?_
  refine x_iadd C dL_law_753 ?_
  obtain ⟨g1, hf⟩ := x_gd hf
  refine x_sald C X g1 dL_law_754 ?_
  refine x_aload_n C 3 dL_law_755 rfl ?_
  obtain ⟨q2, hg, hf⟩ := x_bd hf
  refine x_callSWr C (t_L_advance hfl hg) (vx_cwSW 3 C.1.2.2.2.2 gL_law_L_advance rfl rfl rfl (by decide +kernel) ⟨Nat.le_of_ble_eq_true rfl, Nat.le_of_ble_eq_true rfl⟩) rfl rfl (Nat.le_of_ble_eq_true rfl) dL_law_756 ⟨by show _ ≤ (603072 : Nat); omega, by show _ ≤ (7166058 : Nat); omega⟩ (fun ta3 => ?_)
  clear hg
  refine x_istore (lv' := [(6, .int q2.1), (0, .ref b), (1, .ref (xad G 0)), (2, .ref (xad G 9)), (3, .ref (xad G 20)), (4, .ref (xad G 21)), (5, .int i)]) C dL_law_759 (by decide) rfl ?_
  refine x_aload_n C 3 dL_law_761 rfl ?_
  refine x_aload_n C 1 dL_law_762 rfl ?_
  refine x_iload C 6 dL_law_763 rfl ?_
  refine x_iconst (v := 1) C dL_law_765 (by decide) ?_
  refine x_iadd C dL_law_766 ?_
  obtain ⟨g4, hf⟩ := x_gd hf
  refine x_sald C X g4 dL_law_767 ?_
  obtain ⟨q5, hg, hf⟩ := x_bd hf
  refine x_callVr C (by rw [xkd_9]; decide) (by rw [xkd_9]; decide) (xc9 xkd_9) rfl (t_X7_advance hg) (cwV 1 C.1.2.2.2.2 gL_law_X7_advance rfl rfl rfl (by decide +kernel) ⟨Nat.le_of_ble_eq_true rfl, Nat.le_of_ble_eq_true rfl⟩) rfl rfl (Nat.le_of_ble_eq_true rfl) dL_law_768 ⟨by show _ ≤ (603072 : Nat); omega, by show _ ≤ (7166058 : Nat); omega⟩ (fun ta6 => ?_)
  clear hg
  refine x_istore (lv' := [(7, .int q5.1), (6, .int q2.1), (0, .ref b), (1, .ref (xad G 0)), (2, .ref (xad G 9)), (3, .ref (xad G 20)), (4, .ref (xad G 21)), (5, .int i)]) C dL_law_771 (by decide) rfl ?_
  refine x_aload_n C 4 dL_law_773 rfl ?_
  obtain ⟨q7, hg, hf⟩ := x_bd hf
  refine x_callVr C (by rw [xkd_9]; decide) (by rw [xkd_9]; decide) (xc9 xkd_9) rfl (t_X7_thrown hg) (cwV 0 C.1.2.2.2.2 gL_law_X7_thrown rfl rfl rfl (by decide +kernel) ⟨Nat.le_of_ble_eq_true rfl, Nat.le_of_ble_eq_true rfl⟩) rfl rfl (Nat.le_of_ble_eq_true rfl) dL_law_774 ⟨by show _ ≤ (603072 : Nat); omega, by show _ ≤ (7166058 : Nat); omega⟩ (fun ta8 => ?_)
  clear hg
  refine x_iload C 1 dL_law_777 rfl ?_
  refine x_icmp_eq C 784 dL_law_779 (by decide) (fun hc9 => ?_) (fun hc9 => ?_)
  · have hf := x_ip hc9 hf
    refine x_iload C 1 dL_law_784 rfl ?_
    refine x_if_ne C 801 dL_law_786 (by decide) (fun hc10 => ?_) (fun hc10 => ?_)
    · have hf := x_ine hc10 hf
      refine x_goto C 2752 dL_law_801 (by decide) ?_
      obtain rfl := Option.some.inj hf
      refine x_widen (k' := k0 + 54) (n' := n0 + 7600) (by omega) (by omega) ?_
      refine x_sub [2, 3, 4, 5, 6, 7] rfl ?_
      exact kk _
    · have hf := x_ip hc10 hf
      refine x_aload_n C 5 dL_law_789 rfl ?_
      refine x_iconst (v := 0) C dL_law_790 (by decide) ?_
      refine x_lald C dL_law_791 ?_
      refine x_iload C 0 dL_law_792 rfl ?_
      refine x_i2l (v := q5.1.toInt64) C dL_law_794 rfl ?_
      refine x_lcmp C dL_law_795 ?_
      refine x_if_eq C 801 dL_law_796 (by decide) (fun hc11 => ?_) (fun hc11 => ?_)
      · have hf := x_ip hc11 hf
        refine x_goto C 2752 dL_law_801 (by decide) ?_
        obtain rfl := Option.some.inj hf
        refine x_widen (k' := k0 + 54) (n' := n0 + 7600) (by omega) (by omega) ?_
        refine x_sub [2, 3, 4, 5, 6, 7] rfl ?_
        exact kk _
      · have hf := x_ine hc11 hf
        cases hf
  · have hf := x_ine hc9 hf
    cases hf
def f_law_c9 (sc : Nat → Int32) (L : Nat) (i : Int32) (M : xM) : Option xM := (f_X6_customerCount M).bind fun q1 => (f_X7_customerCount M).bind fun q3 => (if q1 = q3.1 then some q3.2 else none)
set_option maxHeartbeats 4000000 in
set_option maxRecDepth 100000 in
theorem t_law_c9 {G : xG} {p : Program} {l : Launch} {e : Env} {s : State} {m : MethodId} {args : Array Value} {below : List Frame} {meth : Method} {c : Code} {Q : State → Prop} {b L : Nat} {sc : Nat → Int32} (C : xC G p s m args c cL_law 9 wsL_law RL) (hfl : l.stackTraces = false) (X : xLw G s b L sc) {i : Int32} {M M9 : xM} {ta : Nat × Nat} {k0 n0 : Nat} (hk0 : k0 + 54 ≤ 603072) (hn0 : n0 + 7600 ≤ 7166058) (hf : f_law_c9 sc L i M = some M9) (kk : ∀ ta2, xW G p l e room_1 s m args below meth c 9 Q (k0 + 54) (n0 + 7600) ta2 M9 2752 [(0, .ref b), (1, .ref (xad G 0)), (2, .ref (xad G 9)), (3, .ref (xad G 20)), (4, .ref (xad G 21)), (5, .int i)] []) : xW G p l e room_1 s m args below meth c 9 Q k0 n0 ta M 804 [(0, .ref b), (1, .ref (xad G 0)), (2, .ref (xad G 9)), (3, .ref (xad G 20)), (4, .ref (xad G 21)), (5, .int i)] [] := by
  unfold f_law_c9 at hf
  refine x_aload_n C 1 dL_law_804 rfl ?_
  obtain ⟨q1, hg, hf⟩ := x_bd hf
  refine x_callVr C (by rw [xkd_0]; decide) (by rw [xkd_0]; decide) (xc8 xkd_0) rfl (t_X6_customerCount hg) (cwV 0 C.1.2.2.2.2 gL_law_X6_customerCount rfl rfl rfl (by decide +kernel) ⟨Nat.le_of_ble_eq_true rfl, Nat.le_of_ble_eq_true rfl⟩) rfl rfl (Nat.le_of_ble_eq_true rfl) dL_law_805 ⟨by show _ ≤ (603072 : Nat); omega, by show _ ≤ (7166058 : Nat); omega⟩ (fun ta2 => ?_)
  clear hg
  refine x_aload_n C 2 dL_law_808 rfl ?_
  obtain ⟨q3, hg, hf⟩ := x_bd hf
  refine x_callVr C (by rw [xkd_9]; decide) (by rw [xkd_9]; decide) (xc9 xkd_9) rfl (t_X7_customerCount hg) (cwV 0 C.1.2.2.2.2 gL_law_X7_customerCount rfl rfl rfl (by decide +kernel) ⟨Nat.le_of_ble_eq_true rfl, Nat.le_of_ble_eq_true rfl⟩) rfl rfl (Nat.le_of_ble_eq_true rfl) dL_law_809 ⟨by show _ ≤ (603072 : Nat); omega, by show _ ≤ (7166058 : Nat); omega⟩ (fun ta4 => ?_)
  clear hg
  refine x_icmp_eq C 2752 dL_law_812 (by decide) (fun hc5 => ?_) (fun hc5 => ?_)
  · have hf := x_ip hc5 hf
    obtain rfl := Option.some.inj hf
    refine x_widen (k' := k0 + 54) (n' := n0 + 7600) (by omega) (by omega) ?_
    refine x_sub [0, 1, 2, 3, 4, 5] rfl ?_
    exact kk _
  · have hf := x_ine hc5 hf
    cases hf
def f_law_c10 (sc : Nat → Int32) (L : Nat) (i : Int32) (M : xM) : Option xM := if x_in (i + (1 : Int32)) L = true then (f_L_ticket (sc (i + (1 : Int32)).toNatClampNeg) M).bind fun q2 => if x_in (i + (1 : Int32)) L = true then (f_X7_ticket (sc (i + (1 : Int32)).toNatClampNeg) q2.2).bind fun q5 => (f_X7_thrown q5.2).bind fun q7 => (if q7 = q2.1 then (if q2.1 = 0 then (if (lg_cmp q5.2.2.2.1 q5.1.toInt64) = 0 then some q5.2 else none) else some q5.2) else none) else none else none
set_option maxHeartbeats 4000000 in
set_option maxRecDepth 100000 in
theorem t_law_c10 {G : xG} {p : Program} {l : Launch} {e : Env} {s : State} {m : MethodId} {args : Array Value} {below : List Frame} {meth : Method} {c : Code} {Q : State → Prop} {b L : Nat} {sc : Nat → Int32} (C : xC G p s m args c cL_law 9 wsL_law RL) (hfl : l.stackTraces = false) (X : xLw G s b L sc) {i : Int32} {M M9 : xM} {ta : Nat × Nat} {k0 n0 : Nat} (hk0 : k0 + 54 ≤ 603072) (hn0 : n0 + 7600 ≤ 7166058) (hf : f_law_c10 sc L i M = some M9) (kk : ∀ ta2, xW G p l e room_1 s m args below meth c 9 Q (k0 + 54) (n0 + 7600) ta2 M9 2752 [(0, .ref b), (1, .ref (xad G 0)), (2, .ref (xad G 9)), (3, .ref (xad G 20)), (4, .ref (xad G 21)), (5, .int i)] []) : xW G p l e room_1 s m args below meth c 9 Q k0 n0 ta M 817 [(0, .ref b), (1, .ref (xad G 0)), (2, .ref (xad G 9)), (3, .ref (xad G 20)), (4, .ref (xad G 21)), (5, .int i)] [] := by
  unfold f_law_c10 at hf
  refine x_aload_n C 1 dL_law_817 rfl ?_
  refine x_aload_n C 0 dL_law_818 rfl ?_
  refine x_iload C 5 dL_law_819 rfl ?_
  refine x_iconst (v := 1) C dL_law_821 (by decide) ?_
  refine x_iadd C dL_law_822 ?_
  obtain ⟨g1, hf⟩ := x_gd hf
  refine x_sald C X g1 dL_law_823 ?_
  refine x_aload_n C 3 dL_law_824 rfl ?_
  obtain ⟨q2, hg, hf⟩ := x_bd hf
  refine x_callSWr C (t_L_ticket hfl hg) (vx_cwSW 3 C.1.2.2.2.2 gL_law_L_ticket rfl rfl rfl (by decide +kernel) ⟨Nat.le_of_ble_eq_true rfl, Nat.le_of_ble_eq_true rfl⟩) rfl rfl (Nat.le_of_ble_eq_true rfl) dL_law_825 ⟨by show _ ≤ (603072 : Nat); omega, by show _ ≤ (7166058 : Nat); omega⟩ (fun ta3 => ?_)
  clear hg
  refine x_istore (lv' := [(6, .int q2.1), (0, .ref b), (1, .ref (xad G 0)), (2, .ref (xad G 9)), (3, .ref (xad G 20)), (4, .ref (xad G 21)), (5, .int i)]) C dL_law_828 (by decide) rfl ?_
  refine x_aload_n C 3 dL_law_830 rfl ?_
  refine x_aload_n C 1 dL_law_831 rfl ?_
  refine x_iload C 6 dL_law_832 rfl ?_
  refine x_iconst (v := 1) C dL_law_834 (by decide) ?_
  refine x_iadd C dL_law_835 ?_
  obtain ⟨g4, hf⟩ := x_gd hf
  refine x_sald C X g4 dL_law_836 ?_
  obtain ⟨q5, hg, hf⟩ := x_bd hf
  refine x_callVr C (by rw [xkd_9]; decide) (by rw [xkd_9]; decide) (xc9 xkd_9) rfl (t_X7_ticket hg) (cwV 1 C.1.2.2.2.2 gL_law_X7_ticket rfl rfl rfl (by decide +kernel) ⟨Nat.le_of_ble_eq_true rfl, Nat.le_of_ble_eq_true rfl⟩) rfl rfl (Nat.le_of_ble_eq_true rfl) dL_law_837 ⟨by show _ ≤ (603072 : Nat); omega, by show _ ≤ (7166058 : Nat); omega⟩ (fun ta6 => ?_)
  clear hg
  refine x_istore (lv' := [(7, .int q5.1), (6, .int q2.1), (0, .ref b), (1, .ref (xad G 0)), (2, .ref (xad G 9)), (3, .ref (xad G 20)), (4, .ref (xad G 21)), (5, .int i)]) C dL_law_840 (by decide) rfl ?_
  refine x_aload_n C 4 dL_law_842 rfl ?_
  obtain ⟨q7, hg, hf⟩ := x_bd hf
  refine x_callVr C (by rw [xkd_9]; decide) (by rw [xkd_9]; decide) (xc9 xkd_9) rfl (t_X7_thrown hg) (cwV 0 C.1.2.2.2.2 gL_law_X7_thrown rfl rfl rfl (by decide +kernel) ⟨Nat.le_of_ble_eq_true rfl, Nat.le_of_ble_eq_true rfl⟩) rfl rfl (Nat.le_of_ble_eq_true rfl) dL_law_843 ⟨by show _ ≤ (603072 : Nat); omega, by show _ ≤ (7166058 : Nat); omega⟩ (fun ta8 => ?_)
  clear hg
  refine x_iload C 1 dL_law_846 rfl ?_
  refine x_icmp_eq C 853 dL_law_848 (by decide) (fun hc9 => ?_) (fun hc9 => ?_)
  · have hf := x_ip hc9 hf
    refine x_iload C 1 dL_law_853 rfl ?_
    refine x_if_ne C 870 dL_law_855 (by decide) (fun hc10 => ?_) (fun hc10 => ?_)
    · have hf := x_ine hc10 hf
      refine x_goto C 2752 dL_law_870 (by decide) ?_
      obtain rfl := Option.some.inj hf
      refine x_widen (k' := k0 + 54) (n' := n0 + 7600) (by omega) (by omega) ?_
      refine x_sub [2, 3, 4, 5, 6, 7] rfl ?_
      exact kk _
    · have hf := x_ip hc10 hf
      refine x_aload_n C 5 dL_law_858 rfl ?_
      refine x_iconst (v := 0) C dL_law_859 (by decide) ?_
      refine x_lald C dL_law_860 ?_
      refine x_iload C 0 dL_law_861 rfl ?_
      refine x_i2l (v := q5.1.toInt64) C dL_law_863 rfl ?_
      refine x_lcmp C dL_law_864 ?_
      refine x_if_eq C 870 dL_law_865 (by decide) (fun hc11 => ?_) (fun hc11 => ?_)
      · have hf := x_ip hc11 hf
        refine x_goto C 2752 dL_law_870 (by decide) ?_
        obtain rfl := Option.some.inj hf
        refine x_widen (k' := k0 + 54) (n' := n0 + 7600) (by omega) (by omega) ?_
        refine x_sub [2, 3, 4, 5, 6, 7] rfl ?_
        exact kk _
      · have hf := x_ine hc11 hf
        cases hf
  · have hf := x_ine hc9 hf
    cases hf
def f_law_c11 (sc : Nat → Int32) (L : Nat) (i : Int32) (M : xM) : Option xM := if x_in (i + (1 : Int32)) L = true then (f_L_patience (sc (i + (1 : Int32)).toNatClampNeg) M).bind fun q2 => if x_in (i + (1 : Int32)) L = true then (f_X7_patience (sc (i + (1 : Int32)).toNatClampNeg) q2.2).bind fun q5 => (f_X7_thrown q5.2).bind fun q7 => (if q7 = q2.1 then (if q2.1 = 0 then (if (lg_cmp q5.2.2.2.1 q5.1.toInt64) = 0 then some q5.2 else none) else some q5.2) else none) else none else none
set_option maxHeartbeats 4000000 in
set_option maxRecDepth 100000 in
theorem t_law_c11 {G : xG} {p : Program} {l : Launch} {e : Env} {s : State} {m : MethodId} {args : Array Value} {below : List Frame} {meth : Method} {c : Code} {Q : State → Prop} {b L : Nat} {sc : Nat → Int32} (C : xC G p s m args c cL_law 9 wsL_law RL) (hfl : l.stackTraces = false) (X : xLw G s b L sc) {i : Int32} {M M9 : xM} {ta : Nat × Nat} {k0 n0 : Nat} (hk0 : k0 + 54 ≤ 603072) (hn0 : n0 + 7600 ≤ 7166058) (hf : f_law_c11 sc L i M = some M9) (kk : ∀ ta2, xW G p l e room_1 s m args below meth c 9 Q (k0 + 54) (n0 + 7600) ta2 M9 2752 [(0, .ref b), (1, .ref (xad G 0)), (2, .ref (xad G 9)), (3, .ref (xad G 20)), (4, .ref (xad G 21)), (5, .int i)] []) : xW G p l e room_1 s m args below meth c 9 Q k0 n0 ta M 873 [(0, .ref b), (1, .ref (xad G 0)), (2, .ref (xad G 9)), (3, .ref (xad G 20)), (4, .ref (xad G 21)), (5, .int i)] [] := by
  unfold f_law_c11 at hf
  refine x_aload_n C 1 dL_law_873 rfl ?_
  refine x_aload_n C 0 dL_law_874 rfl ?_
  refine x_iload C 5 dL_law_875 rfl ?_
  refine x_iconst (v := 1) C dL_law_877 (by decide) ?_
  refine x_iadd C dL_law_878 ?_
  obtain ⟨g1, hf⟩ := x_gd hf
  refine x_sald C X g1 dL_law_879 ?_
  refine x_aload_n C 3 dL_law_880 rfl ?_
  obtain ⟨q2, hg, hf⟩ := x_bd hf
  refine x_callSWr C (t_L_patience hfl hg) (vx_cwSW 3 C.1.2.2.2.2 gL_law_L_patience rfl rfl rfl (by decide +kernel) ⟨Nat.le_of_ble_eq_true rfl, Nat.le_of_ble_eq_true rfl⟩) rfl rfl (Nat.le_of_ble_eq_true rfl) dL_law_881 ⟨by show _ ≤ (603072 : Nat); omega, by show _ ≤ (7166058 : Nat); omega⟩ (fun ta3 => ?_)
  clear hg
  refine x_istore (lv' := [(6, .int q2.1), (0, .ref b), (1, .ref (xad G 0)), (2, .ref (xad G 9)), (3, .ref (xad G 20)), (4, .ref (xad G 21)), (5, .int i)]) C dL_law_884 (by decide) rfl ?_
  refine x_aload_n C 3 dL_law_886 rfl ?_
  refine x_aload_n C 1 dL_law_887 rfl ?_
  refine x_iload C 6 dL_law_888 rfl ?_
  refine x_iconst (v := 1) C dL_law_890 (by decide) ?_
  refine x_iadd C dL_law_891 ?_
  obtain ⟨g4, hf⟩ := x_gd hf
  refine x_sald C X g4 dL_law_892 ?_
  obtain ⟨q5, hg, hf⟩ := x_bd hf
  refine x_callVr C (by rw [xkd_9]; decide) (by rw [xkd_9]; decide) (xc9 xkd_9) rfl (t_X7_patience hg) (cwV 1 C.1.2.2.2.2 gL_law_X7_patience rfl rfl rfl (by decide +kernel) ⟨Nat.le_of_ble_eq_true rfl, Nat.le_of_ble_eq_true rfl⟩) rfl rfl (Nat.le_of_ble_eq_true rfl) dL_law_893 ⟨by show _ ≤ (603072 : Nat); omega, by show _ ≤ (7166058 : Nat); omega⟩ (fun ta6 => ?_)
  clear hg
  refine x_istore (lv' := [(7, .int q5.1), (6, .int q2.1), (0, .ref b), (1, .ref (xad G 0)), (2, .ref (xad G 9)), (3, .ref (xad G 20)), (4, .ref (xad G 21)), (5, .int i)]) C dL_law_896 (by decide) rfl ?_
  refine x_aload_n C 4 dL_law_898 rfl ?_
  obtain ⟨q7, hg, hf⟩ := x_bd hf
  refine x_callVr C (by rw [xkd_9]; decide) (by rw [xkd_9]; decide) (xc9 xkd_9) rfl (t_X7_thrown hg) (cwV 0 C.1.2.2.2.2 gL_law_X7_thrown rfl rfl rfl (by decide +kernel) ⟨Nat.le_of_ble_eq_true rfl, Nat.le_of_ble_eq_true rfl⟩) rfl rfl (Nat.le_of_ble_eq_true rfl) dL_law_899 ⟨by show _ ≤ (603072 : Nat); omega, by show _ ≤ (7166058 : Nat); omega⟩ (fun ta8 => ?_)
  clear hg
  refine x_iload C 1 dL_law_902 rfl ?_
  refine x_icmp_eq C 909 dL_law_904 (by decide) (fun hc9 => ?_) (fun hc9 => ?_)
  · have hf := x_ip hc9 hf
    refine x_iload C 1 dL_law_909 rfl ?_
    refine x_if_ne C 926 dL_law_911 (by decide) (fun hc10 => ?_) (fun hc10 => ?_)
    · have hf := x_ine hc10 hf
      refine x_goto C 2752 dL_law_926 (by decide) ?_
      obtain rfl := Option.some.inj hf
      refine x_widen (k' := k0 + 54) (n' := n0 + 7600) (by omega) (by omega) ?_
      refine x_sub [2, 3, 4, 5, 6, 7] rfl ?_
      exact kk _
    · have hf := x_ip hc10 hf
      refine x_aload_n C 5 dL_law_914 rfl ?_
      refine x_iconst (v := 0) C dL_law_915 (by decide) ?_
      refine x_lald C dL_law_916 ?_
      refine x_iload C 0 dL_law_917 rfl ?_
      refine x_i2l (v := q5.1.toInt64) C dL_law_919 rfl ?_
      refine x_lcmp C dL_law_920 ?_
      refine x_if_eq C 926 dL_law_921 (by decide) (fun hc11 => ?_) (fun hc11 => ?_)
      · have hf := x_ip hc11 hf
        refine x_goto C 2752 dL_law_926 (by decide) ?_
        obtain rfl := Option.some.inj hf
        refine x_widen (k' := k0 + 54) (n' := n0 + 7600) (by omega) (by omega) ?_
        refine x_sub [2, 3, 4, 5, 6, 7] rfl ?_
        exact kk _
      · have hf := x_ine hc11 hf
        cases hf
  · have hf := x_ine hc9 hf
    cases hf
def f_law_c12 (sc : Nat → Int32) (L : Nat) (i : Int32) (M : xM) : Option xM := if x_in (i + (1 : Int32)) L = true then (f_L_sighs (sc (i + (1 : Int32)).toNatClampNeg) M).bind fun q2 => if x_in (i + (1 : Int32)) L = true then (f_X7_sighs (sc (i + (1 : Int32)).toNatClampNeg) q2.2).bind fun q5 => (f_X7_thrown q5.2).bind fun q7 => (if q7 = q2.1 then (if q2.1 = 0 then (if (lg_cmp q5.2.2.2.1 q5.1.toInt64) = 0 then some q5.2 else none) else some q5.2) else none) else none else none
set_option maxHeartbeats 4000000 in
set_option maxRecDepth 100000 in
theorem t_law_c12 {G : xG} {p : Program} {l : Launch} {e : Env} {s : State} {m : MethodId} {args : Array Value} {below : List Frame} {meth : Method} {c : Code} {Q : State → Prop} {b L : Nat} {sc : Nat → Int32} (C : xC G p s m args c cL_law 9 wsL_law RL) (hfl : l.stackTraces = false) (X : xLw G s b L sc) {i : Int32} {M M9 : xM} {ta : Nat × Nat} {k0 n0 : Nat} (hk0 : k0 + 54 ≤ 603072) (hn0 : n0 + 7600 ≤ 7166058) (hf : f_law_c12 sc L i M = some M9) (kk : ∀ ta2, xW G p l e room_1 s m args below meth c 9 Q (k0 + 54) (n0 + 7600) ta2 M9 2752 [(0, .ref b), (1, .ref (xad G 0)), (2, .ref (xad G 9)), (3, .ref (xad G 20)), (4, .ref (xad G 21)), (5, .int i)] []) : xW G p l e room_1 s m args below meth c 9 Q k0 n0 ta M 929 [(0, .ref b), (1, .ref (xad G 0)), (2, .ref (xad G 9)), (3, .ref (xad G 20)), (4, .ref (xad G 21)), (5, .int i)] [] := by
  unfold f_law_c12 at hf
  refine x_aload_n C 1 dL_law_929 rfl ?_
  refine x_aload_n C 0 dL_law_930 rfl ?_
  refine x_iload C 5 dL_law_931 rfl ?_
  refine x_iconst (v := 1) C dL_law_933 (by decide) ?_
  refine x_iadd C dL_law_934 ?_
  obtain ⟨g1, hf⟩ := x_gd hf
  refine x_sald C X g1 dL_law_935 ?_
  refine x_aload_n C 3 dL_law_936 rfl ?_
  obtain ⟨q2, hg, hf⟩ := x_bd hf
  refine x_callSWr C (t_L_sighs hfl hg) (vx_cwSW 3 C.1.2.2.2.2 gL_law_L_sighs rfl rfl rfl (by decide +kernel) ⟨Nat.le_of_ble_eq_true rfl, Nat.le_of_ble_eq_true rfl⟩) rfl rfl (Nat.le_of_ble_eq_true rfl) dL_law_937 ⟨by show _ ≤ (603072 : Nat); omega, by show _ ≤ (7166058 : Nat); omega⟩ (fun ta3 => ?_)
  clear hg
  refine x_istore (lv' := [(6, .int q2.1), (0, .ref b), (1, .ref (xad G 0)), (2, .ref (xad G 9)), (3, .ref (xad G 20)), (4, .ref (xad G 21)), (5, .int i)]) C dL_law_940 (by decide) rfl ?_
  refine x_aload_n C 3 dL_law_942 rfl ?_
  refine x_aload_n C 1 dL_law_943 rfl ?_
  refine x_iload C 6 dL_law_944 rfl ?_
  refine x_iconst (v := 1) C dL_law_946 (by decide) ?_
  refine x_iadd C dL_law_947 ?_
  obtain ⟨g4, hf⟩ := x_gd hf
  refine x_sald C X g4 dL_law_948 ?_
  obtain ⟨q5, hg, hf⟩ := x_bd hf
  refine x_callVr C (by rw [xkd_9]; decide) (by rw [xkd_9]; decide) (xc9 xkd_9) rfl (t_X7_sighs hg) (cwV 1 C.1.2.2.2.2 gL_law_X7_sighs rfl rfl rfl (by decide +kernel) ⟨Nat.le_of_ble_eq_true rfl, Nat.le_of_ble_eq_true rfl⟩) rfl rfl (Nat.le_of_ble_eq_true rfl) dL_law_949 ⟨by show _ ≤ (603072 : Nat); omega, by show _ ≤ (7166058 : Nat); omega⟩ (fun ta6 => ?_)
  clear hg
  refine x_istore (lv' := [(7, .int q5.1), (6, .int q2.1), (0, .ref b), (1, .ref (xad G 0)), (2, .ref (xad G 9)), (3, .ref (xad G 20)), (4, .ref (xad G 21)), (5, .int i)]) C dL_law_952 (by decide) rfl ?_
  refine x_aload_n C 4 dL_law_954 rfl ?_
  obtain ⟨q7, hg, hf⟩ := x_bd hf
  refine x_callVr C (by rw [xkd_9]; decide) (by rw [xkd_9]; decide) (xc9 xkd_9) rfl (t_X7_thrown hg) (cwV 0 C.1.2.2.2.2 gL_law_X7_thrown rfl rfl rfl (by decide +kernel) ⟨Nat.le_of_ble_eq_true rfl, Nat.le_of_ble_eq_true rfl⟩) rfl rfl (Nat.le_of_ble_eq_true rfl) dL_law_955 ⟨by show _ ≤ (603072 : Nat); omega, by show _ ≤ (7166058 : Nat); omega⟩ (fun ta8 => ?_)
  clear hg
  refine x_iload C 1 dL_law_958 rfl ?_
  refine x_icmp_eq C 965 dL_law_960 (by decide) (fun hc9 => ?_) (fun hc9 => ?_)
  · have hf := x_ip hc9 hf
    refine x_iload C 1 dL_law_965 rfl ?_
    refine x_if_ne C 982 dL_law_967 (by decide) (fun hc10 => ?_) (fun hc10 => ?_)
    · have hf := x_ine hc10 hf
      refine x_goto C 2752 dL_law_982 (by decide) ?_
      obtain rfl := Option.some.inj hf
      refine x_widen (k' := k0 + 54) (n' := n0 + 7600) (by omega) (by omega) ?_
      refine x_sub [2, 3, 4, 5, 6, 7] rfl ?_
      exact kk _
    · have hf := x_ip hc10 hf
      refine x_aload_n C 5 dL_law_970 rfl ?_
      refine x_iconst (v := 0) C dL_law_971 (by decide) ?_
      refine x_lald C dL_law_972 ?_
      refine x_iload C 0 dL_law_973 rfl ?_
      refine x_i2l (v := q5.1.toInt64) C dL_law_975 rfl ?_
      refine x_lcmp C dL_law_976 ?_
      refine x_if_eq C 982 dL_law_977 (by decide) (fun hc11 => ?_) (fun hc11 => ?_)
      · have hf := x_ip hc11 hf
        refine x_goto C 2752 dL_law_982 (by decide) ?_
        obtain rfl := Option.some.inj hf
        refine x_widen (k' := k0 + 54) (n' := n0 + 7600) (by omega) (by omega) ?_
        refine x_sub [2, 3, 4, 5, 6, 7] rfl ?_
        exact kk _
      · have hf := x_ine hc11 hf
        cases hf
  · have hf := x_ine hc9 hf
    cases hf
def f_law_c13 (sc : Nat → Int32) (L : Nat) (i : Int32) (M : xM) : Option xM := if x_in (i + (1 : Int32)) L = true then (f_L_ache (sc (i + (1 : Int32)).toNatClampNeg) M).bind fun q2 => if x_in (i + (1 : Int32)) L = true then (f_X7_ache (sc (i + (1 : Int32)).toNatClampNeg) q2.2).bind fun q5 => (f_X7_thrown q5.2).bind fun q7 => (if q7 = q2.1 then (if q2.1 = 0 then (if (lg_cmp q5.2.2.2.1 q5.1.toInt64) = 0 then some q5.2 else none) else some q5.2) else none) else none else none
set_option maxHeartbeats 4000000 in
set_option maxRecDepth 100000 in
theorem t_law_c13 {G : xG} {p : Program} {l : Launch} {e : Env} {s : State} {m : MethodId} {args : Array Value} {below : List Frame} {meth : Method} {c : Code} {Q : State → Prop} {b L : Nat} {sc : Nat → Int32} (C : xC G p s m args c cL_law 9 wsL_law RL) (hfl : l.stackTraces = false) (X : xLw G s b L sc) {i : Int32} {M M9 : xM} {ta : Nat × Nat} {k0 n0 : Nat} (hk0 : k0 + 54 ≤ 603072) (hn0 : n0 + 7600 ≤ 7166058) (hf : f_law_c13 sc L i M = some M9) (kk : ∀ ta2, xW G p l e room_1 s m args below meth c 9 Q (k0 + 54) (n0 + 7600) ta2 M9 2752 [(0, .ref b), (1, .ref (xad G 0)), (2, .ref (xad G 9)), (3, .ref (xad G 20)), (4, .ref (xad G 21)), (5, .int i)] []) : xW G p l e room_1 s m args below meth c 9 Q k0 n0 ta M 985 [(0, .ref b), (1, .ref (xad G 0)), (2, .ref (xad G 9)), (3, .ref (xad G 20)), (4, .ref (xad G 21)), (5, .int i)] [] := by
  unfold f_law_c13 at hf
  refine x_aload_n C 1 dL_law_985 rfl ?_
  refine x_aload_n C 0 dL_law_986 rfl ?_
  refine x_iload C 5 dL_law_987 rfl ?_
  refine x_iconst (v := 1) C dL_law_989 (by decide) ?_
  refine x_iadd C dL_law_990 ?_
  obtain ⟨g1, hf⟩ := x_gd hf
  refine x_sald C X g1 dL_law_991 ?_
  refine x_aload_n C 3 dL_law_992 rfl ?_
  obtain ⟨q2, hg, hf⟩ := x_bd hf
  refine x_callSWr C (t_L_ache hfl hg) (vx_cwSW 3 C.1.2.2.2.2 gL_law_L_ache rfl rfl rfl (by decide +kernel) ⟨Nat.le_of_ble_eq_true rfl, Nat.le_of_ble_eq_true rfl⟩) rfl rfl (Nat.le_of_ble_eq_true rfl) dL_law_993 ⟨by show _ ≤ (603072 : Nat); omega, by show _ ≤ (7166058 : Nat); omega⟩ (fun ta3 => ?_)
  clear hg
  refine x_istore (lv' := [(6, .int q2.1), (0, .ref b), (1, .ref (xad G 0)), (2, .ref (xad G 9)), (3, .ref (xad G 20)), (4, .ref (xad G 21)), (5, .int i)]) C dL_law_996 (by decide) rfl ?_
  refine x_aload_n C 3 dL_law_998 rfl ?_
  refine x_aload_n C 1 dL_law_999 rfl ?_
  refine x_iload C 6 dL_law_1000 rfl ?_
  refine x_iconst (v := 1) C dL_law_1002 (by decide) ?_
  refine x_iadd C dL_law_1003 ?_
  obtain ⟨g4, hf⟩ := x_gd hf
  refine x_sald C X g4 dL_law_1004 ?_
  obtain ⟨q5, hg, hf⟩ := x_bd hf
  refine x_callVr C (by rw [xkd_9]; decide) (by rw [xkd_9]; decide) (xc9 xkd_9) rfl (t_X7_ache hg) (cwV 1 C.1.2.2.2.2 gL_law_X7_ache rfl rfl rfl (by decide +kernel) ⟨Nat.le_of_ble_eq_true rfl, Nat.le_of_ble_eq_true rfl⟩) rfl rfl (Nat.le_of_ble_eq_true rfl) dL_law_1005 ⟨by show _ ≤ (603072 : Nat); omega, by show _ ≤ (7166058 : Nat); omega⟩ (fun ta6 => ?_)
  clear hg
  refine x_istore (lv' := [(7, .int q5.1), (6, .int q2.1), (0, .ref b), (1, .ref (xad G 0)), (2, .ref (xad G 9)), (3, .ref (xad G 20)), (4, .ref (xad G 21)), (5, .int i)]) C dL_law_1008 (by decide) rfl ?_
  refine x_aload_n C 4 dL_law_1010 rfl ?_
  obtain ⟨q7, hg, hf⟩ := x_bd hf
  refine x_callVr C (by rw [xkd_9]; decide) (by rw [xkd_9]; decide) (xc9 xkd_9) rfl (t_X7_thrown hg) (cwV 0 C.1.2.2.2.2 gL_law_X7_thrown rfl rfl rfl (by decide +kernel) ⟨Nat.le_of_ble_eq_true rfl, Nat.le_of_ble_eq_true rfl⟩) rfl rfl (Nat.le_of_ble_eq_true rfl) dL_law_1011 ⟨by show _ ≤ (603072 : Nat); omega, by show _ ≤ (7166058 : Nat); omega⟩ (fun ta8 => ?_)
  clear hg
  refine x_iload C 1 dL_law_1014 rfl ?_
  refine x_icmp_eq C 1021 dL_law_1016 (by decide) (fun hc9 => ?_) (fun hc9 => ?_)
  · have hf := x_ip hc9 hf
    refine x_iload C 1 dL_law_1021 rfl ?_
    refine x_if_ne C 1038 dL_law_1023 (by decide) (fun hc10 => ?_) (fun hc10 => ?_)
    · have hf := x_ine hc10 hf
      refine x_goto C 2752 dL_law_1038 (by decide) ?_
      obtain rfl := Option.some.inj hf
      refine x_widen (k' := k0 + 54) (n' := n0 + 7600) (by omega) (by omega) ?_
      refine x_sub [2, 3, 4, 5, 6, 7] rfl ?_
      exact kk _
    · have hf := x_ip hc10 hf
      refine x_aload_n C 5 dL_law_1026 rfl ?_
      refine x_iconst (v := 0) C dL_law_1027 (by decide) ?_
      refine x_lald C dL_law_1028 ?_
      refine x_iload C 0 dL_law_1029 rfl ?_
      refine x_i2l (v := q5.1.toInt64) C dL_law_1031 rfl ?_
      refine x_lcmp C dL_law_1032 ?_
      refine x_if_eq C 1038 dL_law_1033 (by decide) (fun hc11 => ?_) (fun hc11 => ?_)
      · have hf := x_ip hc11 hf
        refine x_goto C 2752 dL_law_1038 (by decide) ?_
        obtain rfl := Option.some.inj hf
        refine x_widen (k' := k0 + 54) (n' := n0 + 7600) (by omega) (by omega) ?_
        refine x_sub [2, 3, 4, 5, 6, 7] rfl ?_
        exact kk _
      · have hf := x_ine hc11 hf
        cases hf
  · have hf := x_ine hc9 hf
    cases hf
def f_law_c14 (sc : Nat → Int32) (L : Nat) (i : Int32) (M : xM) : Option xM := if x_in (i + (1 : Int32)) L = true then (f_L_waitingTime (sc (i + (1 : Int32)).toNatClampNeg) M).bind fun q2 => if x_in (i + (1 : Int32)) L = true then (f_X7_waitingTime (sc (i + (1 : Int32)).toNatClampNeg) q2.2).bind fun q5 => (f_X7_thrown q5.2).bind fun q7 => (if q7 = q2.1 then (if q2.1 = 0 then (if (lg_cmp q5.2.2.2.1 q5.1.toInt64) = 0 then some q5.2 else none) else some q5.2) else none) else none else none
set_option maxHeartbeats 4000000 in
set_option maxRecDepth 100000 in
theorem t_law_c14 {G : xG} {p : Program} {l : Launch} {e : Env} {s : State} {m : MethodId} {args : Array Value} {below : List Frame} {meth : Method} {c : Code} {Q : State → Prop} {b L : Nat} {sc : Nat → Int32} (C : xC G p s m args c cL_law 9 wsL_law RL) (hfl : l.stackTraces = false) (X : xLw G s b L sc) {i : Int32} {M M9 : xM} {ta : Nat × Nat} {k0 n0 : Nat} (hk0 : k0 + 54 ≤ 603072) (hn0 : n0 + 7600 ≤ 7166058) (hf : f_law_c14 sc L i M = some M9) (kk : ∀ ta2, xW G p l e room_1 s m args below meth c 9 Q (k0 + 54) (n0 + 7600) ta2 M9 2752 [(0, .ref b), (1, .ref (xad G 0)), (2, .ref (xad G 9)), (3, .ref (xad G 20)), (4, .ref (xad G 21)), (5, .int i)] []) : xW G p l e room_1 s m args below meth c 9 Q k0 n0 ta M 1041 [(0, .ref b), (1, .ref (xad G 0)), (2, .ref (xad G 9)), (3, .ref (xad G 20)), (4, .ref (xad G 21)), (5, .int i)] [] := by
  unfold f_law_c14 at hf
  refine x_aload_n C 1 dL_law_1041 rfl ?_
  refine x_aload_n C 0 dL_law_1042 rfl ?_
  refine x_iload C 5 dL_law_1043 rfl ?_
  refine x_iconst (v := 1) C dL_law_1045 (by decide) ?_
  refine x_iadd C dL_law_1046 ?_
  obtain ⟨g1, hf⟩ := x_gd hf
  refine x_sald C X g1 dL_law_1047 ?_
  refine x_aload_n C 3 dL_law_1048 rfl ?_
  obtain ⟨q2, hg, hf⟩ := x_bd hf
  refine x_callSWr C (t_L_waitingTime hfl hg) (vx_cwSW 3 C.1.2.2.2.2 gL_law_L_waitingTime rfl rfl rfl (by decide +kernel) ⟨Nat.le_of_ble_eq_true rfl, Nat.le_of_ble_eq_true rfl⟩) rfl rfl (Nat.le_of_ble_eq_true rfl) dL_law_1049 ⟨by show _ ≤ (603072 : Nat); omega, by show _ ≤ (7166058 : Nat); omega⟩ (fun ta3 => ?_)
  clear hg
  refine x_istore (lv' := [(6, .int q2.1), (0, .ref b), (1, .ref (xad G 0)), (2, .ref (xad G 9)), (3, .ref (xad G 20)), (4, .ref (xad G 21)), (5, .int i)]) C dL_law_1052 (by decide) rfl ?_
  refine x_aload_n C 3 dL_law_1054 rfl ?_
  refine x_aload_n C 1 dL_law_1055 rfl ?_
  refine x_iload C 6 dL_law_1056 rfl ?_
  refine x_iconst (v := 1) C dL_law_1058 (by decide) ?_
  refine x_iadd C dL_law_1059 ?_
  obtain ⟨g4, hf⟩ := x_gd hf
  refine x_sald C X g4 dL_law_1060 ?_
  obtain ⟨q5, hg, hf⟩ := x_bd hf
  refine x_callVr C (by rw [xkd_9]; decide) (by rw [xkd_9]; decide) (xc9 xkd_9) rfl (t_X7_waitingTime hg) (cwV 1 C.1.2.2.2.2 gL_law_X7_waitingTime rfl rfl rfl (by decide +kernel) ⟨Nat.le_of_ble_eq_true rfl, Nat.le_of_ble_eq_true rfl⟩) rfl rfl (Nat.le_of_ble_eq_true rfl) dL_law_1061 ⟨by show _ ≤ (603072 : Nat); omega, by show _ ≤ (7166058 : Nat); omega⟩ (fun ta6 => ?_)
  clear hg
  refine x_istore (lv' := [(7, .int q5.1), (6, .int q2.1), (0, .ref b), (1, .ref (xad G 0)), (2, .ref (xad G 9)), (3, .ref (xad G 20)), (4, .ref (xad G 21)), (5, .int i)]) C dL_law_1064 (by decide) rfl ?_
  refine x_aload_n C 4 dL_law_1066 rfl ?_
  obtain ⟨q7, hg, hf⟩ := x_bd hf
  refine x_callVr C (by rw [xkd_9]; decide) (by rw [xkd_9]; decide) (xc9 xkd_9) rfl (t_X7_thrown hg) (cwV 0 C.1.2.2.2.2 gL_law_X7_thrown rfl rfl rfl (by decide +kernel) ⟨Nat.le_of_ble_eq_true rfl, Nat.le_of_ble_eq_true rfl⟩) rfl rfl (Nat.le_of_ble_eq_true rfl) dL_law_1067 ⟨by show _ ≤ (603072 : Nat); omega, by show _ ≤ (7166058 : Nat); omega⟩ (fun ta8 => ?_)
  clear hg
  refine x_iload C 1 dL_law_1070 rfl ?_
  refine x_icmp_eq C 1077 dL_law_1072 (by decide) (fun hc9 => ?_) (fun hc9 => ?_)
  · have hf := x_ip hc9 hf
    refine x_iload C 1 dL_law_1077 rfl ?_
    refine x_if_ne C 1094 dL_law_1079 (by decide) (fun hc10 => ?_) (fun hc10 => ?_)
    · have hf := x_ine hc10 hf
      refine x_goto C 2752 dL_law_1094 (by decide) ?_
      obtain rfl := Option.some.inj hf
      refine x_widen (k' := k0 + 54) (n' := n0 + 7600) (by omega) (by omega) ?_
      refine x_sub [2, 3, 4, 5, 6, 7] rfl ?_
      exact kk _
    · have hf := x_ip hc10 hf
      refine x_aload_n C 5 dL_law_1082 rfl ?_
      refine x_iconst (v := 0) C dL_law_1083 (by decide) ?_
      refine x_lald C dL_law_1084 ?_
      refine x_iload C 0 dL_law_1085 rfl ?_
      refine x_i2l (v := q5.1.toInt64) C dL_law_1087 rfl ?_
      refine x_lcmp C dL_law_1088 ?_
      refine x_if_eq C 1094 dL_law_1089 (by decide) (fun hc11 => ?_) (fun hc11 => ?_)
      · have hf := x_ip hc11 hf
        refine x_goto C 2752 dL_law_1094 (by decide) ?_
        obtain rfl := Option.some.inj hf
        refine x_widen (k' := k0 + 54) (n' := n0 + 7600) (by omega) (by omega) ?_
        refine x_sub [2, 3, 4, 5, 6, 7] rfl ?_
        exact kk _
      · have hf := x_ine hc11 hf
        cases hf
  · have hf := x_ine hc9 hf
    cases hf
def f_law_c15 (sc : Nat → Int32) (L : Nat) (i : Int32) (M : xM) : Option xM := if x_in (i + (1 : Int32)) L = true then (f_L_isCalled (sc (i + (1 : Int32)).toNatClampNeg) M).bind fun q2 => if x_in (i + (1 : Int32)) L = true then (f_X7_isCalled (sc (i + (1 : Int32)).toNatClampNeg) q2.2).bind fun q5 => (f_X7_thrown q5.2).bind fun q7 => (if q7 = q2.1 then (if q2.1 = 0 then (if q5.1 = 0 then (if (lg_cmp q5.2.2.2.1 (0 : Int64)) = 0 then some q5.2 else none) else (if (lg_cmp q5.2.2.2.1 (1 : Int64)) = 0 then some q5.2 else none)) else some q5.2) else none) else none else none
set_option maxHeartbeats 4000000 in
set_option maxRecDepth 100000 in
theorem t_law_c15 {G : xG} {p : Program} {l : Launch} {e : Env} {s : State} {m : MethodId} {args : Array Value} {below : List Frame} {meth : Method} {c : Code} {Q : State → Prop} {b L : Nat} {sc : Nat → Int32} (C : xC G p s m args c cL_law 9 wsL_law RL) (hfl : l.stackTraces = false) (X : xLw G s b L sc) {i : Int32} {M M9 : xM} {ta : Nat × Nat} {k0 n0 : Nat} (hk0 : k0 + 54 ≤ 603072) (hn0 : n0 + 7600 ≤ 7166058) (hf : f_law_c15 sc L i M = some M9) (kk : ∀ ta2, xW G p l e room_1 s m args below meth c 9 Q (k0 + 54) (n0 + 7600) ta2 M9 2752 [(0, .ref b), (1, .ref (xad G 0)), (2, .ref (xad G 9)), (3, .ref (xad G 20)), (4, .ref (xad G 21)), (5, .int i)] []) : xW G p l e room_1 s m args below meth c 9 Q k0 n0 ta M 1097 [(0, .ref b), (1, .ref (xad G 0)), (2, .ref (xad G 9)), (3, .ref (xad G 20)), (4, .ref (xad G 21)), (5, .int i)] [] := by
  unfold f_law_c15 at hf
  refine x_aload_n C 1 dL_law_1097 rfl ?_
  refine x_aload_n C 0 dL_law_1098 rfl ?_
  refine x_iload C 5 dL_law_1099 rfl ?_
  refine x_iconst (v := 1) C dL_law_1101 (by decide) ?_
  refine x_iadd C dL_law_1102 ?_
  obtain ⟨g1, hf⟩ := x_gd hf
  refine x_sald C X g1 dL_law_1103 ?_
  refine x_aload_n C 3 dL_law_1104 rfl ?_
  obtain ⟨q2, hg, hf⟩ := x_bd hf
  refine x_callSWr C (t_L_isCalled hfl hg) (vx_cwSW 3 C.1.2.2.2.2 gL_law_L_isCalled rfl rfl rfl (by decide +kernel) ⟨Nat.le_of_ble_eq_true rfl, Nat.le_of_ble_eq_true rfl⟩) rfl rfl (Nat.le_of_ble_eq_true rfl) dL_law_1105 ⟨by show _ ≤ (603072 : Nat); omega, by show _ ≤ (7166058 : Nat); omega⟩ (fun ta3 => ?_)
  clear hg
  refine x_istore (lv' := [(6, .int q2.1), (0, .ref b), (1, .ref (xad G 0)), (2, .ref (xad G 9)), (3, .ref (xad G 20)), (4, .ref (xad G 21)), (5, .int i)]) C dL_law_1108 (by decide) rfl ?_
  refine x_aload_n C 3 dL_law_1110 rfl ?_
  refine x_aload_n C 1 dL_law_1111 rfl ?_
  refine x_iload C 6 dL_law_1112 rfl ?_
  refine x_iconst (v := 1) C dL_law_1114 (by decide) ?_
  refine x_iadd C dL_law_1115 ?_
  obtain ⟨g4, hf⟩ := x_gd hf
  refine x_sald C X g4 dL_law_1116 ?_
  obtain ⟨q5, hg, hf⟩ := x_bd hf
  refine x_callVr C (by rw [xkd_9]; decide) (by rw [xkd_9]; decide) (xc9 xkd_9) rfl (t_X7_isCalled hg) (cwV 1 C.1.2.2.2.2 gL_law_X7_isCalled rfl rfl rfl (by decide +kernel) ⟨Nat.le_of_ble_eq_true rfl, Nat.le_of_ble_eq_true rfl⟩) rfl rfl (Nat.le_of_ble_eq_true rfl) dL_law_1117 ⟨by show _ ≤ (603072 : Nat); omega, by show _ ≤ (7166058 : Nat); omega⟩ (fun ta6 => ?_)
  clear hg
  refine x_istore (lv' := [(7, .int q5.1), (6, .int q2.1), (0, .ref b), (1, .ref (xad G 0)), (2, .ref (xad G 9)), (3, .ref (xad G 20)), (4, .ref (xad G 21)), (5, .int i)]) C dL_law_1120 (by decide) rfl ?_
  refine x_aload_n C 4 dL_law_1122 rfl ?_
  obtain ⟨q7, hg, hf⟩ := x_bd hf
  refine x_callVr C (by rw [xkd_9]; decide) (by rw [xkd_9]; decide) (xc9 xkd_9) rfl (t_X7_thrown hg) (cwV 0 C.1.2.2.2.2 gL_law_X7_thrown rfl rfl rfl (by decide +kernel) ⟨Nat.le_of_ble_eq_true rfl, Nat.le_of_ble_eq_true rfl⟩) rfl rfl (Nat.le_of_ble_eq_true rfl) dL_law_1123 ⟨by show _ ≤ (603072 : Nat); omega, by show _ ≤ (7166058 : Nat); omega⟩ (fun ta8 => ?_)
  clear hg
  refine x_iload C 1 dL_law_1126 rfl ?_
  refine x_icmp_eq C 1133 dL_law_1128 (by decide) (fun hc9 => ?_) (fun hc9 => ?_)
  · have hf := x_ip hc9 hf
    refine x_iload C 1 dL_law_1133 rfl ?_
    refine x_if_ne C 1157 dL_law_1135 (by decide) (fun hc10 => ?_) (fun hc10 => ?_)
    · have hf := x_ine hc10 hf
      refine x_goto C 2752 dL_law_1157 (by decide) ?_
      obtain rfl := Option.some.inj hf
      refine x_widen (k' := k0 + 54) (n' := n0 + 7600) (by omega) (by omega) ?_
      refine x_sub [2, 3, 4, 5, 6, 7] rfl ?_
      exact kk _
    · have hf := x_ip hc10 hf
      refine x_aload_n C 5 dL_law_1138 rfl ?_
      refine x_iconst (v := 0) C dL_law_1139 (by decide) ?_
      refine x_lald C dL_law_1140 ?_
      refine x_iload C 0 dL_law_1141 rfl ?_
      refine x_if_eq C 1150 dL_law_1143 (by decide) (fun hc11 => ?_) (fun hc11 => ?_)
      · have hf := x_ip hc11 hf
        refine x_lconst (v := 0) C dL_law_1150 (by decide) ?_
        refine x_lcmp C dL_law_1151 ?_
        refine x_if_eq C 1157 dL_law_1152 (by decide) (fun hc12 => ?_) (fun hc12 => ?_)
        · have hf := x_ip hc12 hf
          refine x_goto C 2752 dL_law_1157 (by decide) ?_
          obtain rfl := Option.some.inj hf
          refine x_widen (k' := k0 + 54) (n' := n0 + 7600) (by omega) (by omega) ?_
          refine x_sub [2, 3, 4, 5, 6, 7] rfl ?_
          exact kk _
        · have hf := x_ine hc12 hf
          cases hf
      · have hf := x_ine hc11 hf
        refine x_lconst (v := 1) C dL_law_1146 (by decide) ?_
        refine x_goto C 1151 dL_law_1147 (by decide) ?_
        refine x_lcmp C dL_law_1151 ?_
        refine x_if_eq C 1157 dL_law_1152 (by decide) (fun hc13 => ?_) (fun hc13 => ?_)
        · have hf := x_ip hc13 hf
          refine x_goto C 2752 dL_law_1157 (by decide) ?_
          obtain rfl := Option.some.inj hf
          refine x_widen (k' := k0 + 54) (n' := n0 + 7600) (by omega) (by omega) ?_
          refine x_sub [2, 3, 4, 5, 6, 7] rfl ?_
          exact kk _
        · have hf := x_ine hc13 hf
          cases hf
  · have hf := x_ine hc9 hf
    cases hf
def f_law_c16 (sc : Nat → Int32) (L : Nat) (i : Int32) (M : xM) : Option xM := if x_in (i + (1 : Int32)) L = true then (f_L_isSitting (sc (i + (1 : Int32)).toNatClampNeg) M).bind fun q2 => if x_in (i + (1 : Int32)) L = true then (f_X7_isSitting (sc (i + (1 : Int32)).toNatClampNeg) q2.2).bind fun q5 => (f_X7_thrown q5.2).bind fun q7 => (if q7 = q2.1 then (if q2.1 = 0 then (if q5.1 = 0 then (if (lg_cmp q5.2.2.2.1 (0 : Int64)) = 0 then some q5.2 else none) else (if (lg_cmp q5.2.2.2.1 (1 : Int64)) = 0 then some q5.2 else none)) else some q5.2) else none) else none else none
set_option maxHeartbeats 4000000 in
set_option maxRecDepth 100000 in
theorem t_law_c16 {G : xG} {p : Program} {l : Launch} {e : Env} {s : State} {m : MethodId} {args : Array Value} {below : List Frame} {meth : Method} {c : Code} {Q : State → Prop} {b L : Nat} {sc : Nat → Int32} (C : xC G p s m args c cL_law 9 wsL_law RL) (hfl : l.stackTraces = false) (X : xLw G s b L sc) {i : Int32} {M M9 : xM} {ta : Nat × Nat} {k0 n0 : Nat} (hk0 : k0 + 54 ≤ 603072) (hn0 : n0 + 7600 ≤ 7166058) (hf : f_law_c16 sc L i M = some M9) (kk : ∀ ta2, xW G p l e room_1 s m args below meth c 9 Q (k0 + 54) (n0 + 7600) ta2 M9 2752 [(0, .ref b), (1, .ref (xad G 0)), (2, .ref (xad G 9)), (3, .ref (xad G 20)), (4, .ref (xad G 21)), (5, .int i)] []) : xW G p l e room_1 s m args below meth c 9 Q k0 n0 ta M 1160 [(0, .ref b), (1, .ref (xad G 0)), (2, .ref (xad G 9)), (3, .ref (xad G 20)), (4, .ref (xad G 21)), (5, .int i)] [] := by
  unfold f_law_c16 at hf
  refine x_aload_n C 1 dL_law_1160 rfl ?_
  refine x_aload_n C 0 dL_law_1161 rfl ?_
  refine x_iload C 5 dL_law_1162 rfl ?_
  refine x_iconst (v := 1) C dL_law_1164 (by decide) ?_
  refine x_iadd C dL_law_1165 ?_
  obtain ⟨g1, hf⟩ := x_gd hf
  refine x_sald C X g1 dL_law_1166 ?_
  refine x_aload_n C 3 dL_law_1167 rfl ?_
  obtain ⟨q2, hg, hf⟩ := x_bd hf
  refine x_callSWr C (t_L_isSitting hfl hg) (vx_cwSW 3 C.1.2.2.2.2 gL_law_L_isSitting rfl rfl rfl (by decide +kernel) ⟨Nat.le_of_ble_eq_true rfl, Nat.le_of_ble_eq_true rfl⟩) rfl rfl (Nat.le_of_ble_eq_true rfl) dL_law_1168 ⟨by show _ ≤ (603072 : Nat); omega, by show _ ≤ (7166058 : Nat); omega⟩ (fun ta3 => ?_)
  clear hg
  refine x_istore (lv' := [(6, .int q2.1), (0, .ref b), (1, .ref (xad G 0)), (2, .ref (xad G 9)), (3, .ref (xad G 20)), (4, .ref (xad G 21)), (5, .int i)]) C dL_law_1171 (by decide) rfl ?_
  refine x_aload_n C 3 dL_law_1173 rfl ?_
  refine x_aload_n C 1 dL_law_1174 rfl ?_
  refine x_iload C 6 dL_law_1175 rfl ?_
  refine x_iconst (v := 1) C dL_law_1177 (by decide) ?_
  refine x_iadd C dL_law_1178 ?_
  obtain ⟨g4, hf⟩ := x_gd hf
  refine x_sald C X g4 dL_law_1179 ?_
  obtain ⟨q5, hg, hf⟩ := x_bd hf
  refine x_callVr C (by rw [xkd_9]; decide) (by rw [xkd_9]; decide) (xc9 xkd_9) rfl (t_X7_isSitting hg) (cwV 1 C.1.2.2.2.2 gL_law_X7_isSitting rfl rfl rfl (by decide +kernel) ⟨Nat.le_of_ble_eq_true rfl, Nat.le_of_ble_eq_true rfl⟩) rfl rfl (Nat.le_of_ble_eq_true rfl) dL_law_1180 ⟨by show _ ≤ (603072 : Nat); omega, by show _ ≤ (7166058 : Nat); omega⟩ (fun ta6 => ?_)
  clear hg
  refine x_istore (lv' := [(7, .int q5.1), (6, .int q2.1), (0, .ref b), (1, .ref (xad G 0)), (2, .ref (xad G 9)), (3, .ref (xad G 20)), (4, .ref (xad G 21)), (5, .int i)]) C dL_law_1183 (by decide) rfl ?_
  refine x_aload_n C 4 dL_law_1185 rfl ?_
  obtain ⟨q7, hg, hf⟩ := x_bd hf
  refine x_callVr C (by rw [xkd_9]; decide) (by rw [xkd_9]; decide) (xc9 xkd_9) rfl (t_X7_thrown hg) (cwV 0 C.1.2.2.2.2 gL_law_X7_thrown rfl rfl rfl (by decide +kernel) ⟨Nat.le_of_ble_eq_true rfl, Nat.le_of_ble_eq_true rfl⟩) rfl rfl (Nat.le_of_ble_eq_true rfl) dL_law_1186 ⟨by show _ ≤ (603072 : Nat); omega, by show _ ≤ (7166058 : Nat); omega⟩ (fun ta8 => ?_)
  clear hg
  refine x_iload C 1 dL_law_1189 rfl ?_
  refine x_icmp_eq C 1196 dL_law_1191 (by decide) (fun hc9 => ?_) (fun hc9 => ?_)
  · have hf := x_ip hc9 hf
    refine x_iload C 1 dL_law_1196 rfl ?_
    refine x_if_ne C 1220 dL_law_1198 (by decide) (fun hc10 => ?_) (fun hc10 => ?_)
    · have hf := x_ine hc10 hf
      refine x_goto C 2752 dL_law_1220 (by decide) ?_
      obtain rfl := Option.some.inj hf
      refine x_widen (k' := k0 + 54) (n' := n0 + 7600) (by omega) (by omega) ?_
      refine x_sub [2, 3, 4, 5, 6, 7] rfl ?_
      exact kk _
    · have hf := x_ip hc10 hf
      refine x_aload_n C 5 dL_law_1201 rfl ?_
      refine x_iconst (v := 0) C dL_law_1202 (by decide) ?_
      refine x_lald C dL_law_1203 ?_
      refine x_iload C 0 dL_law_1204 rfl ?_
      refine x_if_eq C 1213 dL_law_1206 (by decide) (fun hc11 => ?_) (fun hc11 => ?_)
      · have hf := x_ip hc11 hf
        refine x_lconst (v := 0) C dL_law_1213 (by decide) ?_
        refine x_lcmp C dL_law_1214 ?_
        refine x_if_eq C 1220 dL_law_1215 (by decide) (fun hc12 => ?_) (fun hc12 => ?_)
        · have hf := x_ip hc12 hf
          refine x_goto C 2752 dL_law_1220 (by decide) ?_
          obtain rfl := Option.some.inj hf
          refine x_widen (k' := k0 + 54) (n' := n0 + 7600) (by omega) (by omega) ?_
          refine x_sub [2, 3, 4, 5, 6, 7] rfl ?_
          exact kk _
        · have hf := x_ine hc12 hf
          cases hf
      · have hf := x_ine hc11 hf
        refine x_lconst (v := 1) C dL_law_1209 (by decide) ?_
        refine x_goto C 1214 dL_law_1210 (by decide) ?_
        refine x_lcmp C dL_law_1214 ?_
        refine x_if_eq C 1220 dL_law_1215 (by decide) (fun hc13 => ?_) (fun hc13 => ?_)
        · have hf := x_ip hc13 hf
          refine x_goto C 2752 dL_law_1220 (by decide) ?_
          obtain rfl := Option.some.inj hf
          refine x_widen (k' := k0 + 54) (n' := n0 + 7600) (by omega) (by omega) ?_
          refine x_sub [2, 3, 4, 5, 6, 7] rfl ?_
          exact kk _
        · have hf := x_ine hc13 hf
          cases hf
  · have hf := x_ine hc9 hf
    cases hf
def f_law_c17 (sc : Nat → Int32) (L : Nat) (i : Int32) (M : xM) : Option xM := if x_in (i + (1 : Int32)) L = true then (f_L_position (sc (i + (1 : Int32)).toNatClampNeg) M).bind fun q2 => if x_in (i + (1 : Int32)) L = true then (f_X7_position (sc (i + (1 : Int32)).toNatClampNeg) q2.2).bind fun q5 => (f_X7_thrown q5.2).bind fun q7 => (if q7 = q2.1 then (if q2.1 = 0 then (if (lg_cmp q5.2.2.2.1 q5.1.toInt64) = 0 then some q5.2 else none) else some q5.2) else none) else none else none
set_option maxHeartbeats 4000000 in
set_option maxRecDepth 100000 in
theorem t_law_c17 {G : xG} {p : Program} {l : Launch} {e : Env} {s : State} {m : MethodId} {args : Array Value} {below : List Frame} {meth : Method} {c : Code} {Q : State → Prop} {b L : Nat} {sc : Nat → Int32} (C : xC G p s m args c cL_law 9 wsL_law RL) (hfl : l.stackTraces = false) (X : xLw G s b L sc) {i : Int32} {M M9 : xM} {ta : Nat × Nat} {k0 n0 : Nat} (hk0 : k0 + 54 ≤ 603072) (hn0 : n0 + 7600 ≤ 7166058) (hf : f_law_c17 sc L i M = some M9) (kk : ∀ ta2, xW G p l e room_1 s m args below meth c 9 Q (k0 + 54) (n0 + 7600) ta2 M9 2752 [(0, .ref b), (1, .ref (xad G 0)), (2, .ref (xad G 9)), (3, .ref (xad G 20)), (4, .ref (xad G 21)), (5, .int i)] []) : xW G p l e room_1 s m args below meth c 9 Q k0 n0 ta M 1223 [(0, .ref b), (1, .ref (xad G 0)), (2, .ref (xad G 9)), (3, .ref (xad G 20)), (4, .ref (xad G 21)), (5, .int i)] [] := by
  unfold f_law_c17 at hf
  refine x_aload_n C 1 dL_law_1223 rfl ?_
  refine x_aload_n C 0 dL_law_1224 rfl ?_
  refine x_iload C 5 dL_law_1225 rfl ?_
  refine x_iconst (v := 1) C dL_law_1227 (by decide) ?_
  refine x_iadd C dL_law_1228 ?_
  obtain ⟨g1, hf⟩ := x_gd hf
  refine x_sald C X g1 dL_law_1229 ?_
  refine x_aload_n C 3 dL_law_1230 rfl ?_
  obtain ⟨q2, hg, hf⟩ := x_bd hf
  refine x_callSWr C (t_L_position hfl hg) (vx_cwSW 3 C.1.2.2.2.2 gL_law_L_position rfl rfl rfl (by decide +kernel) ⟨Nat.le_of_ble_eq_true rfl, Nat.le_of_ble_eq_true rfl⟩) rfl rfl (Nat.le_of_ble_eq_true rfl) dL_law_1231 ⟨by show _ ≤ (603072 : Nat); omega, by show _ ≤ (7166058 : Nat); omega⟩ (fun ta3 => ?_)
  clear hg
  refine x_istore (lv' := [(6, .int q2.1), (0, .ref b), (1, .ref (xad G 0)), (2, .ref (xad G 9)), (3, .ref (xad G 20)), (4, .ref (xad G 21)), (5, .int i)]) C dL_law_1234 (by decide) rfl ?_
  refine x_aload_n C 3 dL_law_1236 rfl ?_
  refine x_aload_n C 1 dL_law_1237 rfl ?_
  refine x_iload C 6 dL_law_1238 rfl ?_
  refine x_iconst (v := 1) C dL_law_1240 (by decide) ?_
  refine x_iadd C dL_law_1241 ?_
  obtain ⟨g4, hf⟩ := x_gd hf
  refine x_sald C X g4 dL_law_1242 ?_
  obtain ⟨q5, hg, hf⟩ := x_bd hf
  refine x_callVr C (by rw [xkd_9]; decide) (by rw [xkd_9]; decide) (xc9 xkd_9) rfl (t_X7_position hg) (cwV 1 C.1.2.2.2.2 gL_law_X7_position rfl rfl rfl (by decide +kernel) ⟨Nat.le_of_ble_eq_true rfl, Nat.le_of_ble_eq_true rfl⟩) rfl rfl (Nat.le_of_ble_eq_true rfl) dL_law_1243 ⟨by show _ ≤ (603072 : Nat); omega, by show _ ≤ (7166058 : Nat); omega⟩ (fun ta6 => ?_)
  clear hg
  refine x_istore (lv' := [(7, .int q5.1), (6, .int q2.1), (0, .ref b), (1, .ref (xad G 0)), (2, .ref (xad G 9)), (3, .ref (xad G 20)), (4, .ref (xad G 21)), (5, .int i)]) C dL_law_1246 (by decide) rfl ?_
  refine x_aload_n C 4 dL_law_1248 rfl ?_
  obtain ⟨q7, hg, hf⟩ := x_bd hf
  refine x_callVr C (by rw [xkd_9]; decide) (by rw [xkd_9]; decide) (xc9 xkd_9) rfl (t_X7_thrown hg) (cwV 0 C.1.2.2.2.2 gL_law_X7_thrown rfl rfl rfl (by decide +kernel) ⟨Nat.le_of_ble_eq_true rfl, Nat.le_of_ble_eq_true rfl⟩) rfl rfl (Nat.le_of_ble_eq_true rfl) dL_law_1249 ⟨by show _ ≤ (603072 : Nat); omega, by show _ ≤ (7166058 : Nat); omega⟩ (fun ta8 => ?_)
  clear hg
  refine x_iload C 1 dL_law_1252 rfl ?_
  refine x_icmp_eq C 1259 dL_law_1254 (by decide) (fun hc9 => ?_) (fun hc9 => ?_)
  · have hf := x_ip hc9 hf
    refine x_iload C 1 dL_law_1259 rfl ?_
    refine x_if_ne C 1276 dL_law_1261 (by decide) (fun hc10 => ?_) (fun hc10 => ?_)
    · have hf := x_ine hc10 hf
      refine x_goto C 2752 dL_law_1276 (by decide) ?_
      obtain rfl := Option.some.inj hf
      refine x_widen (k' := k0 + 54) (n' := n0 + 7600) (by omega) (by omega) ?_
      refine x_sub [2, 3, 4, 5, 6, 7] rfl ?_
      exact kk _
    · have hf := x_ip hc10 hf
      refine x_aload_n C 5 dL_law_1264 rfl ?_
      refine x_iconst (v := 0) C dL_law_1265 (by decide) ?_
      refine x_lald C dL_law_1266 ?_
      refine x_iload C 0 dL_law_1267 rfl ?_
      refine x_i2l (v := q5.1.toInt64) C dL_law_1269 rfl ?_
      refine x_lcmp C dL_law_1270 ?_
      refine x_if_eq C 1276 dL_law_1271 (by decide) (fun hc11 => ?_) (fun hc11 => ?_)
      · have hf := x_ip hc11 hf
        refine x_goto C 2752 dL_law_1276 (by decide) ?_
        obtain rfl := Option.some.inj hf
        refine x_widen (k' := k0 + 54) (n' := n0 + 7600) (by omega) (by omega) ?_
        refine x_sub [2, 3, 4, 5, 6, 7] rfl ?_
        exact kk _
      · have hf := x_ine hc11 hf
        cases hf
  · have hf := x_ine hc9 hf
    cases hf
def f_law_c18 (sc : Nat → Int32) (L : Nat) (i : Int32) (M : xM) : Option xM := if x_in (i + (1 : Int32)) L = true then (f_L_windowOfCustomer (sc (i + (1 : Int32)).toNatClampNeg) M).bind fun q2 => if x_in (i + (1 : Int32)) L = true then (f_X7_windowOfCustomer (sc (i + (1 : Int32)).toNatClampNeg) q2.2).bind fun q5 => (f_X7_thrown q5.2).bind fun q7 => (if q7 = q2.1 then (if q2.1 = 0 then (if (lg_cmp q5.2.2.2.1 q5.1.toInt64) = 0 then some q5.2 else none) else some q5.2) else none) else none else none
set_option maxHeartbeats 4000000 in
set_option maxRecDepth 100000 in
theorem t_law_c18 {G : xG} {p : Program} {l : Launch} {e : Env} {s : State} {m : MethodId} {args : Array Value} {below : List Frame} {meth : Method} {c : Code} {Q : State → Prop} {b L : Nat} {sc : Nat → Int32} (C : xC G p s m args c cL_law 9 wsL_law RL) (hfl : l.stackTraces = false) (X : xLw G s b L sc) {i : Int32} {M M9 : xM} {ta : Nat × Nat} {k0 n0 : Nat} (hk0 : k0 + 54 ≤ 603072) (hn0 : n0 + 7600 ≤ 7166058) (hf : f_law_c18 sc L i M = some M9) (kk : ∀ ta2, xW G p l e room_1 s m args below meth c 9 Q (k0 + 54) (n0 + 7600) ta2 M9 2752 [(0, .ref b), (1, .ref (xad G 0)), (2, .ref (xad G 9)), (3, .ref (xad G 20)), (4, .ref (xad G 21)), (5, .int i)] []) : xW G p l e room_1 s m args below meth c 9 Q k0 n0 ta M 1279 [(0, .ref b), (1, .ref (xad G 0)), (2, .ref (xad G 9)), (3, .ref (xad G 20)), (4, .ref (xad G 21)), (5, .int i)] [] := by
  unfold f_law_c18 at hf
  refine x_aload_n C 1 dL_law_1279 rfl ?_
  refine x_aload_n C 0 dL_law_1280 rfl ?_
  refine x_iload C 5 dL_law_1281 rfl ?_
  refine x_iconst (v := 1) C dL_law_1283 (by decide) ?_
  refine x_iadd C dL_law_1284 ?_
  obtain ⟨g1, hf⟩ := x_gd hf
  refine x_sald C X g1 dL_law_1285 ?_
  refine x_aload_n C 3 dL_law_1286 rfl ?_
  obtain ⟨q2, hg, hf⟩ := x_bd hf
  refine x_callSWr C (t_L_windowOfCustomer hfl hg) (vx_cwSW 3 C.1.2.2.2.2 gL_law_L_windowOfCustomer rfl rfl rfl (by decide +kernel) ⟨Nat.le_of_ble_eq_true rfl, Nat.le_of_ble_eq_true rfl⟩) rfl rfl (Nat.le_of_ble_eq_true rfl) dL_law_1287 ⟨by show _ ≤ (603072 : Nat); omega, by show _ ≤ (7166058 : Nat); omega⟩ (fun ta3 => ?_)
  clear hg
  refine x_istore (lv' := [(6, .int q2.1), (0, .ref b), (1, .ref (xad G 0)), (2, .ref (xad G 9)), (3, .ref (xad G 20)), (4, .ref (xad G 21)), (5, .int i)]) C dL_law_1290 (by decide) rfl ?_
  refine x_aload_n C 3 dL_law_1292 rfl ?_
  refine x_aload_n C 1 dL_law_1293 rfl ?_
  refine x_iload C 6 dL_law_1294 rfl ?_
  refine x_iconst (v := 1) C dL_law_1296 (by decide) ?_
  refine x_iadd C dL_law_1297 ?_
  obtain ⟨g4, hf⟩ := x_gd hf
  refine x_sald C X g4 dL_law_1298 ?_
  obtain ⟨q5, hg, hf⟩ := x_bd hf
  refine x_callVr C (by rw [xkd_9]; decide) (by rw [xkd_9]; decide) (xc9 xkd_9) rfl (t_X7_windowOfCustomer hg) (cwV 1 C.1.2.2.2.2 gL_law_X7_windowOfCustomer rfl rfl rfl (by decide +kernel) ⟨Nat.le_of_ble_eq_true rfl, Nat.le_of_ble_eq_true rfl⟩) rfl rfl (Nat.le_of_ble_eq_true rfl) dL_law_1299 ⟨by show _ ≤ (603072 : Nat); omega, by show _ ≤ (7166058 : Nat); omega⟩ (fun ta6 => ?_)
  clear hg
  refine x_istore (lv' := [(7, .int q5.1), (6, .int q2.1), (0, .ref b), (1, .ref (xad G 0)), (2, .ref (xad G 9)), (3, .ref (xad G 20)), (4, .ref (xad G 21)), (5, .int i)]) C dL_law_1302 (by decide) rfl ?_
  refine x_aload_n C 4 dL_law_1304 rfl ?_
  obtain ⟨q7, hg, hf⟩ := x_bd hf
  refine x_callVr C (by rw [xkd_9]; decide) (by rw [xkd_9]; decide) (xc9 xkd_9) rfl (t_X7_thrown hg) (cwV 0 C.1.2.2.2.2 gL_law_X7_thrown rfl rfl rfl (by decide +kernel) ⟨Nat.le_of_ble_eq_true rfl, Nat.le_of_ble_eq_true rfl⟩) rfl rfl (Nat.le_of_ble_eq_true rfl) dL_law_1305 ⟨by show _ ≤ (603072 : Nat); omega, by show _ ≤ (7166058 : Nat); omega⟩ (fun ta8 => ?_)
  clear hg
  refine x_iload C 1 dL_law_1308 rfl ?_
  refine x_icmp_eq C 1315 dL_law_1310 (by decide) (fun hc9 => ?_) (fun hc9 => ?_)
  · have hf := x_ip hc9 hf
    refine x_iload C 1 dL_law_1315 rfl ?_
    refine x_if_ne C 1332 dL_law_1317 (by decide) (fun hc10 => ?_) (fun hc10 => ?_)
    · have hf := x_ine hc10 hf
      refine x_goto C 2752 dL_law_1332 (by decide) ?_
      obtain rfl := Option.some.inj hf
      refine x_widen (k' := k0 + 54) (n' := n0 + 7600) (by omega) (by omega) ?_
      refine x_sub [2, 3, 4, 5, 6, 7] rfl ?_
      exact kk _
    · have hf := x_ip hc10 hf
      refine x_aload_n C 5 dL_law_1320 rfl ?_
      refine x_iconst (v := 0) C dL_law_1321 (by decide) ?_
      refine x_lald C dL_law_1322 ?_
      refine x_iload C 0 dL_law_1323 rfl ?_
      refine x_i2l (v := q5.1.toInt64) C dL_law_1325 rfl ?_
      refine x_lcmp C dL_law_1326 ?_
      refine x_if_eq C 1332 dL_law_1327 (by decide) (fun hc11 => ?_) (fun hc11 => ?_)
      · have hf := x_ip hc11 hf
        refine x_goto C 2752 dL_law_1332 (by decide) ?_
        obtain rfl := Option.some.inj hf
        refine x_widen (k' := k0 + 54) (n' := n0 + 7600) (by omega) (by omega) ?_
        refine x_sub [2, 3, 4, 5, 6, 7] rfl ?_
        exact kk _
      · have hf := x_ine hc11 hf
        cases hf
  · have hf := x_ine hc9 hf
    cases hf
def f_law_c19 (sc : Nat → Int32) (L : Nat) (i : Int32) (M : xM) : Option xM := if x_in (i + (1 : Int32)) L = true then (f_L_customerAtPosition (sc (i + (1 : Int32)).toNatClampNeg) M).bind fun q2 => if x_in (i + (1 : Int32)) L = true then (f_X7_customerAtPosition (sc (i + (1 : Int32)).toNatClampNeg) q2.2).bind fun q5 => (f_X7_thrown q5.2).bind fun q7 => (if q7 = q2.1 then (if q2.1 = 0 then (if (lg_cmp q5.2.2.2.1 q5.1.toInt64) = 0 then some q5.2 else none) else some q5.2) else none) else none else none
set_option maxHeartbeats 4000000 in
set_option maxRecDepth 100000 in
theorem t_law_c19 {G : xG} {p : Program} {l : Launch} {e : Env} {s : State} {m : MethodId} {args : Array Value} {below : List Frame} {meth : Method} {c : Code} {Q : State → Prop} {b L : Nat} {sc : Nat → Int32} (C : xC G p s m args c cL_law 9 wsL_law RL) (hfl : l.stackTraces = false) (X : xLw G s b L sc) {i : Int32} {M M9 : xM} {ta : Nat × Nat} {k0 n0 : Nat} (hk0 : k0 + 54 ≤ 603072) (hn0 : n0 + 7600 ≤ 7166058) (hf : f_law_c19 sc L i M = some M9) (kk : ∀ ta2, xW G p l e room_1 s m args below meth c 9 Q (k0 + 54) (n0 + 7600) ta2 M9 2752 [(0, .ref b), (1, .ref (xad G 0)), (2, .ref (xad G 9)), (3, .ref (xad G 20)), (4, .ref (xad G 21)), (5, .int i)] []) : xW G p l e room_1 s m args below meth c 9 Q k0 n0 ta M 1335 [(0, .ref b), (1, .ref (xad G 0)), (2, .ref (xad G 9)), (3, .ref (xad G 20)), (4, .ref (xad G 21)), (5, .int i)] [] := by
  unfold f_law_c19 at hf
  refine x_aload_n C 1 dL_law_1335 rfl ?_
  refine x_aload_n C 0 dL_law_1336 rfl ?_
  refine x_iload C 5 dL_law_1337 rfl ?_
  refine x_iconst (v := 1) C dL_law_1339 (by decide) ?_
  refine x_iadd C dL_law_1340 ?_
  obtain ⟨g1, hf⟩ := x_gd hf
  refine x_sald C X g1 dL_law_1341 ?_
  refine x_aload_n C 3 dL_law_1342 rfl ?_
  obtain ⟨q2, hg, hf⟩ := x_bd hf
  refine x_callSWr C (t_L_customerAtPosition hfl hg) (vx_cwSW 3 C.1.2.2.2.2 gL_law_L_customerAtPosition rfl rfl rfl (by decide +kernel) ⟨Nat.le_of_ble_eq_true rfl, Nat.le_of_ble_eq_true rfl⟩) rfl rfl (Nat.le_of_ble_eq_true rfl) dL_law_1343 ⟨by show _ ≤ (603072 : Nat); omega, by show _ ≤ (7166058 : Nat); omega⟩ (fun ta3 => ?_)
  clear hg
  refine x_istore (lv' := [(6, .int q2.1), (0, .ref b), (1, .ref (xad G 0)), (2, .ref (xad G 9)), (3, .ref (xad G 20)), (4, .ref (xad G 21)), (5, .int i)]) C dL_law_1346 (by decide) rfl ?_
  refine x_aload_n C 3 dL_law_1348 rfl ?_
  refine x_aload_n C 1 dL_law_1349 rfl ?_
  refine x_iload C 6 dL_law_1350 rfl ?_
  refine x_iconst (v := 1) C dL_law_1352 (by decide) ?_
  refine x_iadd C dL_law_1353 ?_
  obtain ⟨g4, hf⟩ := x_gd hf
  refine x_sald C X g4 dL_law_1354 ?_
  obtain ⟨q5, hg, hf⟩ := x_bd hf
  refine x_callVr C (by rw [xkd_9]; decide) (by rw [xkd_9]; decide) (xc9 xkd_9) rfl (t_X7_customerAtPosition hg) (cwV 1 C.1.2.2.2.2 gL_law_X7_customerAtPosition rfl rfl rfl (by decide +kernel) ⟨Nat.le_of_ble_eq_true rfl, Nat.le_of_ble_eq_true rfl⟩) rfl rfl (Nat.le_of_ble_eq_true rfl) dL_law_1355 ⟨by show _ ≤ (603072 : Nat); omega, by show _ ≤ (7166058 : Nat); omega⟩ (fun ta6 => ?_)
  clear hg
  refine x_istore (lv' := [(7, .int q5.1), (6, .int q2.1), (0, .ref b), (1, .ref (xad G 0)), (2, .ref (xad G 9)), (3, .ref (xad G 20)), (4, .ref (xad G 21)), (5, .int i)]) C dL_law_1358 (by decide) rfl ?_
  refine x_aload_n C 4 dL_law_1360 rfl ?_
  obtain ⟨q7, hg, hf⟩ := x_bd hf
  refine x_callVr C (by rw [xkd_9]; decide) (by rw [xkd_9]; decide) (xc9 xkd_9) rfl (t_X7_thrown hg) (cwV 0 C.1.2.2.2.2 gL_law_X7_thrown rfl rfl rfl (by decide +kernel) ⟨Nat.le_of_ble_eq_true rfl, Nat.le_of_ble_eq_true rfl⟩) rfl rfl (Nat.le_of_ble_eq_true rfl) dL_law_1361 ⟨by show _ ≤ (603072 : Nat); omega, by show _ ≤ (7166058 : Nat); omega⟩ (fun ta8 => ?_)
  clear hg
  refine x_iload C 1 dL_law_1364 rfl ?_
  refine x_icmp_eq C 1371 dL_law_1366 (by decide) (fun hc9 => ?_) (fun hc9 => ?_)
  · have hf := x_ip hc9 hf
    refine x_iload C 1 dL_law_1371 rfl ?_
    refine x_if_ne C 1388 dL_law_1373 (by decide) (fun hc10 => ?_) (fun hc10 => ?_)
    · have hf := x_ine hc10 hf
      refine x_goto C 2752 dL_law_1388 (by decide) ?_
      obtain rfl := Option.some.inj hf
      refine x_widen (k' := k0 + 54) (n' := n0 + 7600) (by omega) (by omega) ?_
      refine x_sub [2, 3, 4, 5, 6, 7] rfl ?_
      exact kk _
    · have hf := x_ip hc10 hf
      refine x_aload_n C 5 dL_law_1376 rfl ?_
      refine x_iconst (v := 0) C dL_law_1377 (by decide) ?_
      refine x_lald C dL_law_1378 ?_
      refine x_iload C 0 dL_law_1379 rfl ?_
      refine x_i2l (v := q5.1.toInt64) C dL_law_1381 rfl ?_
      refine x_lcmp C dL_law_1382 ?_
      refine x_if_eq C 1388 dL_law_1383 (by decide) (fun hc11 => ?_) (fun hc11 => ?_)
      · have hf := x_ip hc11 hf
        refine x_goto C 2752 dL_law_1388 (by decide) ?_
        obtain rfl := Option.some.inj hf
        refine x_widen (k' := k0 + 54) (n' := n0 + 7600) (by omega) (by omega) ?_
        refine x_sub [2, 3, 4, 5, 6, 7] rfl ?_
        exact kk _
      · have hf := x_ine hc11 hf
        cases hf
  · have hf := x_ine hc9 hf
    cases hf
def f_law_c20 (sc : Nat → Int32) (L : Nat) (i : Int32) (M : xM) : Option xM := (f_X6_queueLength M).bind fun q1 => (f_X7_queueLength M).bind fun q3 => (if q1 = q3.1 then some q3.2 else none)
set_option maxHeartbeats 4000000 in
set_option maxRecDepth 100000 in
theorem t_law_c20 {G : xG} {p : Program} {l : Launch} {e : Env} {s : State} {m : MethodId} {args : Array Value} {below : List Frame} {meth : Method} {c : Code} {Q : State → Prop} {b L : Nat} {sc : Nat → Int32} (C : xC G p s m args c cL_law 9 wsL_law RL) (hfl : l.stackTraces = false) (X : xLw G s b L sc) {i : Int32} {M M9 : xM} {ta : Nat × Nat} {k0 n0 : Nat} (hk0 : k0 + 54 ≤ 603072) (hn0 : n0 + 7600 ≤ 7166058) (hf : f_law_c20 sc L i M = some M9) (kk : ∀ ta2, xW G p l e room_1 s m args below meth c 9 Q (k0 + 54) (n0 + 7600) ta2 M9 2752 [(0, .ref b), (1, .ref (xad G 0)), (2, .ref (xad G 9)), (3, .ref (xad G 20)), (4, .ref (xad G 21)), (5, .int i)] []) : xW G p l e room_1 s m args below meth c 9 Q k0 n0 ta M 1391 [(0, .ref b), (1, .ref (xad G 0)), (2, .ref (xad G 9)), (3, .ref (xad G 20)), (4, .ref (xad G 21)), (5, .int i)] [] := by
  unfold f_law_c20 at hf
  refine x_aload_n C 1 dL_law_1391 rfl ?_
  obtain ⟨q1, hg, hf⟩ := x_bd hf
  refine x_callVr C (by rw [xkd_0]; decide) (by rw [xkd_0]; decide) (xc8 xkd_0) rfl (t_X6_queueLength hg) (cwV 0 C.1.2.2.2.2 gL_law_X6_queueLength rfl rfl rfl (by decide +kernel) ⟨Nat.le_of_ble_eq_true rfl, Nat.le_of_ble_eq_true rfl⟩) rfl rfl (Nat.le_of_ble_eq_true rfl) dL_law_1392 ⟨by show _ ≤ (603072 : Nat); omega, by show _ ≤ (7166058 : Nat); omega⟩ (fun ta2 => ?_)
  clear hg
  refine x_aload_n C 2 dL_law_1395 rfl ?_
  obtain ⟨q3, hg, hf⟩ := x_bd hf
  refine x_callVr C (by rw [xkd_9]; decide) (by rw [xkd_9]; decide) (xc9 xkd_9) rfl (t_X7_queueLength hg) (cwV 0 C.1.2.2.2.2 gL_law_X7_queueLength rfl rfl rfl (by decide +kernel) ⟨Nat.le_of_ble_eq_true rfl, Nat.le_of_ble_eq_true rfl⟩) rfl rfl (Nat.le_of_ble_eq_true rfl) dL_law_1396 ⟨by show _ ≤ (603072 : Nat); omega, by show _ ≤ (7166058 : Nat); omega⟩ (fun ta4 => ?_)
  clear hg
  refine x_icmp_eq C 2752 dL_law_1399 (by decide) (fun hc5 => ?_) (fun hc5 => ?_)
  · have hf := x_ip hc5 hf
    obtain rfl := Option.some.inj hf
    refine x_widen (k' := k0 + 54) (n' := n0 + 7600) (by omega) (by omega) ?_
    refine x_sub [0, 1, 2, 3, 4, 5] rfl ?_
    exact kk _
  · have hf := x_ine hc5 hf
    cases hf
def f_law_c21 (sc : Nat → Int32) (L : Nat) (i : Int32) (M : xM) : Option xM := if x_in (i + (1 : Int32)) L = true then (f_L_openingTimeLeft (sc (i + (1 : Int32)).toNatClampNeg) M).bind fun q2 => if x_in (i + (1 : Int32)) L = true then (f_X7_openingTimeLeft (sc (i + (1 : Int32)).toNatClampNeg) q2.2).bind fun q5 => (f_X7_thrown q5.2).bind fun q7 => (if q7 = q2.1 then (if q2.1 = 0 then (if (lg_cmp q5.2.2.2.1 q5.1.toInt64) = 0 then some q5.2 else none) else some q5.2) else none) else none else none
set_option maxHeartbeats 4000000 in
set_option maxRecDepth 100000 in
theorem t_law_c21 {G : xG} {p : Program} {l : Launch} {e : Env} {s : State} {m : MethodId} {args : Array Value} {below : List Frame} {meth : Method} {c : Code} {Q : State → Prop} {b L : Nat} {sc : Nat → Int32} (C : xC G p s m args c cL_law 9 wsL_law RL) (hfl : l.stackTraces = false) (X : xLw G s b L sc) {i : Int32} {M M9 : xM} {ta : Nat × Nat} {k0 n0 : Nat} (hk0 : k0 + 54 ≤ 603072) (hn0 : n0 + 7600 ≤ 7166058) (hf : f_law_c21 sc L i M = some M9) (kk : ∀ ta2, xW G p l e room_1 s m args below meth c 9 Q (k0 + 54) (n0 + 7600) ta2 M9 2752 [(0, .ref b), (1, .ref (xad G 0)), (2, .ref (xad G 9)), (3, .ref (xad G 20)), (4, .ref (xad G 21)), (5, .int i)] []) : xW G p l e room_1 s m args below meth c 9 Q k0 n0 ta M 1404 [(0, .ref b), (1, .ref (xad G 0)), (2, .ref (xad G 9)), (3, .ref (xad G 20)), (4, .ref (xad G 21)), (5, .int i)] [] := by
  unfold f_law_c21 at hf
  refine x_aload_n C 1 dL_law_1404 rfl ?_
  refine x_aload_n C 0 dL_law_1405 rfl ?_
  refine x_iload C 5 dL_law_1406 rfl ?_
  refine x_iconst (v := 1) C dL_law_1408 (by decide) ?_
  refine x_iadd C dL_law_1409 ?_
  obtain ⟨g1, hf⟩ := x_gd hf
  refine x_sald C X g1 dL_law_1410 ?_
  refine x_aload_n C 3 dL_law_1411 rfl ?_
  obtain ⟨q2, hg, hf⟩ := x_bd hf
  refine x_callSWr C (t_L_openingTimeLeft hfl hg) (vx_cwSW 3 C.1.2.2.2.2 gL_law_L_openingTimeLeft rfl rfl rfl (by decide +kernel) ⟨Nat.le_of_ble_eq_true rfl, Nat.le_of_ble_eq_true rfl⟩) rfl rfl (Nat.le_of_ble_eq_true rfl) dL_law_1412 ⟨by show _ ≤ (603072 : Nat); omega, by show _ ≤ (7166058 : Nat); omega⟩ (fun ta3 => ?_)
  clear hg
  refine x_istore (lv' := [(6, .int q2.1), (0, .ref b), (1, .ref (xad G 0)), (2, .ref (xad G 9)), (3, .ref (xad G 20)), (4, .ref (xad G 21)), (5, .int i)]) C dL_law_1415 (by decide) rfl ?_
  refine x_aload_n C 3 dL_law_1417 rfl ?_
  refine x_aload_n C 1 dL_law_1418 rfl ?_
  refine x_iload C 6 dL_law_1419 rfl ?_
  refine x_iconst (v := 1) C dL_law_1421 (by decide) ?_
  refine x_iadd C dL_law_1422 ?_
  obtain ⟨g4, hf⟩ := x_gd hf
  refine x_sald C X g4 dL_law_1423 ?_
  obtain ⟨q5, hg, hf⟩ := x_bd hf
  refine x_callVr C (by rw [xkd_9]; decide) (by rw [xkd_9]; decide) (xc9 xkd_9) rfl (t_X7_openingTimeLeft hg) (cwV 1 C.1.2.2.2.2 gL_law_X7_openingTimeLeft rfl rfl rfl (by decide +kernel) ⟨Nat.le_of_ble_eq_true rfl, Nat.le_of_ble_eq_true rfl⟩) rfl rfl (Nat.le_of_ble_eq_true rfl) dL_law_1424 ⟨by show _ ≤ (603072 : Nat); omega, by show _ ≤ (7166058 : Nat); omega⟩ (fun ta6 => ?_)
  clear hg
  refine x_istore (lv' := [(7, .int q5.1), (6, .int q2.1), (0, .ref b), (1, .ref (xad G 0)), (2, .ref (xad G 9)), (3, .ref (xad G 20)), (4, .ref (xad G 21)), (5, .int i)]) C dL_law_1427 (by decide) rfl ?_
  refine x_aload_n C 4 dL_law_1429 rfl ?_
  obtain ⟨q7, hg, hf⟩ := x_bd hf
  refine x_callVr C (by rw [xkd_9]; decide) (by rw [xkd_9]; decide) (xc9 xkd_9) rfl (t_X7_thrown hg) (cwV 0 C.1.2.2.2.2 gL_law_X7_thrown rfl rfl rfl (by decide +kernel) ⟨Nat.le_of_ble_eq_true rfl, Nat.le_of_ble_eq_true rfl⟩) rfl rfl (Nat.le_of_ble_eq_true rfl) dL_law_1430 ⟨by show _ ≤ (603072 : Nat); omega, by show _ ≤ (7166058 : Nat); omega⟩ (fun ta8 => ?_)
  clear hg
  refine x_iload C 1 dL_law_1433 rfl ?_
  refine x_icmp_eq C 1440 dL_law_1435 (by decide) (fun hc9 => ?_) (fun hc9 => ?_)
  · have hf := x_ip hc9 hf
    refine x_iload C 1 dL_law_1440 rfl ?_
    refine x_if_ne C 1457 dL_law_1442 (by decide) (fun hc10 => ?_) (fun hc10 => ?_)
    · have hf := x_ine hc10 hf
      refine x_goto C 2752 dL_law_1457 (by decide) ?_
      obtain rfl := Option.some.inj hf
      refine x_widen (k' := k0 + 54) (n' := n0 + 7600) (by omega) (by omega) ?_
      refine x_sub [2, 3, 4, 5, 6, 7] rfl ?_
      exact kk _
    · have hf := x_ip hc10 hf
      refine x_aload_n C 5 dL_law_1445 rfl ?_
      refine x_iconst (v := 0) C dL_law_1446 (by decide) ?_
      refine x_lald C dL_law_1447 ?_
      refine x_iload C 0 dL_law_1448 rfl ?_
      refine x_i2l (v := q5.1.toInt64) C dL_law_1450 rfl ?_
      refine x_lcmp C dL_law_1451 ?_
      refine x_if_eq C 1457 dL_law_1452 (by decide) (fun hc11 => ?_) (fun hc11 => ?_)
      · have hf := x_ip hc11 hf
        refine x_goto C 2752 dL_law_1457 (by decide) ?_
        obtain rfl := Option.some.inj hf
        refine x_widen (k' := k0 + 54) (n' := n0 + 7600) (by omega) (by omega) ?_
        refine x_sub [2, 3, 4, 5, 6, 7] rfl ?_
        exact kk _
      · have hf := x_ine hc11 hf
        cases hf
  · have hf := x_ine hc9 hf
    cases hf
def f_law_c22 (sc : Nat → Int32) (L : Nat) (i : Int32) (M : xM) : Option xM := if x_in (i + (1 : Int32)) L = true then (f_L_pace (sc (i + (1 : Int32)).toNatClampNeg) M).bind fun q2 => if x_in (i + (1 : Int32)) L = true then (f_X7_pace (sc (i + (1 : Int32)).toNatClampNeg) q2.2).bind fun q5 => (f_X7_thrown q5.2).bind fun q7 => (if q7 = q2.1 then (if q2.1 = 0 then (if (lg_cmp q5.2.2.2.1 q5.1.toInt64) = 0 then some q5.2 else none) else some q5.2) else none) else none else none
set_option maxHeartbeats 4000000 in
set_option maxRecDepth 100000 in
theorem t_law_c22 {G : xG} {p : Program} {l : Launch} {e : Env} {s : State} {m : MethodId} {args : Array Value} {below : List Frame} {meth : Method} {c : Code} {Q : State → Prop} {b L : Nat} {sc : Nat → Int32} (C : xC G p s m args c cL_law 9 wsL_law RL) (hfl : l.stackTraces = false) (X : xLw G s b L sc) {i : Int32} {M M9 : xM} {ta : Nat × Nat} {k0 n0 : Nat} (hk0 : k0 + 54 ≤ 603072) (hn0 : n0 + 7600 ≤ 7166058) (hf : f_law_c22 sc L i M = some M9) (kk : ∀ ta2, xW G p l e room_1 s m args below meth c 9 Q (k0 + 54) (n0 + 7600) ta2 M9 2752 [(0, .ref b), (1, .ref (xad G 0)), (2, .ref (xad G 9)), (3, .ref (xad G 20)), (4, .ref (xad G 21)), (5, .int i)] []) : xW G p l e room_1 s m args below meth c 9 Q k0 n0 ta M 1460 [(0, .ref b), (1, .ref (xad G 0)), (2, .ref (xad G 9)), (3, .ref (xad G 20)), (4, .ref (xad G 21)), (5, .int i)] [] := by
  unfold f_law_c22 at hf
  refine x_aload_n C 1 dL_law_1460 rfl ?_
  refine x_aload_n C 0 dL_law_1461 rfl ?_
  refine x_iload C 5 dL_law_1462 rfl ?_
  refine x_iconst (v := 1) C dL_law_1464 (by decide) ?_
  refine x_iadd C dL_law_1465 ?_
  obtain ⟨g1, hf⟩ := x_gd hf
  refine x_sald C X g1 dL_law_1466 ?_
  refine x_aload_n C 3 dL_law_1467 rfl ?_
  obtain ⟨q2, hg, hf⟩ := x_bd hf
  refine x_callSWr C (t_L_pace hfl hg) (vx_cwSW 3 C.1.2.2.2.2 gL_law_L_pace rfl rfl rfl (by decide +kernel) ⟨Nat.le_of_ble_eq_true rfl, Nat.le_of_ble_eq_true rfl⟩) rfl rfl (Nat.le_of_ble_eq_true rfl) dL_law_1468 ⟨by show _ ≤ (603072 : Nat); omega, by show _ ≤ (7166058 : Nat); omega⟩ (fun ta3 => ?_)
  clear hg
  refine x_istore (lv' := [(6, .int q2.1), (0, .ref b), (1, .ref (xad G 0)), (2, .ref (xad G 9)), (3, .ref (xad G 20)), (4, .ref (xad G 21)), (5, .int i)]) C dL_law_1471 (by decide) rfl ?_
  refine x_aload_n C 3 dL_law_1473 rfl ?_
  refine x_aload_n C 1 dL_law_1474 rfl ?_
  refine x_iload C 6 dL_law_1475 rfl ?_
  refine x_iconst (v := 1) C dL_law_1477 (by decide) ?_
  refine x_iadd C dL_law_1478 ?_
  obtain ⟨g4, hf⟩ := x_gd hf
  refine x_sald C X g4 dL_law_1479 ?_
  obtain ⟨q5, hg, hf⟩ := x_bd hf
  refine x_callVr C (by rw [xkd_9]; decide) (by rw [xkd_9]; decide) (xc9 xkd_9) rfl (t_X7_pace hg) (cwV 1 C.1.2.2.2.2 gL_law_X7_pace rfl rfl rfl (by decide +kernel) ⟨Nat.le_of_ble_eq_true rfl, Nat.le_of_ble_eq_true rfl⟩) rfl rfl (Nat.le_of_ble_eq_true rfl) dL_law_1480 ⟨by show _ ≤ (603072 : Nat); omega, by show _ ≤ (7166058 : Nat); omega⟩ (fun ta6 => ?_)
  clear hg
  refine x_istore (lv' := [(7, .int q5.1), (6, .int q2.1), (0, .ref b), (1, .ref (xad G 0)), (2, .ref (xad G 9)), (3, .ref (xad G 20)), (4, .ref (xad G 21)), (5, .int i)]) C dL_law_1483 (by decide) rfl ?_
  refine x_aload_n C 4 dL_law_1485 rfl ?_
  obtain ⟨q7, hg, hf⟩ := x_bd hf
  refine x_callVr C (by rw [xkd_9]; decide) (by rw [xkd_9]; decide) (xc9 xkd_9) rfl (t_X7_thrown hg) (cwV 0 C.1.2.2.2.2 gL_law_X7_thrown rfl rfl rfl (by decide +kernel) ⟨Nat.le_of_ble_eq_true rfl, Nat.le_of_ble_eq_true rfl⟩) rfl rfl (Nat.le_of_ble_eq_true rfl) dL_law_1486 ⟨by show _ ≤ (603072 : Nat); omega, by show _ ≤ (7166058 : Nat); omega⟩ (fun ta8 => ?_)
  clear hg
  refine x_iload C 1 dL_law_1489 rfl ?_
  refine x_icmp_eq C 1496 dL_law_1491 (by decide) (fun hc9 => ?_) (fun hc9 => ?_)
  · have hf := x_ip hc9 hf
    refine x_iload C 1 dL_law_1496 rfl ?_
    refine x_if_ne C 1513 dL_law_1498 (by decide) (fun hc10 => ?_) (fun hc10 => ?_)
    · have hf := x_ine hc10 hf
      refine x_goto C 2752 dL_law_1513 (by decide) ?_
      obtain rfl := Option.some.inj hf
      refine x_widen (k' := k0 + 54) (n' := n0 + 7600) (by omega) (by omega) ?_
      refine x_sub [2, 3, 4, 5, 6, 7] rfl ?_
      exact kk _
    · have hf := x_ip hc10 hf
      refine x_aload_n C 5 dL_law_1501 rfl ?_
      refine x_iconst (v := 0) C dL_law_1502 (by decide) ?_
      refine x_lald C dL_law_1503 ?_
      refine x_iload C 0 dL_law_1504 rfl ?_
      refine x_i2l (v := q5.1.toInt64) C dL_law_1506 rfl ?_
      refine x_lcmp C dL_law_1507 ?_
      refine x_if_eq C 1513 dL_law_1508 (by decide) (fun hc11 => ?_) (fun hc11 => ?_)
      · have hf := x_ip hc11 hf
        refine x_goto C 2752 dL_law_1513 (by decide) ?_
        obtain rfl := Option.some.inj hf
        refine x_widen (k' := k0 + 54) (n' := n0 + 7600) (by omega) (by omega) ?_
        refine x_sub [2, 3, 4, 5, 6, 7] rfl ?_
        exact kk _
      · have hf := x_ine hc11 hf
        cases hf
  · have hf := x_ine hc9 hf
    cases hf
def f_law_c23 (sc : Nat → Int32) (L : Nat) (i : Int32) (M : xM) : Option xM := if x_in (i + (1 : Int32)) L = true then (f_L_customerAtWindow (sc (i + (1 : Int32)).toNatClampNeg) M).bind fun q2 => if x_in (i + (1 : Int32)) L = true then (f_X7_customerAtWindow (sc (i + (1 : Int32)).toNatClampNeg) q2.2).bind fun q5 => (f_X7_thrown q5.2).bind fun q7 => (if q7 = q2.1 then (if q2.1 = 0 then (if (lg_cmp q5.2.2.2.1 q5.1.toInt64) = 0 then some q5.2 else none) else some q5.2) else none) else none else none
set_option maxHeartbeats 4000000 in
set_option maxRecDepth 100000 in
theorem t_law_c23 {G : xG} {p : Program} {l : Launch} {e : Env} {s : State} {m : MethodId} {args : Array Value} {below : List Frame} {meth : Method} {c : Code} {Q : State → Prop} {b L : Nat} {sc : Nat → Int32} (C : xC G p s m args c cL_law 9 wsL_law RL) (hfl : l.stackTraces = false) (X : xLw G s b L sc) {i : Int32} {M M9 : xM} {ta : Nat × Nat} {k0 n0 : Nat} (hk0 : k0 + 54 ≤ 603072) (hn0 : n0 + 7600 ≤ 7166058) (hf : f_law_c23 sc L i M = some M9) (kk : ∀ ta2, xW G p l e room_1 s m args below meth c 9 Q (k0 + 54) (n0 + 7600) ta2 M9 2752 [(0, .ref b), (1, .ref (xad G 0)), (2, .ref (xad G 9)), (3, .ref (xad G 20)), (4, .ref (xad G 21)), (5, .int i)] []) : xW G p l e room_1 s m args below meth c 9 Q k0 n0 ta M 1516 [(0, .ref b), (1, .ref (xad G 0)), (2, .ref (xad G 9)), (3, .ref (xad G 20)), (4, .ref (xad G 21)), (5, .int i)] [] := by
  unfold f_law_c23 at hf
  refine x_aload_n C 1 dL_law_1516 rfl ?_
  refine x_aload_n C 0 dL_law_1517 rfl ?_
  refine x_iload C 5 dL_law_1518 rfl ?_
  refine x_iconst (v := 1) C dL_law_1520 (by decide) ?_
  refine x_iadd C dL_law_1521 ?_
  obtain ⟨g1, hf⟩ := x_gd hf
  refine x_sald C X g1 dL_law_1522 ?_
  refine x_aload_n C 3 dL_law_1523 rfl ?_
  obtain ⟨q2, hg, hf⟩ := x_bd hf
  refine x_callSWr C (t_L_customerAtWindow hfl hg) (vx_cwSW 3 C.1.2.2.2.2 gL_law_L_customerAtWindow rfl rfl rfl (by decide +kernel) ⟨Nat.le_of_ble_eq_true rfl, Nat.le_of_ble_eq_true rfl⟩) rfl rfl (Nat.le_of_ble_eq_true rfl) dL_law_1524 ⟨by show _ ≤ (603072 : Nat); omega, by show _ ≤ (7166058 : Nat); omega⟩ (fun ta3 => ?_)
  clear hg
  refine x_istore (lv' := [(6, .int q2.1), (0, .ref b), (1, .ref (xad G 0)), (2, .ref (xad G 9)), (3, .ref (xad G 20)), (4, .ref (xad G 21)), (5, .int i)]) C dL_law_1527 (by decide) rfl ?_
  refine x_aload_n C 3 dL_law_1529 rfl ?_
  refine x_aload_n C 1 dL_law_1530 rfl ?_
  refine x_iload C 6 dL_law_1531 rfl ?_
  refine x_iconst (v := 1) C dL_law_1533 (by decide) ?_
  refine x_iadd C dL_law_1534 ?_
  obtain ⟨g4, hf⟩ := x_gd hf
  refine x_sald C X g4 dL_law_1535 ?_
  obtain ⟨q5, hg, hf⟩ := x_bd hf
  refine x_callVr C (by rw [xkd_9]; decide) (by rw [xkd_9]; decide) (xc9 xkd_9) rfl (t_X7_customerAtWindow hg) (cwV 1 C.1.2.2.2.2 gL_law_X7_customerAtWindow rfl rfl rfl (by decide +kernel) ⟨Nat.le_of_ble_eq_true rfl, Nat.le_of_ble_eq_true rfl⟩) rfl rfl (Nat.le_of_ble_eq_true rfl) dL_law_1536 ⟨by show _ ≤ (603072 : Nat); omega, by show _ ≤ (7166058 : Nat); omega⟩ (fun ta6 => ?_)
  clear hg
  refine x_istore (lv' := [(7, .int q5.1), (6, .int q2.1), (0, .ref b), (1, .ref (xad G 0)), (2, .ref (xad G 9)), (3, .ref (xad G 20)), (4, .ref (xad G 21)), (5, .int i)]) C dL_law_1539 (by decide) rfl ?_
  refine x_aload_n C 4 dL_law_1541 rfl ?_
  obtain ⟨q7, hg, hf⟩ := x_bd hf
  refine x_callVr C (by rw [xkd_9]; decide) (by rw [xkd_9]; decide) (xc9 xkd_9) rfl (t_X7_thrown hg) (cwV 0 C.1.2.2.2.2 gL_law_X7_thrown rfl rfl rfl (by decide +kernel) ⟨Nat.le_of_ble_eq_true rfl, Nat.le_of_ble_eq_true rfl⟩) rfl rfl (Nat.le_of_ble_eq_true rfl) dL_law_1542 ⟨by show _ ≤ (603072 : Nat); omega, by show _ ≤ (7166058 : Nat); omega⟩ (fun ta8 => ?_)
  clear hg
  refine x_iload C 1 dL_law_1545 rfl ?_
  refine x_icmp_eq C 1552 dL_law_1547 (by decide) (fun hc9 => ?_) (fun hc9 => ?_)
  · have hf := x_ip hc9 hf
    refine x_iload C 1 dL_law_1552 rfl ?_
    refine x_if_ne C 1569 dL_law_1554 (by decide) (fun hc10 => ?_) (fun hc10 => ?_)
    · have hf := x_ine hc10 hf
      refine x_goto C 2752 dL_law_1569 (by decide) ?_
      obtain rfl := Option.some.inj hf
      refine x_widen (k' := k0 + 54) (n' := n0 + 7600) (by omega) (by omega) ?_
      refine x_sub [2, 3, 4, 5, 6, 7] rfl ?_
      exact kk _
    · have hf := x_ip hc10 hf
      refine x_aload_n C 5 dL_law_1557 rfl ?_
      refine x_iconst (v := 0) C dL_law_1558 (by decide) ?_
      refine x_lald C dL_law_1559 ?_
      refine x_iload C 0 dL_law_1560 rfl ?_
      refine x_i2l (v := q5.1.toInt64) C dL_law_1562 rfl ?_
      refine x_lcmp C dL_law_1563 ?_
      refine x_if_eq C 1569 dL_law_1564 (by decide) (fun hc11 => ?_) (fun hc11 => ?_)
      · have hf := x_ip hc11 hf
        refine x_goto C 2752 dL_law_1569 (by decide) ?_
        obtain rfl := Option.some.inj hf
        refine x_widen (k' := k0 + 54) (n' := n0 + 7600) (by omega) (by omega) ?_
        refine x_sub [2, 3, 4, 5, 6, 7] rfl ?_
        exact kk _
      · have hf := x_ine hc11 hf
        cases hf
  · have hf := x_ine hc9 hf
    cases hf
def f_law_c24 (sc : Nat → Int32) (L : Nat) (i : Int32) (M : xM) : Option xM := if x_in (i + (1 : Int32)) L = true then (f_L_serviceTimeLeft (sc (i + (1 : Int32)).toNatClampNeg) M).bind fun q2 => if x_in (i + (1 : Int32)) L = true then (f_X7_serviceTimeLeft (sc (i + (1 : Int32)).toNatClampNeg) q2.2).bind fun q5 => (f_X7_thrown q5.2).bind fun q7 => (if q7 = q2.1 then (if q2.1 = 0 then (if (lg_cmp q5.2.2.2.1 q5.1.toInt64) = 0 then some q5.2 else none) else some q5.2) else none) else none else none
set_option maxHeartbeats 4000000 in
set_option maxRecDepth 100000 in
theorem t_law_c24 {G : xG} {p : Program} {l : Launch} {e : Env} {s : State} {m : MethodId} {args : Array Value} {below : List Frame} {meth : Method} {c : Code} {Q : State → Prop} {b L : Nat} {sc : Nat → Int32} (C : xC G p s m args c cL_law 9 wsL_law RL) (hfl : l.stackTraces = false) (X : xLw G s b L sc) {i : Int32} {M M9 : xM} {ta : Nat × Nat} {k0 n0 : Nat} (hk0 : k0 + 54 ≤ 603072) (hn0 : n0 + 7600 ≤ 7166058) (hf : f_law_c24 sc L i M = some M9) (kk : ∀ ta2, xW G p l e room_1 s m args below meth c 9 Q (k0 + 54) (n0 + 7600) ta2 M9 2752 [(0, .ref b), (1, .ref (xad G 0)), (2, .ref (xad G 9)), (3, .ref (xad G 20)), (4, .ref (xad G 21)), (5, .int i)] []) : xW G p l e room_1 s m args below meth c 9 Q k0 n0 ta M 1572 [(0, .ref b), (1, .ref (xad G 0)), (2, .ref (xad G 9)), (3, .ref (xad G 20)), (4, .ref (xad G 21)), (5, .int i)] [] := by
  unfold f_law_c24 at hf
  refine x_aload_n C 1 dL_law_1572 rfl ?_
  refine x_aload_n C 0 dL_law_1573 rfl ?_
  refine x_iload C 5 dL_law_1574 rfl ?_
  refine x_iconst (v := 1) C dL_law_1576 (by decide) ?_
  refine x_iadd C dL_law_1577 ?_
  obtain ⟨g1, hf⟩ := x_gd hf
  refine x_sald C X g1 dL_law_1578 ?_
  refine x_aload_n C 3 dL_law_1579 rfl ?_
  obtain ⟨q2, hg, hf⟩ := x_bd hf
  refine x_callSWr C (t_L_serviceTimeLeft hfl hg) (vx_cwSW 3 C.1.2.2.2.2 gL_law_L_serviceTimeLeft rfl rfl rfl (by decide +kernel) ⟨Nat.le_of_ble_eq_true rfl, Nat.le_of_ble_eq_true rfl⟩) rfl rfl (Nat.le_of_ble_eq_true rfl) dL_law_1580 ⟨by show _ ≤ (603072 : Nat); omega, by show _ ≤ (7166058 : Nat); omega⟩ (fun ta3 => ?_)
  clear hg
  refine x_istore (lv' := [(6, .int q2.1), (0, .ref b), (1, .ref (xad G 0)), (2, .ref (xad G 9)), (3, .ref (xad G 20)), (4, .ref (xad G 21)), (5, .int i)]) C dL_law_1583 (by decide) rfl ?_
  refine x_aload_n C 3 dL_law_1585 rfl ?_
  refine x_aload_n C 1 dL_law_1586 rfl ?_
  refine x_iload C 6 dL_law_1587 rfl ?_
  refine x_iconst (v := 1) C dL_law_1589 (by decide) ?_
  refine x_iadd C dL_law_1590 ?_
  obtain ⟨g4, hf⟩ := x_gd hf
  refine x_sald C X g4 dL_law_1591 ?_
  obtain ⟨q5, hg, hf⟩ := x_bd hf
  refine x_callVr C (by rw [xkd_9]; decide) (by rw [xkd_9]; decide) (xc9 xkd_9) rfl (t_X7_serviceTimeLeft hg) (cwV 1 C.1.2.2.2.2 gL_law_X7_serviceTimeLeft rfl rfl rfl (by decide +kernel) ⟨Nat.le_of_ble_eq_true rfl, Nat.le_of_ble_eq_true rfl⟩) rfl rfl (Nat.le_of_ble_eq_true rfl) dL_law_1592 ⟨by show _ ≤ (603072 : Nat); omega, by show _ ≤ (7166058 : Nat); omega⟩ (fun ta6 => ?_)
  clear hg
  refine x_istore (lv' := [(7, .int q5.1), (6, .int q2.1), (0, .ref b), (1, .ref (xad G 0)), (2, .ref (xad G 9)), (3, .ref (xad G 20)), (4, .ref (xad G 21)), (5, .int i)]) C dL_law_1595 (by decide) rfl ?_
  refine x_aload_n C 4 dL_law_1597 rfl ?_
  obtain ⟨q7, hg, hf⟩ := x_bd hf
  refine x_callVr C (by rw [xkd_9]; decide) (by rw [xkd_9]; decide) (xc9 xkd_9) rfl (t_X7_thrown hg) (cwV 0 C.1.2.2.2.2 gL_law_X7_thrown rfl rfl rfl (by decide +kernel) ⟨Nat.le_of_ble_eq_true rfl, Nat.le_of_ble_eq_true rfl⟩) rfl rfl (Nat.le_of_ble_eq_true rfl) dL_law_1598 ⟨by show _ ≤ (603072 : Nat); omega, by show _ ≤ (7166058 : Nat); omega⟩ (fun ta8 => ?_)
  clear hg
  refine x_iload C 1 dL_law_1601 rfl ?_
  refine x_icmp_eq C 1608 dL_law_1603 (by decide) (fun hc9 => ?_) (fun hc9 => ?_)
  · have hf := x_ip hc9 hf
    refine x_iload C 1 dL_law_1608 rfl ?_
    refine x_if_ne C 1625 dL_law_1610 (by decide) (fun hc10 => ?_) (fun hc10 => ?_)
    · have hf := x_ine hc10 hf
      refine x_goto C 2752 dL_law_1625 (by decide) ?_
      obtain rfl := Option.some.inj hf
      refine x_widen (k' := k0 + 54) (n' := n0 + 7600) (by omega) (by omega) ?_
      refine x_sub [2, 3, 4, 5, 6, 7] rfl ?_
      exact kk _
    · have hf := x_ip hc10 hf
      refine x_aload_n C 5 dL_law_1613 rfl ?_
      refine x_iconst (v := 0) C dL_law_1614 (by decide) ?_
      refine x_lald C dL_law_1615 ?_
      refine x_iload C 0 dL_law_1616 rfl ?_
      refine x_i2l (v := q5.1.toInt64) C dL_law_1618 rfl ?_
      refine x_lcmp C dL_law_1619 ?_
      refine x_if_eq C 1625 dL_law_1620 (by decide) (fun hc11 => ?_) (fun hc11 => ?_)
      · have hf := x_ip hc11 hf
        refine x_goto C 2752 dL_law_1625 (by decide) ?_
        obtain rfl := Option.some.inj hf
        refine x_widen (k' := k0 + 54) (n' := n0 + 7600) (by omega) (by omega) ?_
        refine x_sub [2, 3, 4, 5, 6, 7] rfl ?_
        exact kk _
      · have hf := x_ine hc11 hf
        cases hf
  · have hf := x_ine hc9 hf
    cases hf
def f_law_c25 (sc : Nat → Int32) (L : Nat) (i : Int32) (M : xM) : Option xM := if x_in (i + (1 : Int32)) L = true then (f_L_calledAhead (sc (i + (1 : Int32)).toNatClampNeg) M).bind fun q2 => if x_in (i + (1 : Int32)) L = true then (f_X7_calledAhead (sc (i + (1 : Int32)).toNatClampNeg) q2.2).bind fun q5 => (f_X7_thrown q5.2).bind fun q7 => (if q7 = q2.1 then (if q2.1 = 0 then (if (lg_cmp q5.2.2.2.1 q5.1.toInt64) = 0 then some q5.2 else none) else some q5.2) else none) else none else none
set_option maxHeartbeats 4000000 in
set_option maxRecDepth 100000 in
theorem t_law_c25 {G : xG} {p : Program} {l : Launch} {e : Env} {s : State} {m : MethodId} {args : Array Value} {below : List Frame} {meth : Method} {c : Code} {Q : State → Prop} {b L : Nat} {sc : Nat → Int32} (C : xC G p s m args c cL_law 9 wsL_law RL) (hfl : l.stackTraces = false) (X : xLw G s b L sc) {i : Int32} {M M9 : xM} {ta : Nat × Nat} {k0 n0 : Nat} (hk0 : k0 + 54 ≤ 603072) (hn0 : n0 + 7600 ≤ 7166058) (hf : f_law_c25 sc L i M = some M9) (kk : ∀ ta2, xW G p l e room_1 s m args below meth c 9 Q (k0 + 54) (n0 + 7600) ta2 M9 2752 [(0, .ref b), (1, .ref (xad G 0)), (2, .ref (xad G 9)), (3, .ref (xad G 20)), (4, .ref (xad G 21)), (5, .int i)] []) : xW G p l e room_1 s m args below meth c 9 Q k0 n0 ta M 1628 [(0, .ref b), (1, .ref (xad G 0)), (2, .ref (xad G 9)), (3, .ref (xad G 20)), (4, .ref (xad G 21)), (5, .int i)] [] := by
  unfold f_law_c25 at hf
  refine x_aload_n C 1 dL_law_1628 rfl ?_
  refine x_aload_n C 0 dL_law_1629 rfl ?_
  refine x_iload C 5 dL_law_1630 rfl ?_
  refine x_iconst (v := 1) C dL_law_1632 (by decide) ?_
  refine x_iadd C dL_law_1633 ?_
  obtain ⟨g1, hf⟩ := x_gd hf
  refine x_sald C X g1 dL_law_1634 ?_
  refine x_aload_n C 3 dL_law_1635 rfl ?_
  obtain ⟨q2, hg, hf⟩ := x_bd hf
  refine x_callSWr C (t_L_calledAhead hfl hg) (vx_cwSW 3 C.1.2.2.2.2 gL_law_L_calledAhead rfl rfl rfl (by decide +kernel) ⟨Nat.le_of_ble_eq_true rfl, Nat.le_of_ble_eq_true rfl⟩) rfl rfl (Nat.le_of_ble_eq_true rfl) dL_law_1636 ⟨by show _ ≤ (603072 : Nat); omega, by show _ ≤ (7166058 : Nat); omega⟩ (fun ta3 => ?_)
  clear hg
  refine x_istore (lv' := [(6, .int q2.1), (0, .ref b), (1, .ref (xad G 0)), (2, .ref (xad G 9)), (3, .ref (xad G 20)), (4, .ref (xad G 21)), (5, .int i)]) C dL_law_1639 (by decide) rfl ?_
  refine x_aload_n C 3 dL_law_1641 rfl ?_
  refine x_aload_n C 1 dL_law_1642 rfl ?_
  refine x_iload C 6 dL_law_1643 rfl ?_
  refine x_iconst (v := 1) C dL_law_1645 (by decide) ?_
  refine x_iadd C dL_law_1646 ?_
  obtain ⟨g4, hf⟩ := x_gd hf
  refine x_sald C X g4 dL_law_1647 ?_
  obtain ⟨q5, hg, hf⟩ := x_bd hf
  refine x_callVr C (by rw [xkd_9]; decide) (by rw [xkd_9]; decide) (xc9 xkd_9) rfl (t_X7_calledAhead hg) (cwV 1 C.1.2.2.2.2 gL_law_X7_calledAhead rfl rfl rfl (by decide +kernel) ⟨Nat.le_of_ble_eq_true rfl, Nat.le_of_ble_eq_true rfl⟩) rfl rfl (Nat.le_of_ble_eq_true rfl) dL_law_1648 ⟨by show _ ≤ (603072 : Nat); omega, by show _ ≤ (7166058 : Nat); omega⟩ (fun ta6 => ?_)
  clear hg
  refine x_istore (lv' := [(7, .int q5.1), (6, .int q2.1), (0, .ref b), (1, .ref (xad G 0)), (2, .ref (xad G 9)), (3, .ref (xad G 20)), (4, .ref (xad G 21)), (5, .int i)]) C dL_law_1651 (by decide) rfl ?_
  refine x_aload_n C 4 dL_law_1653 rfl ?_
  obtain ⟨q7, hg, hf⟩ := x_bd hf
  refine x_callVr C (by rw [xkd_9]; decide) (by rw [xkd_9]; decide) (xc9 xkd_9) rfl (t_X7_thrown hg) (cwV 0 C.1.2.2.2.2 gL_law_X7_thrown rfl rfl rfl (by decide +kernel) ⟨Nat.le_of_ble_eq_true rfl, Nat.le_of_ble_eq_true rfl⟩) rfl rfl (Nat.le_of_ble_eq_true rfl) dL_law_1654 ⟨by show _ ≤ (603072 : Nat); omega, by show _ ≤ (7166058 : Nat); omega⟩ (fun ta8 => ?_)
  clear hg
  refine x_iload C 1 dL_law_1657 rfl ?_
  refine x_icmp_eq C 1664 dL_law_1659 (by decide) (fun hc9 => ?_) (fun hc9 => ?_)
  · have hf := x_ip hc9 hf
    refine x_iload C 1 dL_law_1664 rfl ?_
    refine x_if_ne C 1681 dL_law_1666 (by decide) (fun hc10 => ?_) (fun hc10 => ?_)
    · have hf := x_ine hc10 hf
      refine x_goto C 2752 dL_law_1681 (by decide) ?_
      obtain rfl := Option.some.inj hf
      refine x_widen (k' := k0 + 54) (n' := n0 + 7600) (by omega) (by omega) ?_
      refine x_sub [2, 3, 4, 5, 6, 7] rfl ?_
      exact kk _
    · have hf := x_ip hc10 hf
      refine x_aload_n C 5 dL_law_1669 rfl ?_
      refine x_iconst (v := 0) C dL_law_1670 (by decide) ?_
      refine x_lald C dL_law_1671 ?_
      refine x_iload C 0 dL_law_1672 rfl ?_
      refine x_i2l (v := q5.1.toInt64) C dL_law_1674 rfl ?_
      refine x_lcmp C dL_law_1675 ?_
      refine x_if_eq C 1681 dL_law_1676 (by decide) (fun hc11 => ?_) (fun hc11 => ?_)
      · have hf := x_ip hc11 hf
        refine x_goto C 2752 dL_law_1681 (by decide) ?_
        obtain rfl := Option.some.inj hf
        refine x_widen (k' := k0 + 54) (n' := n0 + 7600) (by omega) (by omega) ?_
        refine x_sub [2, 3, 4, 5, 6, 7] rfl ?_
        exact kk _
      · have hf := x_ine hc11 hf
        cases hf
  · have hf := x_ine hc9 hf
    cases hf
def f_law_c26 (sc : Nat → Int32) (L : Nat) (i : Int32) (M : xM) : Option xM := if x_in (i + (1 : Int32)) L = true then (f_L_calledAheadByPositions (sc (i + (1 : Int32)).toNatClampNeg) M).bind fun q2 => if x_in (i + (1 : Int32)) L = true then (f_X7_calledAheadByPositions (sc (i + (1 : Int32)).toNatClampNeg) q2.2).bind fun q5 => (f_X7_thrown q5.2).bind fun q7 => (if q7 = q2.1 then (if q2.1 = 0 then (if (lg_cmp q5.2.2.2.1 q5.1.toInt64) = 0 then some q5.2 else none) else some q5.2) else none) else none else none
set_option maxHeartbeats 4000000 in
set_option maxRecDepth 100000 in
theorem t_law_c26 {G : xG} {p : Program} {l : Launch} {e : Env} {s : State} {m : MethodId} {args : Array Value} {below : List Frame} {meth : Method} {c : Code} {Q : State → Prop} {b L : Nat} {sc : Nat → Int32} (C : xC G p s m args c cL_law 9 wsL_law RL) (hfl : l.stackTraces = false) (X : xLw G s b L sc) {i : Int32} {M M9 : xM} {ta : Nat × Nat} {k0 n0 : Nat} (hk0 : k0 + 54 ≤ 603072) (hn0 : n0 + 7600 ≤ 7166058) (hf : f_law_c26 sc L i M = some M9) (kk : ∀ ta2, xW G p l e room_1 s m args below meth c 9 Q (k0 + 54) (n0 + 7600) ta2 M9 2752 [(0, .ref b), (1, .ref (xad G 0)), (2, .ref (xad G 9)), (3, .ref (xad G 20)), (4, .ref (xad G 21)), (5, .int i)] []) : xW G p l e room_1 s m args below meth c 9 Q k0 n0 ta M 1684 [(0, .ref b), (1, .ref (xad G 0)), (2, .ref (xad G 9)), (3, .ref (xad G 20)), (4, .ref (xad G 21)), (5, .int i)] [] := by
  unfold f_law_c26 at hf
  refine x_aload_n C 1 dL_law_1684 rfl ?_
  refine x_aload_n C 0 dL_law_1685 rfl ?_
  refine x_iload C 5 dL_law_1686 rfl ?_
  refine x_iconst (v := 1) C dL_law_1688 (by decide) ?_
  refine x_iadd C dL_law_1689 ?_
  obtain ⟨g1, hf⟩ := x_gd hf
  refine x_sald C X g1 dL_law_1690 ?_
  refine x_aload_n C 3 dL_law_1691 rfl ?_
  obtain ⟨q2, hg, hf⟩ := x_bd hf
  refine x_callSWr C (t_L_calledAheadByPositions hfl hg) (vx_cwSW 3 C.1.2.2.2.2 gL_law_L_calledAheadByPositions rfl rfl rfl (by decide +kernel) ⟨Nat.le_of_ble_eq_true rfl, Nat.le_of_ble_eq_true rfl⟩) rfl rfl (Nat.le_of_ble_eq_true rfl) dL_law_1692 ⟨by show _ ≤ (603072 : Nat); omega, by show _ ≤ (7166058 : Nat); omega⟩ (fun ta3 => ?_)
  clear hg
  refine x_istore (lv' := [(6, .int q2.1), (0, .ref b), (1, .ref (xad G 0)), (2, .ref (xad G 9)), (3, .ref (xad G 20)), (4, .ref (xad G 21)), (5, .int i)]) C dL_law_1695 (by decide) rfl ?_
  refine x_aload_n C 3 dL_law_1697 rfl ?_
  refine x_aload_n C 1 dL_law_1698 rfl ?_
  refine x_iload C 6 dL_law_1699 rfl ?_
  refine x_iconst (v := 1) C dL_law_1701 (by decide) ?_
  refine x_iadd C dL_law_1702 ?_
  obtain ⟨g4, hf⟩ := x_gd hf
  refine x_sald C X g4 dL_law_1703 ?_
  obtain ⟨q5, hg, hf⟩ := x_bd hf
  refine x_callVr C (by rw [xkd_9]; decide) (by rw [xkd_9]; decide) (xc9 xkd_9) rfl (t_X7_calledAheadByPositions hg) (cwV 1 C.1.2.2.2.2 gL_law_X7_calledAheadByPositions rfl rfl rfl (by decide +kernel) ⟨Nat.le_of_ble_eq_true rfl, Nat.le_of_ble_eq_true rfl⟩) rfl rfl (Nat.le_of_ble_eq_true rfl) dL_law_1704 ⟨by show _ ≤ (603072 : Nat); omega, by show _ ≤ (7166058 : Nat); omega⟩ (fun ta6 => ?_)
  clear hg
  refine x_istore (lv' := [(7, .int q5.1), (6, .int q2.1), (0, .ref b), (1, .ref (xad G 0)), (2, .ref (xad G 9)), (3, .ref (xad G 20)), (4, .ref (xad G 21)), (5, .int i)]) C dL_law_1707 (by decide) rfl ?_
  refine x_aload_n C 4 dL_law_1709 rfl ?_
  obtain ⟨q7, hg, hf⟩ := x_bd hf
  refine x_callVr C (by rw [xkd_9]; decide) (by rw [xkd_9]; decide) (xc9 xkd_9) rfl (t_X7_thrown hg) (cwV 0 C.1.2.2.2.2 gL_law_X7_thrown rfl rfl rfl (by decide +kernel) ⟨Nat.le_of_ble_eq_true rfl, Nat.le_of_ble_eq_true rfl⟩) rfl rfl (Nat.le_of_ble_eq_true rfl) dL_law_1710 ⟨by show _ ≤ (603072 : Nat); omega, by show _ ≤ (7166058 : Nat); omega⟩ (fun ta8 => ?_)
  clear hg
  refine x_iload C 1 dL_law_1713 rfl ?_
  refine x_icmp_eq C 1720 dL_law_1715 (by decide) (fun hc9 => ?_) (fun hc9 => ?_)
  · have hf := x_ip hc9 hf
    refine x_iload C 1 dL_law_1720 rfl ?_
    refine x_if_ne C 1737 dL_law_1722 (by decide) (fun hc10 => ?_) (fun hc10 => ?_)
    · have hf := x_ine hc10 hf
      refine x_goto C 2752 dL_law_1737 (by decide) ?_
      obtain rfl := Option.some.inj hf
      refine x_widen (k' := k0 + 54) (n' := n0 + 7600) (by omega) (by omega) ?_
      refine x_sub [2, 3, 4, 5, 6, 7] rfl ?_
      exact kk _
    · have hf := x_ip hc10 hf
      refine x_aload_n C 5 dL_law_1725 rfl ?_
      refine x_iconst (v := 0) C dL_law_1726 (by decide) ?_
      refine x_lald C dL_law_1727 ?_
      refine x_iload C 0 dL_law_1728 rfl ?_
      refine x_i2l (v := q5.1.toInt64) C dL_law_1730 rfl ?_
      refine x_lcmp C dL_law_1731 ?_
      refine x_if_eq C 1737 dL_law_1732 (by decide) (fun hc11 => ?_) (fun hc11 => ?_)
      · have hf := x_ip hc11 hf
        refine x_goto C 2752 dL_law_1737 (by decide) ?_
        obtain rfl := Option.some.inj hf
        refine x_widen (k' := k0 + 54) (n' := n0 + 7600) (by omega) (by omega) ?_
        refine x_sub [2, 3, 4, 5, 6, 7] rfl ?_
        exact kk _
      · have hf := x_ine hc11 hf
        cases hf
  · have hf := x_ine hc9 hf
    cases hf
def f_law_c27 (sc : Nat → Int32) (L : Nat) (i : Int32) (M : xM) : Option xM := (f_X6_inversions M).bind fun q1 => (f_X7_inversions M).bind fun q3 => (if q1 = q3.1 then some q3.2 else none)
set_option maxHeartbeats 4000000 in
set_option maxRecDepth 100000 in
theorem t_law_c27 {G : xG} {p : Program} {l : Launch} {e : Env} {s : State} {m : MethodId} {args : Array Value} {below : List Frame} {meth : Method} {c : Code} {Q : State → Prop} {b L : Nat} {sc : Nat → Int32} (C : xC G p s m args c cL_law 9 wsL_law RL) (hfl : l.stackTraces = false) (X : xLw G s b L sc) {i : Int32} {M M9 : xM} {ta : Nat × Nat} {k0 n0 : Nat} (hk0 : k0 + 54 ≤ 603072) (hn0 : n0 + 7600 ≤ 7166058) (hf : f_law_c27 sc L i M = some M9) (kk : ∀ ta2, xW G p l e room_1 s m args below meth c 9 Q (k0 + 54) (n0 + 7600) ta2 M9 2752 [(0, .ref b), (1, .ref (xad G 0)), (2, .ref (xad G 9)), (3, .ref (xad G 20)), (4, .ref (xad G 21)), (5, .int i)] []) : xW G p l e room_1 s m args below meth c 9 Q k0 n0 ta M 1740 [(0, .ref b), (1, .ref (xad G 0)), (2, .ref (xad G 9)), (3, .ref (xad G 20)), (4, .ref (xad G 21)), (5, .int i)] [] := by
  unfold f_law_c27 at hf
  refine x_aload_n C 1 dL_law_1740 rfl ?_
  obtain ⟨q1, hg, hf⟩ := x_bd hf
  refine x_callVr C (by rw [xkd_0]; decide) (by rw [xkd_0]; decide) (xc8 xkd_0) rfl (t_X6_inversions hg) (cwV 0 C.1.2.2.2.2 gL_law_X6_inversions rfl rfl rfl (by decide +kernel) ⟨Nat.le_of_ble_eq_true rfl, Nat.le_of_ble_eq_true rfl⟩) rfl rfl (Nat.le_of_ble_eq_true rfl) dL_law_1741 ⟨by show _ ≤ (603072 : Nat); omega, by show _ ≤ (7166058 : Nat); omega⟩ (fun ta2 => ?_)
  clear hg
  refine x_aload_n C 2 dL_law_1744 rfl ?_
  obtain ⟨q3, hg, hf⟩ := x_bd hf
  refine x_callVr C (by rw [xkd_9]; decide) (by rw [xkd_9]; decide) (xc9 xkd_9) rfl (t_X7_inversions hg) (cwV 0 C.1.2.2.2.2 gL_law_X7_inversions rfl rfl rfl (by decide +kernel) ⟨Nat.le_of_ble_eq_true rfl, Nat.le_of_ble_eq_true rfl⟩) rfl rfl (Nat.le_of_ble_eq_true rfl) dL_law_1745 ⟨by show _ ≤ (603072 : Nat); omega, by show _ ≤ (7166058 : Nat); omega⟩ (fun ta4 => ?_)
  clear hg
  refine x_icmp_eq C 2752 dL_law_1748 (by decide) (fun hc5 => ?_) (fun hc5 => ?_)
  · have hf := x_ip hc5 hf
    obtain rfl := Option.some.inj hf
    refine x_widen (k' := k0 + 54) (n' := n0 + 7600) (by omega) (by omega) ?_
    refine x_sub [0, 1, 2, 3, 4, 5] rfl ?_
    exact kk _
  · have hf := x_ine hc5 hf
    cases hf
def f_law_c28 (sc : Nat → Int32) (L : Nat) (i : Int32) (M : xM) : Option xM := (f_X6_inversionsByBubbleSort M).bind fun q1 => (f_X7_inversionsByBubbleSort q1.2).bind fun q3 => (if q1.1 = q3.1 then some q3.2 else none)
set_option maxHeartbeats 4000000 in
set_option maxRecDepth 100000 in
theorem t_law_c28 {G : xG} {p : Program} {l : Launch} {e : Env} {s : State} {m : MethodId} {args : Array Value} {below : List Frame} {meth : Method} {c : Code} {Q : State → Prop} {b L : Nat} {sc : Nat → Int32} (C : xC G p s m args c cL_law 9 wsL_law RL) (hfl : l.stackTraces = false) (X : xLw G s b L sc) {i : Int32} {M M9 : xM} {ta : Nat × Nat} {k0 n0 : Nat} (hk0 : k0 + 54 ≤ 603072) (hn0 : n0 + 7600 ≤ 7166058) (hf : f_law_c28 sc L i M = some M9) (kk : ∀ ta2, xW G p l e room_1 s m args below meth c 9 Q (k0 + 54) (n0 + 7600) ta2 M9 2752 [(0, .ref b), (1, .ref (xad G 0)), (2, .ref (xad G 9)), (3, .ref (xad G 20)), (4, .ref (xad G 21)), (5, .int i)] []) : xW G p l e room_1 s m args below meth c 9 Q k0 n0 ta M 1753 [(0, .ref b), (1, .ref (xad G 0)), (2, .ref (xad G 9)), (3, .ref (xad G 20)), (4, .ref (xad G 21)), (5, .int i)] [] := by
  unfold f_law_c28 at hf
  refine x_aload_n C 1 dL_law_1753 rfl ?_
  obtain ⟨q1, hg, hf⟩ := x_bd hf
  refine x_callVr C (by rw [xkd_0]; decide) (by rw [xkd_0]; decide) (xc8 xkd_0) rfl (t_X6_inversionsByBubbleSort hg) (cwV 0 C.1.2.2.2.2 gL_law_X6_inversionsByBubbleSort rfl rfl rfl (by decide +kernel) ⟨Nat.le_of_ble_eq_true rfl, Nat.le_of_ble_eq_true rfl⟩) rfl rfl (Nat.le_of_ble_eq_true rfl) dL_law_1754 ⟨by show _ ≤ (603072 : Nat); omega, by show _ ≤ (7166058 : Nat); omega⟩ (fun ta2 => ?_)
  clear hg
  refine x_aload_n C 2 dL_law_1757 rfl ?_
  obtain ⟨q3, hg, hf⟩ := x_bd hf
  refine x_callVr C (by rw [xkd_9]; decide) (by rw [xkd_9]; decide) (xc9 xkd_9) rfl (t_X7_inversionsByBubbleSort hg) (cwV 0 C.1.2.2.2.2 gL_law_X7_inversionsByBubbleSort rfl rfl rfl (by decide +kernel) ⟨Nat.le_of_ble_eq_true rfl, Nat.le_of_ble_eq_true rfl⟩) rfl rfl (Nat.le_of_ble_eq_true rfl) dL_law_1758 ⟨by show _ ≤ (603072 : Nat); omega, by show _ ≤ (7166058 : Nat); omega⟩ (fun ta4 => ?_)
  clear hg
  refine x_icmp_eq C 2752 dL_law_1761 (by decide) (fun hc5 => ?_) (fun hc5 => ?_)
  · have hf := x_ip hc5 hf
    obtain rfl := Option.some.inj hf
    refine x_widen (k' := k0 + 54) (n' := n0 + 7600) (by omega) (by omega) ?_
    refine x_sub [0, 1, 2, 3, 4, 5] rfl ?_
    exact kk _
  · have hf := x_ine hc5 hf
    cases hf
def f_law_c29 (sc : Nat → Int32) (L : Nat) (i : Int32) (M : xM) : Option xM := if x_in (i + (1 : Int32)) L = true then (f_L_minutesUntilWindow (sc (i + (1 : Int32)).toNatClampNeg) M).bind fun q2 => if x_in (i + (1 : Int32)) L = true then (f_X7_minutesUntilWindow (sc (i + (1 : Int32)).toNatClampNeg) q2.2).bind fun q5 => (f_X7_thrown q5.2).bind fun q7 => (if q7 = q2.1 then (if q2.1 = 0 then (if (lg_cmp q5.2.2.2.1 q5.1.toInt64) = 0 then some q5.2 else none) else some q5.2) else none) else none else none
set_option maxHeartbeats 4000000 in
set_option maxRecDepth 100000 in
theorem t_law_c29 {G : xG} {p : Program} {l : Launch} {e : Env} {s : State} {m : MethodId} {args : Array Value} {below : List Frame} {meth : Method} {c : Code} {Q : State → Prop} {b L : Nat} {sc : Nat → Int32} (C : xC G p s m args c cL_law 9 wsL_law RL) (hfl : l.stackTraces = false) (X : xLw G s b L sc) {i : Int32} {M M9 : xM} {ta : Nat × Nat} {k0 n0 : Nat} (hk0 : k0 + 54 ≤ 603072) (hn0 : n0 + 7600 ≤ 7166058) (hf : f_law_c29 sc L i M = some M9) (kk : ∀ ta2, xW G p l e room_1 s m args below meth c 9 Q (k0 + 54) (n0 + 7600) ta2 M9 2752 [(0, .ref b), (1, .ref (xad G 0)), (2, .ref (xad G 9)), (3, .ref (xad G 20)), (4, .ref (xad G 21)), (5, .int i)] []) : xW G p l e room_1 s m args below meth c 9 Q k0 n0 ta M 1766 [(0, .ref b), (1, .ref (xad G 0)), (2, .ref (xad G 9)), (3, .ref (xad G 20)), (4, .ref (xad G 21)), (5, .int i)] [] := by
  unfold f_law_c29 at hf
  refine x_aload_n C 1 dL_law_1766 rfl ?_
  refine x_aload_n C 0 dL_law_1767 rfl ?_
  refine x_iload C 5 dL_law_1768 rfl ?_
  refine x_iconst (v := 1) C dL_law_1770 (by decide) ?_
  refine x_iadd C dL_law_1771 ?_
  obtain ⟨g1, hf⟩ := x_gd hf
  refine x_sald C X g1 dL_law_1772 ?_
  refine x_aload_n C 3 dL_law_1773 rfl ?_
  obtain ⟨q2, hg, hf⟩ := x_bd hf
  refine x_callSWr C (t_L_minutesUntilWindow hfl hg) (vx_cwSW 3 C.1.2.2.2.2 gL_law_L_minutesUntilWindow rfl rfl rfl (by decide +kernel) ⟨Nat.le_of_ble_eq_true rfl, Nat.le_of_ble_eq_true rfl⟩) rfl rfl (Nat.le_of_ble_eq_true rfl) dL_law_1774 ⟨by show _ ≤ (603072 : Nat); omega, by show _ ≤ (7166058 : Nat); omega⟩ (fun ta3 => ?_)
  clear hg
  refine x_istore (lv' := [(6, .int q2.1), (0, .ref b), (1, .ref (xad G 0)), (2, .ref (xad G 9)), (3, .ref (xad G 20)), (4, .ref (xad G 21)), (5, .int i)]) C dL_law_1777 (by decide) rfl ?_
  refine x_aload_n C 3 dL_law_1779 rfl ?_
  refine x_aload_n C 1 dL_law_1780 rfl ?_
  refine x_iload C 6 dL_law_1781 rfl ?_
  refine x_iconst (v := 1) C dL_law_1783 (by decide) ?_
  refine x_iadd C dL_law_1784 ?_
  obtain ⟨g4, hf⟩ := x_gd hf
  refine x_sald C X g4 dL_law_1785 ?_
  obtain ⟨q5, hg, hf⟩ := x_bd hf
  refine x_callVr C (by rw [xkd_9]; decide) (by rw [xkd_9]; decide) (xc9 xkd_9) rfl (t_X7_minutesUntilWindow hg) (cwV 1 C.1.2.2.2.2 gL_law_X7_minutesUntilWindow rfl rfl rfl (by decide +kernel) ⟨Nat.le_of_ble_eq_true rfl, Nat.le_of_ble_eq_true rfl⟩) rfl rfl (Nat.le_of_ble_eq_true rfl) dL_law_1786 ⟨by show _ ≤ (603072 : Nat); omega, by show _ ≤ (7166058 : Nat); omega⟩ (fun ta6 => ?_)
  clear hg
  refine x_istore (lv' := [(7, .int q5.1), (6, .int q2.1), (0, .ref b), (1, .ref (xad G 0)), (2, .ref (xad G 9)), (3, .ref (xad G 20)), (4, .ref (xad G 21)), (5, .int i)]) C dL_law_1789 (by decide) rfl ?_
  refine x_aload_n C 4 dL_law_1791 rfl ?_
  obtain ⟨q7, hg, hf⟩ := x_bd hf
  refine x_callVr C (by rw [xkd_9]; decide) (by rw [xkd_9]; decide) (xc9 xkd_9) rfl (t_X7_thrown hg) (cwV 0 C.1.2.2.2.2 gL_law_X7_thrown rfl rfl rfl (by decide +kernel) ⟨Nat.le_of_ble_eq_true rfl, Nat.le_of_ble_eq_true rfl⟩) rfl rfl (Nat.le_of_ble_eq_true rfl) dL_law_1792 ⟨by show _ ≤ (603072 : Nat); omega, by show _ ≤ (7166058 : Nat); omega⟩ (fun ta8 => ?_)
  clear hg
  refine x_iload C 1 dL_law_1795 rfl ?_
  refine x_icmp_eq C 1802 dL_law_1797 (by decide) (fun hc9 => ?_) (fun hc9 => ?_)
  · have hf := x_ip hc9 hf
    refine x_iload C 1 dL_law_1802 rfl ?_
    refine x_if_ne C 1819 dL_law_1804 (by decide) (fun hc10 => ?_) (fun hc10 => ?_)
    · have hf := x_ine hc10 hf
      refine x_goto C 2752 dL_law_1819 (by decide) ?_
      obtain rfl := Option.some.inj hf
      refine x_widen (k' := k0 + 54) (n' := n0 + 7600) (by omega) (by omega) ?_
      refine x_sub [2, 3, 4, 5, 6, 7] rfl ?_
      exact kk _
    · have hf := x_ip hc10 hf
      refine x_aload_n C 5 dL_law_1807 rfl ?_
      refine x_iconst (v := 0) C dL_law_1808 (by decide) ?_
      refine x_lald C dL_law_1809 ?_
      refine x_iload C 0 dL_law_1810 rfl ?_
      refine x_i2l (v := q5.1.toInt64) C dL_law_1812 rfl ?_
      refine x_lcmp C dL_law_1813 ?_
      refine x_if_eq C 1819 dL_law_1814 (by decide) (fun hc11 => ?_) (fun hc11 => ?_)
      · have hf := x_ip hc11 hf
        refine x_goto C 2752 dL_law_1819 (by decide) ?_
        obtain rfl := Option.some.inj hf
        refine x_widen (k' := k0 + 54) (n' := n0 + 7600) (by omega) (by omega) ?_
        refine x_sub [2, 3, 4, 5, 6, 7] rfl ?_
        exact kk _
      · have hf := x_ine hc11 hf
        cases hf
  · have hf := x_ine hc9 hf
    cases hf
def f_law_c30 (sc : Nat → Int32) (L : Nat) (i : Int32) (M : xM) : Option xM := if x_in (i + (1 : Int32)) L = true then if x_in (i + (2 : Int32)) L = true then (f_L_patienceAfter (sc (i + (1 : Int32)).toNatClampNeg) (sc (i + (2 : Int32)).toNatClampNeg) M).bind fun q3 => if x_in (i + (1 : Int32)) L = true then if x_in (i + (2 : Int32)) L = true then (f_X7_patienceAfter (sc (i + (1 : Int32)).toNatClampNeg) (sc (i + (2 : Int32)).toNatClampNeg) q3.2).bind fun q7 => (f_X7_thrown q7.2).bind fun q9 => (if q9 = q3.1 then (if q3.1 = 0 then (if (lg_cmp q7.2.2.2.1 q7.1.toInt64) = 0 then some q7.2 else none) else some q7.2) else none) else none else none else none else none
set_option maxHeartbeats 4000000 in
set_option maxRecDepth 100000 in
theorem t_law_c30 {G : xG} {p : Program} {l : Launch} {e : Env} {s : State} {m : MethodId} {args : Array Value} {below : List Frame} {meth : Method} {c : Code} {Q : State → Prop} {b L : Nat} {sc : Nat → Int32} (C : xC G p s m args c cL_law 9 wsL_law RL) (hfl : l.stackTraces = false) (X : xLw G s b L sc) {i : Int32} {M M9 : xM} {ta : Nat × Nat} {k0 n0 : Nat} (hk0 : k0 + 54 ≤ 603072) (hn0 : n0 + 7600 ≤ 7166058) (hf : f_law_c30 sc L i M = some M9) (kk : ∀ ta2, xW G p l e room_1 s m args below meth c 9 Q (k0 + 54) (n0 + 7600) ta2 M9 2752 [(0, .ref b), (1, .ref (xad G 0)), (2, .ref (xad G 9)), (3, .ref (xad G 20)), (4, .ref (xad G 21)), (5, .int i)] []) : xW G p l e room_1 s m args below meth c 9 Q k0 n0 ta M 1822 [(0, .ref b), (1, .ref (xad G 0)), (2, .ref (xad G 9)), (3, .ref (xad G 20)), (4, .ref (xad G 21)), (5, .int i)] [] := by
  unfold f_law_c30 at hf
  refine x_aload_n C 1 dL_law_1822 rfl ?_
  refine x_aload_n C 0 dL_law_1823 rfl ?_
  refine x_iload C 5 dL_law_1824 rfl ?_
  refine x_iconst (v := 1) C dL_law_1826 (by decide) ?_
  refine x_iadd C dL_law_1827 ?_
  obtain ⟨g1, hf⟩ := x_gd hf
  refine x_sald C X g1 dL_law_1828 ?_
  refine x_aload_n C 0 dL_law_1829 rfl ?_
  refine x_iload C 5 dL_law_1830 rfl ?_
  refine x_iconst (v := 2) C dL_law_1832 (by decide) ?_
  refine x_iadd C dL_law_1833 ?_
  obtain ⟨g2, hf⟩ := x_gd hf
  refine x_sald C X g2 dL_law_1834 ?_
  refine x_aload_n C 3 dL_law_1835 rfl ?_
  obtain ⟨q3, hg, hf⟩ := x_bd hf
  refine x_callSWr C (t_L_patienceAfter hfl hg) (vx_cwSW 4 C.1.2.2.2.2 gL_law_L_patienceAfter rfl rfl rfl (by decide +kernel) ⟨Nat.le_of_ble_eq_true rfl, Nat.le_of_ble_eq_true rfl⟩) rfl rfl (Nat.le_of_ble_eq_true rfl) dL_law_1836 ⟨by show _ ≤ (603072 : Nat); omega, by show _ ≤ (7166058 : Nat); omega⟩ (fun ta4 => ?_)
  clear hg
  refine x_istore (lv' := [(6, .int q3.1), (0, .ref b), (1, .ref (xad G 0)), (2, .ref (xad G 9)), (3, .ref (xad G 20)), (4, .ref (xad G 21)), (5, .int i)]) C dL_law_1839 (by decide) rfl ?_
  refine x_aload_n C 3 dL_law_1841 rfl ?_
  refine x_aload_n C 1 dL_law_1842 rfl ?_
  refine x_iload C 6 dL_law_1843 rfl ?_
  refine x_iconst (v := 1) C dL_law_1845 (by decide) ?_
  refine x_iadd C dL_law_1846 ?_
  obtain ⟨g5, hf⟩ := x_gd hf
  refine x_sald C X g5 dL_law_1847 ?_
  refine x_aload_n C 1 dL_law_1848 rfl ?_
  refine x_iload C 6 dL_law_1849 rfl ?_
  refine x_iconst (v := 2) C dL_law_1851 (by decide) ?_
  refine x_iadd C dL_law_1852 ?_
  obtain ⟨g6, hf⟩ := x_gd hf
  refine x_sald C X g6 dL_law_1853 ?_
  obtain ⟨q7, hg, hf⟩ := x_bd hf
  refine x_callVr C (by rw [xkd_9]; decide) (by rw [xkd_9]; decide) (xc9 xkd_9) rfl (t_X7_patienceAfter hg) (cwV 2 C.1.2.2.2.2 gL_law_X7_patienceAfter rfl rfl rfl (by decide +kernel) ⟨Nat.le_of_ble_eq_true rfl, Nat.le_of_ble_eq_true rfl⟩) rfl rfl (Nat.le_of_ble_eq_true rfl) dL_law_1854 ⟨by show _ ≤ (603072 : Nat); omega, by show _ ≤ (7166058 : Nat); omega⟩ (fun ta8 => ?_)
  clear hg
  refine x_istore (lv' := [(7, .int q7.1), (6, .int q3.1), (0, .ref b), (1, .ref (xad G 0)), (2, .ref (xad G 9)), (3, .ref (xad G 20)), (4, .ref (xad G 21)), (5, .int i)]) C dL_law_1857 (by decide) rfl ?_
  refine x_aload_n C 4 dL_law_1859 rfl ?_
  obtain ⟨q9, hg, hf⟩ := x_bd hf
  refine x_callVr C (by rw [xkd_9]; decide) (by rw [xkd_9]; decide) (xc9 xkd_9) rfl (t_X7_thrown hg) (cwV 0 C.1.2.2.2.2 gL_law_X7_thrown rfl rfl rfl (by decide +kernel) ⟨Nat.le_of_ble_eq_true rfl, Nat.le_of_ble_eq_true rfl⟩) rfl rfl (Nat.le_of_ble_eq_true rfl) dL_law_1860 ⟨by show _ ≤ (603072 : Nat); omega, by show _ ≤ (7166058 : Nat); omega⟩ (fun ta10 => ?_)
  clear hg
  refine x_iload C 1 dL_law_1863 rfl ?_
  refine x_icmp_eq C 1870 dL_law_1865 (by decide) (fun hc11 => ?_) (fun hc11 => ?_)
  · have hf := x_ip hc11 hf
    refine x_iload C 1 dL_law_1870 rfl ?_
    refine x_if_ne C 1887 dL_law_1872 (by decide) (fun hc12 => ?_) (fun hc12 => ?_)
    · have hf := x_ine hc12 hf
      refine x_goto C 2752 dL_law_1887 (by decide) ?_
      obtain rfl := Option.some.inj hf
      refine x_widen (k' := k0 + 54) (n' := n0 + 7600) (by omega) (by omega) ?_
      refine x_sub [2, 3, 4, 5, 6, 7] rfl ?_
      exact kk _
    · have hf := x_ip hc12 hf
      refine x_aload_n C 5 dL_law_1875 rfl ?_
      refine x_iconst (v := 0) C dL_law_1876 (by decide) ?_
      refine x_lald C dL_law_1877 ?_
      refine x_iload C 0 dL_law_1878 rfl ?_
      refine x_i2l (v := q7.1.toInt64) C dL_law_1880 rfl ?_
      refine x_lcmp C dL_law_1881 ?_
      refine x_if_eq C 1887 dL_law_1882 (by decide) (fun hc13 => ?_) (fun hc13 => ?_)
      · have hf := x_ip hc13 hf
        refine x_goto C 2752 dL_law_1887 (by decide) ?_
        obtain rfl := Option.some.inj hf
        refine x_widen (k' := k0 + 54) (n' := n0 + 7600) (by omega) (by omega) ?_
        refine x_sub [2, 3, 4, 5, 6, 7] rfl ?_
        exact kk _
      · have hf := x_ine hc13 hf
        cases hf
  · have hf := x_ine hc11 hf
    cases hf
def f_law_c31 (sc : Nat → Int32) (L : Nat) (i : Int32) (M : xM) : Option xM := if x_in (i + (1 : Int32)) L = true then (f_L_sighsWithin (sc (i + (1 : Int32)).toNatClampNeg) M).bind fun q2 => if x_in (i + (1 : Int32)) L = true then (f_X7_sighsWithin (sc (i + (1 : Int32)).toNatClampNeg) q2.2).bind fun q5 => (f_X7_thrown q5.2).bind fun q7 => (if q7 = q2.1 then (if q2.1 = 0 then (if (lg_cmp q5.2.2.2.1 q5.1.toInt64) = 0 then some q5.2 else none) else some q5.2) else none) else none else none
set_option maxHeartbeats 4000000 in
set_option maxRecDepth 100000 in
theorem t_law_c31 {G : xG} {p : Program} {l : Launch} {e : Env} {s : State} {m : MethodId} {args : Array Value} {below : List Frame} {meth : Method} {c : Code} {Q : State → Prop} {b L : Nat} {sc : Nat → Int32} (C : xC G p s m args c cL_law 9 wsL_law RL) (hfl : l.stackTraces = false) (X : xLw G s b L sc) {i : Int32} {M M9 : xM} {ta : Nat × Nat} {k0 n0 : Nat} (hk0 : k0 + 54 ≤ 603072) (hn0 : n0 + 7600 ≤ 7166058) (hf : f_law_c31 sc L i M = some M9) (kk : ∀ ta2, xW G p l e room_1 s m args below meth c 9 Q (k0 + 54) (n0 + 7600) ta2 M9 2752 [(0, .ref b), (1, .ref (xad G 0)), (2, .ref (xad G 9)), (3, .ref (xad G 20)), (4, .ref (xad G 21)), (5, .int i)] []) : xW G p l e room_1 s m args below meth c 9 Q k0 n0 ta M 1890 [(0, .ref b), (1, .ref (xad G 0)), (2, .ref (xad G 9)), (3, .ref (xad G 20)), (4, .ref (xad G 21)), (5, .int i)] [] := by
  unfold f_law_c31 at hf
  refine x_aload_n C 1 dL_law_1890 rfl ?_
  refine x_aload_n C 0 dL_law_1891 rfl ?_
  refine x_iload C 5 dL_law_1892 rfl ?_
  refine x_iconst (v := 1) C dL_law_1894 (by decide) ?_
  refine x_iadd C dL_law_1895 ?_
  obtain ⟨g1, hf⟩ := x_gd hf
  refine x_sald C X g1 dL_law_1896 ?_
  refine x_aload_n C 3 dL_law_1897 rfl ?_
  obtain ⟨q2, hg, hf⟩ := x_bd hf
  refine x_callSWr C (t_L_sighsWithin hfl hg) (vx_cwSW 3 C.1.2.2.2.2 gL_law_L_sighsWithin rfl rfl rfl (by decide +kernel) ⟨Nat.le_of_ble_eq_true rfl, Nat.le_of_ble_eq_true rfl⟩) rfl rfl (Nat.le_of_ble_eq_true rfl) dL_law_1898 ⟨by show _ ≤ (603072 : Nat); omega, by show _ ≤ (7166058 : Nat); omega⟩ (fun ta3 => ?_)
  clear hg
  refine x_istore (lv' := [(6, .int q2.1), (0, .ref b), (1, .ref (xad G 0)), (2, .ref (xad G 9)), (3, .ref (xad G 20)), (4, .ref (xad G 21)), (5, .int i)]) C dL_law_1901 (by decide) rfl ?_
  refine x_aload_n C 3 dL_law_1903 rfl ?_
  refine x_aload_n C 1 dL_law_1904 rfl ?_
  refine x_iload C 6 dL_law_1905 rfl ?_
  refine x_iconst (v := 1) C dL_law_1907 (by decide) ?_
  refine x_iadd C dL_law_1908 ?_
  obtain ⟨g4, hf⟩ := x_gd hf
  refine x_sald C X g4 dL_law_1909 ?_
  obtain ⟨q5, hg, hf⟩ := x_bd hf
  refine x_callVr C (by rw [xkd_9]; decide) (by rw [xkd_9]; decide) (xc9 xkd_9) rfl (t_X7_sighsWithin hg) (cwV 1 C.1.2.2.2.2 gL_law_X7_sighsWithin rfl rfl rfl (by decide +kernel) ⟨Nat.le_of_ble_eq_true rfl, Nat.le_of_ble_eq_true rfl⟩) rfl rfl (Nat.le_of_ble_eq_true rfl) dL_law_1910 ⟨by show _ ≤ (603072 : Nat); omega, by show _ ≤ (7166058 : Nat); omega⟩ (fun ta6 => ?_)
  clear hg
  refine x_istore (lv' := [(7, .int q5.1), (6, .int q2.1), (0, .ref b), (1, .ref (xad G 0)), (2, .ref (xad G 9)), (3, .ref (xad G 20)), (4, .ref (xad G 21)), (5, .int i)]) C dL_law_1913 (by decide) rfl ?_
  refine x_aload_n C 4 dL_law_1915 rfl ?_
  obtain ⟨q7, hg, hf⟩ := x_bd hf
  refine x_callVr C (by rw [xkd_9]; decide) (by rw [xkd_9]; decide) (xc9 xkd_9) rfl (t_X7_thrown hg) (cwV 0 C.1.2.2.2.2 gL_law_X7_thrown rfl rfl rfl (by decide +kernel) ⟨Nat.le_of_ble_eq_true rfl, Nat.le_of_ble_eq_true rfl⟩) rfl rfl (Nat.le_of_ble_eq_true rfl) dL_law_1916 ⟨by show _ ≤ (603072 : Nat); omega, by show _ ≤ (7166058 : Nat); omega⟩ (fun ta8 => ?_)
  clear hg
  refine x_iload C 1 dL_law_1919 rfl ?_
  refine x_icmp_eq C 1926 dL_law_1921 (by decide) (fun hc9 => ?_) (fun hc9 => ?_)
  · have hf := x_ip hc9 hf
    refine x_iload C 1 dL_law_1926 rfl ?_
    refine x_if_ne C 1943 dL_law_1928 (by decide) (fun hc10 => ?_) (fun hc10 => ?_)
    · have hf := x_ine hc10 hf
      refine x_goto C 2752 dL_law_1943 (by decide) ?_
      obtain rfl := Option.some.inj hf
      refine x_widen (k' := k0 + 54) (n' := n0 + 7600) (by omega) (by omega) ?_
      refine x_sub [2, 3, 4, 5, 6, 7] rfl ?_
      exact kk _
    · have hf := x_ip hc10 hf
      refine x_aload_n C 5 dL_law_1931 rfl ?_
      refine x_iconst (v := 0) C dL_law_1932 (by decide) ?_
      refine x_lald C dL_law_1933 ?_
      refine x_iload C 0 dL_law_1934 rfl ?_
      refine x_i2l (v := q5.1.toInt64) C dL_law_1936 rfl ?_
      refine x_lcmp C dL_law_1937 ?_
      refine x_if_eq C 1943 dL_law_1938 (by decide) (fun hc11 => ?_) (fun hc11 => ?_)
      · have hf := x_ip hc11 hf
        refine x_goto C 2752 dL_law_1943 (by decide) ?_
        obtain rfl := Option.some.inj hf
        refine x_widen (k' := k0 + 54) (n' := n0 + 7600) (by omega) (by omega) ?_
        refine x_sub [2, 3, 4, 5, 6, 7] rfl ?_
        exact kk _
      · have hf := x_ine hc11 hf
        cases hf
  · have hf := x_ine hc9 hf
    cases hf
def f_law_c32 (sc : Nat → Int32) (L : Nat) (i : Int32) (M : xM) : Option xM := if x_in (i + (1 : Int32)) L = true then (f_L_servedTicket (sc (i + (1 : Int32)).toNatClampNeg) M).bind fun q2 => if x_in (i + (1 : Int32)) L = true then (f_X7_servedTicket (sc (i + (1 : Int32)).toNatClampNeg) q2.2).bind fun q5 => (f_X7_thrown q5.2).bind fun q7 => (if q7 = q2.1 then (if q2.1 = 0 then (if (lg_cmp q5.2.2.2.1 q5.1.toInt64) = 0 then some q5.2 else none) else some q5.2) else none) else none else none
set_option maxHeartbeats 4000000 in
set_option maxRecDepth 100000 in
theorem t_law_c32 {G : xG} {p : Program} {l : Launch} {e : Env} {s : State} {m : MethodId} {args : Array Value} {below : List Frame} {meth : Method} {c : Code} {Q : State → Prop} {b L : Nat} {sc : Nat → Int32} (C : xC G p s m args c cL_law 9 wsL_law RL) (hfl : l.stackTraces = false) (X : xLw G s b L sc) {i : Int32} {M M9 : xM} {ta : Nat × Nat} {k0 n0 : Nat} (hk0 : k0 + 54 ≤ 603072) (hn0 : n0 + 7600 ≤ 7166058) (hf : f_law_c32 sc L i M = some M9) (kk : ∀ ta2, xW G p l e room_1 s m args below meth c 9 Q (k0 + 54) (n0 + 7600) ta2 M9 2752 [(0, .ref b), (1, .ref (xad G 0)), (2, .ref (xad G 9)), (3, .ref (xad G 20)), (4, .ref (xad G 21)), (5, .int i)] []) : xW G p l e room_1 s m args below meth c 9 Q k0 n0 ta M 1946 [(0, .ref b), (1, .ref (xad G 0)), (2, .ref (xad G 9)), (3, .ref (xad G 20)), (4, .ref (xad G 21)), (5, .int i)] [] := by
  unfold f_law_c32 at hf
  refine x_aload_n C 1 dL_law_1946 rfl ?_
  refine x_aload_n C 0 dL_law_1947 rfl ?_
  refine x_iload C 5 dL_law_1948 rfl ?_
  refine x_iconst (v := 1) C dL_law_1950 (by decide) ?_
  refine x_iadd C dL_law_1951 ?_
  obtain ⟨g1, hf⟩ := x_gd hf
  refine x_sald C X g1 dL_law_1952 ?_
  refine x_aload_n C 3 dL_law_1953 rfl ?_
  obtain ⟨q2, hg, hf⟩ := x_bd hf
  refine x_callSWr C (t_L_servedTicket hfl hg) (vx_cwSW 3 C.1.2.2.2.2 gL_law_L_servedTicket rfl rfl rfl (by decide +kernel) ⟨Nat.le_of_ble_eq_true rfl, Nat.le_of_ble_eq_true rfl⟩) rfl rfl (Nat.le_of_ble_eq_true rfl) dL_law_1954 ⟨by show _ ≤ (603072 : Nat); omega, by show _ ≤ (7166058 : Nat); omega⟩ (fun ta3 => ?_)
  clear hg
  refine x_istore (lv' := [(6, .int q2.1), (0, .ref b), (1, .ref (xad G 0)), (2, .ref (xad G 9)), (3, .ref (xad G 20)), (4, .ref (xad G 21)), (5, .int i)]) C dL_law_1957 (by decide) rfl ?_
  refine x_aload_n C 3 dL_law_1959 rfl ?_
  refine x_aload_n C 1 dL_law_1960 rfl ?_
  refine x_iload C 6 dL_law_1961 rfl ?_
  refine x_iconst (v := 1) C dL_law_1963 (by decide) ?_
  refine x_iadd C dL_law_1964 ?_
  obtain ⟨g4, hf⟩ := x_gd hf
  refine x_sald C X g4 dL_law_1965 ?_
  obtain ⟨q5, hg, hf⟩ := x_bd hf
  refine x_callVr C (by rw [xkd_9]; decide) (by rw [xkd_9]; decide) (xc9 xkd_9) rfl (t_X7_servedTicket hg) (cwV 1 C.1.2.2.2.2 gL_law_X7_servedTicket rfl rfl rfl (by decide +kernel) ⟨Nat.le_of_ble_eq_true rfl, Nat.le_of_ble_eq_true rfl⟩) rfl rfl (Nat.le_of_ble_eq_true rfl) dL_law_1966 ⟨by show _ ≤ (603072 : Nat); omega, by show _ ≤ (7166058 : Nat); omega⟩ (fun ta6 => ?_)
  clear hg
  refine x_istore (lv' := [(7, .int q5.1), (6, .int q2.1), (0, .ref b), (1, .ref (xad G 0)), (2, .ref (xad G 9)), (3, .ref (xad G 20)), (4, .ref (xad G 21)), (5, .int i)]) C dL_law_1969 (by decide) rfl ?_
  refine x_aload_n C 4 dL_law_1971 rfl ?_
  obtain ⟨q7, hg, hf⟩ := x_bd hf
  refine x_callVr C (by rw [xkd_9]; decide) (by rw [xkd_9]; decide) (xc9 xkd_9) rfl (t_X7_thrown hg) (cwV 0 C.1.2.2.2.2 gL_law_X7_thrown rfl rfl rfl (by decide +kernel) ⟨Nat.le_of_ble_eq_true rfl, Nat.le_of_ble_eq_true rfl⟩) rfl rfl (Nat.le_of_ble_eq_true rfl) dL_law_1972 ⟨by show _ ≤ (603072 : Nat); omega, by show _ ≤ (7166058 : Nat); omega⟩ (fun ta8 => ?_)
  clear hg
  refine x_iload C 1 dL_law_1975 rfl ?_
  refine x_icmp_eq C 1982 dL_law_1977 (by decide) (fun hc9 => ?_) (fun hc9 => ?_)
  · have hf := x_ip hc9 hf
    refine x_iload C 1 dL_law_1982 rfl ?_
    refine x_if_ne C 1999 dL_law_1984 (by decide) (fun hc10 => ?_) (fun hc10 => ?_)
    · have hf := x_ine hc10 hf
      refine x_goto C 2752 dL_law_1999 (by decide) ?_
      obtain rfl := Option.some.inj hf
      refine x_widen (k' := k0 + 54) (n' := n0 + 7600) (by omega) (by omega) ?_
      refine x_sub [2, 3, 4, 5, 6, 7] rfl ?_
      exact kk _
    · have hf := x_ip hc10 hf
      refine x_aload_n C 5 dL_law_1987 rfl ?_
      refine x_iconst (v := 0) C dL_law_1988 (by decide) ?_
      refine x_lald C dL_law_1989 ?_
      refine x_iload C 0 dL_law_1990 rfl ?_
      refine x_i2l (v := q5.1.toInt64) C dL_law_1992 rfl ?_
      refine x_lcmp C dL_law_1993 ?_
      refine x_if_eq C 1999 dL_law_1994 (by decide) (fun hc11 => ?_) (fun hc11 => ?_)
      · have hf := x_ip hc11 hf
        refine x_goto C 2752 dL_law_1999 (by decide) ?_
        obtain rfl := Option.some.inj hf
        refine x_widen (k' := k0 + 54) (n' := n0 + 7600) (by omega) (by omega) ?_
        refine x_sub [2, 3, 4, 5, 6, 7] rfl ?_
        exact kk _
      · have hf := x_ine hc11 hf
        cases hf
  · have hf := x_ine hc9 hf
    cases hf
def f_law_c33 (sc : Nat → Int32) (L : Nat) (i : Int32) (M : xM) : Option xM := if x_in (i + (1 : Int32)) L = true then (f_L_servedWaitingTime (sc (i + (1 : Int32)).toNatClampNeg) M).bind fun q2 => if x_in (i + (1 : Int32)) L = true then (f_X7_servedWaitingTime (sc (i + (1 : Int32)).toNatClampNeg) q2.2).bind fun q5 => (f_X7_thrown q5.2).bind fun q7 => (if q7 = q2.1 then (if q2.1 = 0 then (if (lg_cmp q5.2.2.2.1 q5.1.toInt64) = 0 then some q5.2 else none) else some q5.2) else none) else none else none
set_option maxHeartbeats 4000000 in
set_option maxRecDepth 100000 in
theorem t_law_c33 {G : xG} {p : Program} {l : Launch} {e : Env} {s : State} {m : MethodId} {args : Array Value} {below : List Frame} {meth : Method} {c : Code} {Q : State → Prop} {b L : Nat} {sc : Nat → Int32} (C : xC G p s m args c cL_law 9 wsL_law RL) (hfl : l.stackTraces = false) (X : xLw G s b L sc) {i : Int32} {M M9 : xM} {ta : Nat × Nat} {k0 n0 : Nat} (hk0 : k0 + 54 ≤ 603072) (hn0 : n0 + 7600 ≤ 7166058) (hf : f_law_c33 sc L i M = some M9) (kk : ∀ ta2, xW G p l e room_1 s m args below meth c 9 Q (k0 + 54) (n0 + 7600) ta2 M9 2752 [(0, .ref b), (1, .ref (xad G 0)), (2, .ref (xad G 9)), (3, .ref (xad G 20)), (4, .ref (xad G 21)), (5, .int i)] []) : xW G p l e room_1 s m args below meth c 9 Q k0 n0 ta M 2002 [(0, .ref b), (1, .ref (xad G 0)), (2, .ref (xad G 9)), (3, .ref (xad G 20)), (4, .ref (xad G 21)), (5, .int i)] [] := by
  unfold f_law_c33 at hf
  refine x_aload_n C 1 dL_law_2002 rfl ?_
  refine x_aload_n C 0 dL_law_2003 rfl ?_
  refine x_iload C 5 dL_law_2004 rfl ?_
  refine x_iconst (v := 1) C dL_law_2006 (by decide) ?_
  refine x_iadd C dL_law_2007 ?_
  obtain ⟨g1, hf⟩ := x_gd hf
  refine x_sald C X g1 dL_law_2008 ?_
  refine x_aload_n C 3 dL_law_2009 rfl ?_
  obtain ⟨q2, hg, hf⟩ := x_bd hf
  refine x_callSWr C (t_L_servedWaitingTime hfl hg) (vx_cwSW 3 C.1.2.2.2.2 gL_law_L_servedWaitingTime rfl rfl rfl (by decide +kernel) ⟨Nat.le_of_ble_eq_true rfl, Nat.le_of_ble_eq_true rfl⟩) rfl rfl (Nat.le_of_ble_eq_true rfl) dL_law_2010 ⟨by show _ ≤ (603072 : Nat); omega, by show _ ≤ (7166058 : Nat); omega⟩ (fun ta3 => ?_)
  clear hg
  refine x_istore (lv' := [(6, .int q2.1), (0, .ref b), (1, .ref (xad G 0)), (2, .ref (xad G 9)), (3, .ref (xad G 20)), (4, .ref (xad G 21)), (5, .int i)]) C dL_law_2013 (by decide) rfl ?_
  refine x_aload_n C 3 dL_law_2015 rfl ?_
  refine x_aload_n C 1 dL_law_2016 rfl ?_
  refine x_iload C 6 dL_law_2017 rfl ?_
  refine x_iconst (v := 1) C dL_law_2019 (by decide) ?_
  refine x_iadd C dL_law_2020 ?_
  obtain ⟨g4, hf⟩ := x_gd hf
  refine x_sald C X g4 dL_law_2021 ?_
  obtain ⟨q5, hg, hf⟩ := x_bd hf
  refine x_callVr C (by rw [xkd_9]; decide) (by rw [xkd_9]; decide) (xc9 xkd_9) rfl (t_X7_servedWaitingTime hg) (cwV 1 C.1.2.2.2.2 gL_law_X7_servedWaitingTime rfl rfl rfl (by decide +kernel) ⟨Nat.le_of_ble_eq_true rfl, Nat.le_of_ble_eq_true rfl⟩) rfl rfl (Nat.le_of_ble_eq_true rfl) dL_law_2022 ⟨by show _ ≤ (603072 : Nat); omega, by show _ ≤ (7166058 : Nat); omega⟩ (fun ta6 => ?_)
  clear hg
  refine x_istore (lv' := [(7, .int q5.1), (6, .int q2.1), (0, .ref b), (1, .ref (xad G 0)), (2, .ref (xad G 9)), (3, .ref (xad G 20)), (4, .ref (xad G 21)), (5, .int i)]) C dL_law_2025 (by decide) rfl ?_
  refine x_aload_n C 4 dL_law_2027 rfl ?_
  obtain ⟨q7, hg, hf⟩ := x_bd hf
  refine x_callVr C (by rw [xkd_9]; decide) (by rw [xkd_9]; decide) (xc9 xkd_9) rfl (t_X7_thrown hg) (cwV 0 C.1.2.2.2.2 gL_law_X7_thrown rfl rfl rfl (by decide +kernel) ⟨Nat.le_of_ble_eq_true rfl, Nat.le_of_ble_eq_true rfl⟩) rfl rfl (Nat.le_of_ble_eq_true rfl) dL_law_2028 ⟨by show _ ≤ (603072 : Nat); omega, by show _ ≤ (7166058 : Nat); omega⟩ (fun ta8 => ?_)
  clear hg
  refine x_iload C 1 dL_law_2031 rfl ?_
  refine x_icmp_eq C 2038 dL_law_2033 (by decide) (fun hc9 => ?_) (fun hc9 => ?_)
  · have hf := x_ip hc9 hf
    refine x_iload C 1 dL_law_2038 rfl ?_
    refine x_if_ne C 2055 dL_law_2040 (by decide) (fun hc10 => ?_) (fun hc10 => ?_)
    · have hf := x_ine hc10 hf
      refine x_goto C 2752 dL_law_2055 (by decide) ?_
      obtain rfl := Option.some.inj hf
      refine x_widen (k' := k0 + 54) (n' := n0 + 7600) (by omega) (by omega) ?_
      refine x_sub [2, 3, 4, 5, 6, 7] rfl ?_
      exact kk _
    · have hf := x_ip hc10 hf
      refine x_aload_n C 5 dL_law_2043 rfl ?_
      refine x_iconst (v := 0) C dL_law_2044 (by decide) ?_
      refine x_lald C dL_law_2045 ?_
      refine x_iload C 0 dL_law_2046 rfl ?_
      refine x_i2l (v := q5.1.toInt64) C dL_law_2048 rfl ?_
      refine x_lcmp C dL_law_2049 ?_
      refine x_if_eq C 2055 dL_law_2050 (by decide) (fun hc11 => ?_) (fun hc11 => ?_)
      · have hf := x_ip hc11 hf
        refine x_goto C 2752 dL_law_2055 (by decide) ?_
        obtain rfl := Option.some.inj hf
        refine x_widen (k' := k0 + 54) (n' := n0 + 7600) (by omega) (by omega) ?_
        refine x_sub [2, 3, 4, 5, 6, 7] rfl ?_
        exact kk _
      · have hf := x_ine hc11 hf
        cases hf
  · have hf := x_ine hc9 hf
    cases hf
def f_law_c34 (sc : Nat → Int32) (L : Nat) (i : Int32) (M : xM) : Option xM := if x_in (i + (1 : Int32)) L = true then (f_L_customerBySighs (sc (i + (1 : Int32)).toNatClampNeg) M).bind fun q2 => if x_in (i + (1 : Int32)) L = true then (f_X7_customerBySighs (sc (i + (1 : Int32)).toNatClampNeg) q2.2).bind fun q5 => (f_X7_thrown q5.2).bind fun q7 => (if q7 = q2.1 then (if q2.1 = 0 then (if (lg_cmp q5.2.2.2.1 q5.1.toInt64) = 0 then some q5.2 else none) else some q5.2) else none) else none else none
set_option maxHeartbeats 4000000 in
set_option maxRecDepth 100000 in
theorem t_law_c34 {G : xG} {p : Program} {l : Launch} {e : Env} {s : State} {m : MethodId} {args : Array Value} {below : List Frame} {meth : Method} {c : Code} {Q : State → Prop} {b L : Nat} {sc : Nat → Int32} (C : xC G p s m args c cL_law 9 wsL_law RL) (hfl : l.stackTraces = false) (X : xLw G s b L sc) {i : Int32} {M M9 : xM} {ta : Nat × Nat} {k0 n0 : Nat} (hk0 : k0 + 54 ≤ 603072) (hn0 : n0 + 7600 ≤ 7166058) (hf : f_law_c34 sc L i M = some M9) (kk : ∀ ta2, xW G p l e room_1 s m args below meth c 9 Q (k0 + 54) (n0 + 7600) ta2 M9 2752 [(0, .ref b), (1, .ref (xad G 0)), (2, .ref (xad G 9)), (3, .ref (xad G 20)), (4, .ref (xad G 21)), (5, .int i)] []) : xW G p l e room_1 s m args below meth c 9 Q k0 n0 ta M 2058 [(0, .ref b), (1, .ref (xad G 0)), (2, .ref (xad G 9)), (3, .ref (xad G 20)), (4, .ref (xad G 21)), (5, .int i)] [] := by
  unfold f_law_c34 at hf
  refine x_aload_n C 1 dL_law_2058 rfl ?_
  refine x_aload_n C 0 dL_law_2059 rfl ?_
  refine x_iload C 5 dL_law_2060 rfl ?_
  refine x_iconst (v := 1) C dL_law_2062 (by decide) ?_
  refine x_iadd C dL_law_2063 ?_
  obtain ⟨g1, hf⟩ := x_gd hf
  refine x_sald C X g1 dL_law_2064 ?_
  refine x_aload_n C 3 dL_law_2065 rfl ?_
  obtain ⟨q2, hg, hf⟩ := x_bd hf
  refine x_callSWr C (t_L_customerBySighs hfl hg) (vx_cwSW 3 C.1.2.2.2.2 gL_law_L_customerBySighs rfl rfl rfl (by decide +kernel) ⟨Nat.le_of_ble_eq_true rfl, Nat.le_of_ble_eq_true rfl⟩) rfl rfl (Nat.le_of_ble_eq_true rfl) dL_law_2066 ⟨by show _ ≤ (603072 : Nat); omega, by show _ ≤ (7166058 : Nat); omega⟩ (fun ta3 => ?_)
  clear hg
  refine x_istore (lv' := [(6, .int q2.1), (0, .ref b), (1, .ref (xad G 0)), (2, .ref (xad G 9)), (3, .ref (xad G 20)), (4, .ref (xad G 21)), (5, .int i)]) C dL_law_2069 (by decide) rfl ?_
  refine x_aload_n C 3 dL_law_2071 rfl ?_
  refine x_aload_n C 1 dL_law_2072 rfl ?_
  refine x_iload C 6 dL_law_2073 rfl ?_
  refine x_iconst (v := 1) C dL_law_2075 (by decide) ?_
  refine x_iadd C dL_law_2076 ?_
  obtain ⟨g4, hf⟩ := x_gd hf
  refine x_sald C X g4 dL_law_2077 ?_
  obtain ⟨q5, hg, hf⟩ := x_bd hf
  refine x_callVr C (by rw [xkd_9]; decide) (by rw [xkd_9]; decide) (xc9 xkd_9) rfl (t_X7_customerBySighs hg) (cwV 1 C.1.2.2.2.2 gL_law_X7_customerBySighs rfl rfl rfl (by decide +kernel) ⟨Nat.le_of_ble_eq_true rfl, Nat.le_of_ble_eq_true rfl⟩) rfl rfl (Nat.le_of_ble_eq_true rfl) dL_law_2078 ⟨by show _ ≤ (603072 : Nat); omega, by show _ ≤ (7166058 : Nat); omega⟩ (fun ta6 => ?_)
  clear hg
  refine x_istore (lv' := [(7, .int q5.1), (6, .int q2.1), (0, .ref b), (1, .ref (xad G 0)), (2, .ref (xad G 9)), (3, .ref (xad G 20)), (4, .ref (xad G 21)), (5, .int i)]) C dL_law_2081 (by decide) rfl ?_
  refine x_aload_n C 4 dL_law_2083 rfl ?_
  obtain ⟨q7, hg, hf⟩ := x_bd hf
  refine x_callVr C (by rw [xkd_9]; decide) (by rw [xkd_9]; decide) (xc9 xkd_9) rfl (t_X7_thrown hg) (cwV 0 C.1.2.2.2.2 gL_law_X7_thrown rfl rfl rfl (by decide +kernel) ⟨Nat.le_of_ble_eq_true rfl, Nat.le_of_ble_eq_true rfl⟩) rfl rfl (Nat.le_of_ble_eq_true rfl) dL_law_2084 ⟨by show _ ≤ (603072 : Nat); omega, by show _ ≤ (7166058 : Nat); omega⟩ (fun ta8 => ?_)
  clear hg
  refine x_iload C 1 dL_law_2087 rfl ?_
  refine x_icmp_eq C 2094 dL_law_2089 (by decide) (fun hc9 => ?_) (fun hc9 => ?_)
  · have hf := x_ip hc9 hf
    refine x_iload C 1 dL_law_2094 rfl ?_
    refine x_if_ne C 2111 dL_law_2096 (by decide) (fun hc10 => ?_) (fun hc10 => ?_)
    · have hf := x_ine hc10 hf
      refine x_goto C 2752 dL_law_2111 (by decide) ?_
      obtain rfl := Option.some.inj hf
      refine x_widen (k' := k0 + 54) (n' := n0 + 7600) (by omega) (by omega) ?_
      refine x_sub [2, 3, 4, 5, 6, 7] rfl ?_
      exact kk _
    · have hf := x_ip hc10 hf
      refine x_aload_n C 5 dL_law_2099 rfl ?_
      refine x_iconst (v := 0) C dL_law_2100 (by decide) ?_
      refine x_lald C dL_law_2101 ?_
      refine x_iload C 0 dL_law_2102 rfl ?_
      refine x_i2l (v := q5.1.toInt64) C dL_law_2104 rfl ?_
      refine x_lcmp C dL_law_2105 ?_
      refine x_if_eq C 2111 dL_law_2106 (by decide) (fun hc11 => ?_) (fun hc11 => ?_)
      · have hf := x_ip hc11 hf
        refine x_goto C 2752 dL_law_2111 (by decide) ?_
        obtain rfl := Option.some.inj hf
        refine x_widen (k' := k0 + 54) (n' := n0 + 7600) (by omega) (by omega) ?_
        refine x_sub [2, 3, 4, 5, 6, 7] rfl ?_
        exact kk _
      · have hf := x_ine hc11 hf
        cases hf
  · have hf := x_ine hc9 hf
    cases hf
def f_law_c35 (sc : Nat → Int32) (L : Nat) (i : Int32) (M : xM) : Option xM := if x_in (i + (1 : Int32)) L = true then (f_L_customerByWaitingTime (sc (i + (1 : Int32)).toNatClampNeg) M).bind fun q2 => if x_in (i + (1 : Int32)) L = true then (f_X7_customerByWaitingTime (sc (i + (1 : Int32)).toNatClampNeg) q2.2).bind fun q5 => (f_X7_thrown q5.2).bind fun q7 => (if q7 = q2.1 then (if q2.1 = 0 then (if (lg_cmp q5.2.2.2.1 q5.1.toInt64) = 0 then some q5.2 else none) else some q5.2) else none) else none else none
set_option maxHeartbeats 4000000 in
set_option maxRecDepth 100000 in
theorem t_law_c35 {G : xG} {p : Program} {l : Launch} {e : Env} {s : State} {m : MethodId} {args : Array Value} {below : List Frame} {meth : Method} {c : Code} {Q : State → Prop} {b L : Nat} {sc : Nat → Int32} (C : xC G p s m args c cL_law 9 wsL_law RL) (hfl : l.stackTraces = false) (X : xLw G s b L sc) {i : Int32} {M M9 : xM} {ta : Nat × Nat} {k0 n0 : Nat} (hk0 : k0 + 54 ≤ 603072) (hn0 : n0 + 7600 ≤ 7166058) (hf : f_law_c35 sc L i M = some M9) (kk : ∀ ta2, xW G p l e room_1 s m args below meth c 9 Q (k0 + 54) (n0 + 7600) ta2 M9 2752 [(0, .ref b), (1, .ref (xad G 0)), (2, .ref (xad G 9)), (3, .ref (xad G 20)), (4, .ref (xad G 21)), (5, .int i)] []) : xW G p l e room_1 s m args below meth c 9 Q k0 n0 ta M 2114 [(0, .ref b), (1, .ref (xad G 0)), (2, .ref (xad G 9)), (3, .ref (xad G 20)), (4, .ref (xad G 21)), (5, .int i)] [] := by
  unfold f_law_c35 at hf
  refine x_aload_n C 1 dL_law_2114 rfl ?_
  refine x_aload_n C 0 dL_law_2115 rfl ?_
  refine x_iload C 5 dL_law_2116 rfl ?_
  refine x_iconst (v := 1) C dL_law_2118 (by decide) ?_
  refine x_iadd C dL_law_2119 ?_
  obtain ⟨g1, hf⟩ := x_gd hf
  refine x_sald C X g1 dL_law_2120 ?_
  refine x_aload_n C 3 dL_law_2121 rfl ?_
  obtain ⟨q2, hg, hf⟩ := x_bd hf
  refine x_callSWr C (t_L_customerByWaitingTime hfl hg) (vx_cwSW 3 C.1.2.2.2.2 gL_law_L_customerByWaitingTime rfl rfl rfl (by decide +kernel) ⟨Nat.le_of_ble_eq_true rfl, Nat.le_of_ble_eq_true rfl⟩) rfl rfl (Nat.le_of_ble_eq_true rfl) dL_law_2122 ⟨by show _ ≤ (603072 : Nat); omega, by show _ ≤ (7166058 : Nat); omega⟩ (fun ta3 => ?_)
  clear hg
  refine x_istore (lv' := [(6, .int q2.1), (0, .ref b), (1, .ref (xad G 0)), (2, .ref (xad G 9)), (3, .ref (xad G 20)), (4, .ref (xad G 21)), (5, .int i)]) C dL_law_2125 (by decide) rfl ?_
  refine x_aload_n C 3 dL_law_2127 rfl ?_
  refine x_aload_n C 1 dL_law_2128 rfl ?_
  refine x_iload C 6 dL_law_2129 rfl ?_
  refine x_iconst (v := 1) C dL_law_2131 (by decide) ?_
  refine x_iadd C dL_law_2132 ?_
  obtain ⟨g4, hf⟩ := x_gd hf
  refine x_sald C X g4 dL_law_2133 ?_
  obtain ⟨q5, hg, hf⟩ := x_bd hf
  refine x_callVr C (by rw [xkd_9]; decide) (by rw [xkd_9]; decide) (xc9 xkd_9) rfl (t_X7_customerByWaitingTime hg) (cwV 1 C.1.2.2.2.2 gL_law_X7_customerByWaitingTime rfl rfl rfl (by decide +kernel) ⟨Nat.le_of_ble_eq_true rfl, Nat.le_of_ble_eq_true rfl⟩) rfl rfl (Nat.le_of_ble_eq_true rfl) dL_law_2134 ⟨by show _ ≤ (603072 : Nat); omega, by show _ ≤ (7166058 : Nat); omega⟩ (fun ta6 => ?_)
  clear hg
  refine x_istore (lv' := [(7, .int q5.1), (6, .int q2.1), (0, .ref b), (1, .ref (xad G 0)), (2, .ref (xad G 9)), (3, .ref (xad G 20)), (4, .ref (xad G 21)), (5, .int i)]) C dL_law_2137 (by decide) rfl ?_
  refine x_aload_n C 4 dL_law_2139 rfl ?_
  obtain ⟨q7, hg, hf⟩ := x_bd hf
  refine x_callVr C (by rw [xkd_9]; decide) (by rw [xkd_9]; decide) (xc9 xkd_9) rfl (t_X7_thrown hg) (cwV 0 C.1.2.2.2.2 gL_law_X7_thrown rfl rfl rfl (by decide +kernel) ⟨Nat.le_of_ble_eq_true rfl, Nat.le_of_ble_eq_true rfl⟩) rfl rfl (Nat.le_of_ble_eq_true rfl) dL_law_2140 ⟨by show _ ≤ (603072 : Nat); omega, by show _ ≤ (7166058 : Nat); omega⟩ (fun ta8 => ?_)
  clear hg
  refine x_iload C 1 dL_law_2143 rfl ?_
  refine x_icmp_eq C 2150 dL_law_2145 (by decide) (fun hc9 => ?_) (fun hc9 => ?_)
  · have hf := x_ip hc9 hf
    refine x_iload C 1 dL_law_2150 rfl ?_
    refine x_if_ne C 2167 dL_law_2152 (by decide) (fun hc10 => ?_) (fun hc10 => ?_)
    · have hf := x_ine hc10 hf
      refine x_goto C 2752 dL_law_2167 (by decide) ?_
      obtain rfl := Option.some.inj hf
      refine x_widen (k' := k0 + 54) (n' := n0 + 7600) (by omega) (by omega) ?_
      refine x_sub [2, 3, 4, 5, 6, 7] rfl ?_
      exact kk _
    · have hf := x_ip hc10 hf
      refine x_aload_n C 5 dL_law_2155 rfl ?_
      refine x_iconst (v := 0) C dL_law_2156 (by decide) ?_
      refine x_lald C dL_law_2157 ?_
      refine x_iload C 0 dL_law_2158 rfl ?_
      refine x_i2l (v := q5.1.toInt64) C dL_law_2160 rfl ?_
      refine x_lcmp C dL_law_2161 ?_
      refine x_if_eq C 2167 dL_law_2162 (by decide) (fun hc11 => ?_) (fun hc11 => ?_)
      · have hf := x_ip hc11 hf
        refine x_goto C 2752 dL_law_2167 (by decide) ?_
        obtain rfl := Option.some.inj hf
        refine x_widen (k' := k0 + 54) (n' := n0 + 7600) (by omega) (by omega) ?_
        refine x_sub [2, 3, 4, 5, 6, 7] rfl ?_
        exact kk _
      · have hf := x_ine hc11 hf
        cases hf
  · have hf := x_ine hc9 hf
    cases hf
def f_law_c36 (sc : Nat → Int32) (L : Nat) (i : Int32) (M : xM) : Option xM := (f_X6_minute M).bind fun q1 => (f_X7_minute M).bind fun q3 => (if q1 = q3.1 then some q3.2 else none)
set_option maxHeartbeats 4000000 in
set_option maxRecDepth 100000 in
theorem t_law_c36 {G : xG} {p : Program} {l : Launch} {e : Env} {s : State} {m : MethodId} {args : Array Value} {below : List Frame} {meth : Method} {c : Code} {Q : State → Prop} {b L : Nat} {sc : Nat → Int32} (C : xC G p s m args c cL_law 9 wsL_law RL) (hfl : l.stackTraces = false) (X : xLw G s b L sc) {i : Int32} {M M9 : xM} {ta : Nat × Nat} {k0 n0 : Nat} (hk0 : k0 + 54 ≤ 603072) (hn0 : n0 + 7600 ≤ 7166058) (hf : f_law_c36 sc L i M = some M9) (kk : ∀ ta2, xW G p l e room_1 s m args below meth c 9 Q (k0 + 54) (n0 + 7600) ta2 M9 2752 [(0, .ref b), (1, .ref (xad G 0)), (2, .ref (xad G 9)), (3, .ref (xad G 20)), (4, .ref (xad G 21)), (5, .int i)] []) : xW G p l e room_1 s m args below meth c 9 Q k0 n0 ta M 2170 [(0, .ref b), (1, .ref (xad G 0)), (2, .ref (xad G 9)), (3, .ref (xad G 20)), (4, .ref (xad G 21)), (5, .int i)] [] := by
  unfold f_law_c36 at hf
  refine x_aload_n C 1 dL_law_2170 rfl ?_
  obtain ⟨q1, hg, hf⟩ := x_bd hf
  refine x_callVr C (by rw [xkd_0]; decide) (by rw [xkd_0]; decide) (xc8 xkd_0) rfl (t_X6_minute hg) (cwV 0 C.1.2.2.2.2 gL_law_X6_minute rfl rfl rfl (by decide +kernel) ⟨Nat.le_of_ble_eq_true rfl, Nat.le_of_ble_eq_true rfl⟩) rfl rfl (Nat.le_of_ble_eq_true rfl) dL_law_2171 ⟨by show _ ≤ (603072 : Nat); omega, by show _ ≤ (7166058 : Nat); omega⟩ (fun ta2 => ?_)
  clear hg
  refine x_aload_n C 2 dL_law_2174 rfl ?_
  obtain ⟨q3, hg, hf⟩ := x_bd hf
  refine x_callVr C (by rw [xkd_9]; decide) (by rw [xkd_9]; decide) (xc9 xkd_9) rfl (t_X7_minute hg) (cwV 0 C.1.2.2.2.2 gL_law_X7_minute rfl rfl rfl (by decide +kernel) ⟨Nat.le_of_ble_eq_true rfl, Nat.le_of_ble_eq_true rfl⟩) rfl rfl (Nat.le_of_ble_eq_true rfl) dL_law_2175 ⟨by show _ ≤ (603072 : Nat); omega, by show _ ≤ (7166058 : Nat); omega⟩ (fun ta4 => ?_)
  clear hg
  refine x_icmp_eq C 2752 dL_law_2178 (by decide) (fun hc5 => ?_) (fun hc5 => ?_)
  · have hf := x_ip hc5 hf
    obtain rfl := Option.some.inj hf
    refine x_widen (k' := k0 + 54) (n' := n0 + 7600) (by omega) (by omega) ?_
    refine x_sub [0, 1, 2, 3, 4, 5] rfl ?_
    exact kk _
  · have hf := x_ine hc5 hf
    cases hf
def f_law_c37 (sc : Nat → Int32) (L : Nat) (i : Int32) (M : xM) : Option xM := (f_X6_addedTotal M).bind fun q1 => (f_X7_addedTotal M).bind fun q3 => (if q1 = q3.1 then some q3.2 else none)
set_option maxHeartbeats 4000000 in
set_option maxRecDepth 100000 in
theorem t_law_c37 {G : xG} {p : Program} {l : Launch} {e : Env} {s : State} {m : MethodId} {args : Array Value} {below : List Frame} {meth : Method} {c : Code} {Q : State → Prop} {b L : Nat} {sc : Nat → Int32} (C : xC G p s m args c cL_law 9 wsL_law RL) (hfl : l.stackTraces = false) (X : xLw G s b L sc) {i : Int32} {M M9 : xM} {ta : Nat × Nat} {k0 n0 : Nat} (hk0 : k0 + 54 ≤ 603072) (hn0 : n0 + 7600 ≤ 7166058) (hf : f_law_c37 sc L i M = some M9) (kk : ∀ ta2, xW G p l e room_1 s m args below meth c 9 Q (k0 + 54) (n0 + 7600) ta2 M9 2752 [(0, .ref b), (1, .ref (xad G 0)), (2, .ref (xad G 9)), (3, .ref (xad G 20)), (4, .ref (xad G 21)), (5, .int i)] []) : xW G p l e room_1 s m args below meth c 9 Q k0 n0 ta M 2183 [(0, .ref b), (1, .ref (xad G 0)), (2, .ref (xad G 9)), (3, .ref (xad G 20)), (4, .ref (xad G 21)), (5, .int i)] [] := by
  unfold f_law_c37 at hf
  refine x_aload_n C 1 dL_law_2183 rfl ?_
  obtain ⟨q1, hg, hf⟩ := x_bd hf
  refine x_callVr C (by rw [xkd_0]; decide) (by rw [xkd_0]; decide) (xc8 xkd_0) rfl (t_X6_addedTotal hg) (cwV 0 C.1.2.2.2.2 gL_law_X6_addedTotal rfl rfl rfl (by decide +kernel) ⟨Nat.le_of_ble_eq_true rfl, Nat.le_of_ble_eq_true rfl⟩) rfl rfl (Nat.le_of_ble_eq_true rfl) dL_law_2184 ⟨by show _ ≤ (603072 : Nat); omega, by show _ ≤ (7166058 : Nat); omega⟩ (fun ta2 => ?_)
  clear hg
  refine x_aload_n C 2 dL_law_2187 rfl ?_
  obtain ⟨q3, hg, hf⟩ := x_bd hf
  refine x_callVr C (by rw [xkd_9]; decide) (by rw [xkd_9]; decide) (xc9 xkd_9) rfl (t_X7_addedTotal hg) (cwV 0 C.1.2.2.2.2 gL_law_X7_addedTotal rfl rfl rfl (by decide +kernel) ⟨Nat.le_of_ble_eq_true rfl, Nat.le_of_ble_eq_true rfl⟩) rfl rfl (Nat.le_of_ble_eq_true rfl) dL_law_2188 ⟨by show _ ≤ (603072 : Nat); omega, by show _ ≤ (7166058 : Nat); omega⟩ (fun ta4 => ?_)
  clear hg
  refine x_icmp_eq C 2752 dL_law_2191 (by decide) (fun hc5 => ?_) (fun hc5 => ?_)
  · have hf := x_ip hc5 hf
    obtain rfl := Option.some.inj hf
    refine x_widen (k' := k0 + 54) (n' := n0 + 7600) (by omega) (by omega) ?_
    refine x_sub [0, 1, 2, 3, 4, 5] rfl ?_
    exact kk _
  · have hf := x_ine hc5 hf
    cases hf
def f_law_c38 (sc : Nat → Int32) (L : Nat) (i : Int32) (M : xM) : Option xM := (f_X6_servedTotal M).bind fun q1 => (f_X7_servedTotal M).bind fun q3 => (if q1 = q3.1 then some q3.2 else none)
set_option maxHeartbeats 4000000 in
set_option maxRecDepth 100000 in
theorem t_law_c38 {G : xG} {p : Program} {l : Launch} {e : Env} {s : State} {m : MethodId} {args : Array Value} {below : List Frame} {meth : Method} {c : Code} {Q : State → Prop} {b L : Nat} {sc : Nat → Int32} (C : xC G p s m args c cL_law 9 wsL_law RL) (hfl : l.stackTraces = false) (X : xLw G s b L sc) {i : Int32} {M M9 : xM} {ta : Nat × Nat} {k0 n0 : Nat} (hk0 : k0 + 54 ≤ 603072) (hn0 : n0 + 7600 ≤ 7166058) (hf : f_law_c38 sc L i M = some M9) (kk : ∀ ta2, xW G p l e room_1 s m args below meth c 9 Q (k0 + 54) (n0 + 7600) ta2 M9 2752 [(0, .ref b), (1, .ref (xad G 0)), (2, .ref (xad G 9)), (3, .ref (xad G 20)), (4, .ref (xad G 21)), (5, .int i)] []) : xW G p l e room_1 s m args below meth c 9 Q k0 n0 ta M 2196 [(0, .ref b), (1, .ref (xad G 0)), (2, .ref (xad G 9)), (3, .ref (xad G 20)), (4, .ref (xad G 21)), (5, .int i)] [] := by
  unfold f_law_c38 at hf
  refine x_aload_n C 1 dL_law_2196 rfl ?_
  obtain ⟨q1, hg, hf⟩ := x_bd hf
  refine x_callVr C (by rw [xkd_0]; decide) (by rw [xkd_0]; decide) (xc8 xkd_0) rfl (t_X6_servedTotal hg) (cwV 0 C.1.2.2.2.2 gL_law_X6_servedTotal rfl rfl rfl (by decide +kernel) ⟨Nat.le_of_ble_eq_true rfl, Nat.le_of_ble_eq_true rfl⟩) rfl rfl (Nat.le_of_ble_eq_true rfl) dL_law_2197 ⟨by show _ ≤ (603072 : Nat); omega, by show _ ≤ (7166058 : Nat); omega⟩ (fun ta2 => ?_)
  clear hg
  refine x_aload_n C 2 dL_law_2200 rfl ?_
  obtain ⟨q3, hg, hf⟩ := x_bd hf
  refine x_callVr C (by rw [xkd_9]; decide) (by rw [xkd_9]; decide) (xc9 xkd_9) rfl (t_X7_servedTotal hg) (cwV 0 C.1.2.2.2.2 gL_law_X7_servedTotal rfl rfl rfl (by decide +kernel) ⟨Nat.le_of_ble_eq_true rfl, Nat.le_of_ble_eq_true rfl⟩) rfl rfl (Nat.le_of_ble_eq_true rfl) dL_law_2201 ⟨by show _ ≤ (603072 : Nat); omega, by show _ ≤ (7166058 : Nat); omega⟩ (fun ta4 => ?_)
  clear hg
  refine x_icmp_eq C 2752 dL_law_2204 (by decide) (fun hc5 => ?_) (fun hc5 => ?_)
  · have hf := x_ip hc5 hf
    obtain rfl := Option.some.inj hf
    refine x_widen (k' := k0 + 54) (n' := n0 + 7600) (by omega) (by omega) ?_
    refine x_sub [0, 1, 2, 3, 4, 5] rfl ?_
    exact kk _
  · have hf := x_ine hc5 hf
    cases hf
def f_law_c39 (sc : Nat → Int32) (L : Nat) (i : Int32) (M : xM) : Option xM := (f_X6_walkedOutTotal M).bind fun q1 => (f_X7_walkedOutTotal M).bind fun q3 => (if q1 = q3.1 then some q3.2 else none)
set_option maxHeartbeats 4000000 in
set_option maxRecDepth 100000 in
theorem t_law_c39 {G : xG} {p : Program} {l : Launch} {e : Env} {s : State} {m : MethodId} {args : Array Value} {below : List Frame} {meth : Method} {c : Code} {Q : State → Prop} {b L : Nat} {sc : Nat → Int32} (C : xC G p s m args c cL_law 9 wsL_law RL) (hfl : l.stackTraces = false) (X : xLw G s b L sc) {i : Int32} {M M9 : xM} {ta : Nat × Nat} {k0 n0 : Nat} (hk0 : k0 + 54 ≤ 603072) (hn0 : n0 + 7600 ≤ 7166058) (hf : f_law_c39 sc L i M = some M9) (kk : ∀ ta2, xW G p l e room_1 s m args below meth c 9 Q (k0 + 54) (n0 + 7600) ta2 M9 2752 [(0, .ref b), (1, .ref (xad G 0)), (2, .ref (xad G 9)), (3, .ref (xad G 20)), (4, .ref (xad G 21)), (5, .int i)] []) : xW G p l e room_1 s m args below meth c 9 Q k0 n0 ta M 2209 [(0, .ref b), (1, .ref (xad G 0)), (2, .ref (xad G 9)), (3, .ref (xad G 20)), (4, .ref (xad G 21)), (5, .int i)] [] := by
  unfold f_law_c39 at hf
  refine x_aload_n C 1 dL_law_2209 rfl ?_
  obtain ⟨q1, hg, hf⟩ := x_bd hf
  refine x_callVr C (by rw [xkd_0]; decide) (by rw [xkd_0]; decide) (xc8 xkd_0) rfl (t_X6_walkedOutTotal hg) (cwV 0 C.1.2.2.2.2 gL_law_X6_walkedOutTotal rfl rfl rfl (by decide +kernel) ⟨Nat.le_of_ble_eq_true rfl, Nat.le_of_ble_eq_true rfl⟩) rfl rfl (Nat.le_of_ble_eq_true rfl) dL_law_2210 ⟨by show _ ≤ (603072 : Nat); omega, by show _ ≤ (7166058 : Nat); omega⟩ (fun ta2 => ?_)
  clear hg
  refine x_aload_n C 2 dL_law_2213 rfl ?_
  obtain ⟨q3, hg, hf⟩ := x_bd hf
  refine x_callVr C (by rw [xkd_9]; decide) (by rw [xkd_9]; decide) (xc9 xkd_9) rfl (t_X7_walkedOutTotal hg) (cwV 0 C.1.2.2.2.2 gL_law_X7_walkedOutTotal rfl rfl rfl (by decide +kernel) ⟨Nat.le_of_ble_eq_true rfl, Nat.le_of_ble_eq_true rfl⟩) rfl rfl (Nat.le_of_ble_eq_true rfl) dL_law_2214 ⟨by show _ ≤ (603072 : Nat); omega, by show _ ≤ (7166058 : Nat); omega⟩ (fun ta4 => ?_)
  clear hg
  refine x_icmp_eq C 2752 dL_law_2217 (by decide) (fun hc5 => ?_) (fun hc5 => ?_)
  · have hf := x_ip hc5 hf
    obtain rfl := Option.some.inj hf
    refine x_widen (k' := k0 + 54) (n' := n0 + 7600) (by omega) (by omega) ?_
    refine x_sub [0, 1, 2, 3, 4, 5] rfl ?_
    exact kk _
  · have hf := x_ine hc5 hf
    cases hf
def f_law_c40 (sc : Nat → Int32) (L : Nat) (i : Int32) (M : xM) : Option xM := (f_X6_sighTotal M).bind fun q1 => (f_X7_sighTotal M).bind fun q3 => (if q1 = q3.1 then some q3.2 else none)
set_option maxHeartbeats 4000000 in
set_option maxRecDepth 100000 in
theorem t_law_c40 {G : xG} {p : Program} {l : Launch} {e : Env} {s : State} {m : MethodId} {args : Array Value} {below : List Frame} {meth : Method} {c : Code} {Q : State → Prop} {b L : Nat} {sc : Nat → Int32} (C : xC G p s m args c cL_law 9 wsL_law RL) (hfl : l.stackTraces = false) (X : xLw G s b L sc) {i : Int32} {M M9 : xM} {ta : Nat × Nat} {k0 n0 : Nat} (hk0 : k0 + 54 ≤ 603072) (hn0 : n0 + 7600 ≤ 7166058) (hf : f_law_c40 sc L i M = some M9) (kk : ∀ ta2, xW G p l e room_1 s m args below meth c 9 Q (k0 + 54) (n0 + 7600) ta2 M9 2752 [(0, .ref b), (1, .ref (xad G 0)), (2, .ref (xad G 9)), (3, .ref (xad G 20)), (4, .ref (xad G 21)), (5, .int i)] []) : xW G p l e room_1 s m args below meth c 9 Q k0 n0 ta M 2222 [(0, .ref b), (1, .ref (xad G 0)), (2, .ref (xad G 9)), (3, .ref (xad G 20)), (4, .ref (xad G 21)), (5, .int i)] [] := by
  unfold f_law_c40 at hf
  refine x_aload_n C 1 dL_law_2222 rfl ?_
  obtain ⟨q1, hg, hf⟩ := x_bd hf
  refine x_callVr C (by rw [xkd_0]; decide) (by rw [xkd_0]; decide) (xc8 xkd_0) rfl (t_X6_sighTotal hg) (cwV 0 C.1.2.2.2.2 gL_law_X6_sighTotal rfl rfl rfl (by decide +kernel) ⟨Nat.le_of_ble_eq_true rfl, Nat.le_of_ble_eq_true rfl⟩) rfl rfl (Nat.le_of_ble_eq_true rfl) dL_law_2223 ⟨by show _ ≤ (603072 : Nat); omega, by show _ ≤ (7166058 : Nat); omega⟩ (fun ta2 => ?_)
  clear hg
  refine x_aload_n C 2 dL_law_2226 rfl ?_
  obtain ⟨q3, hg, hf⟩ := x_bd hf
  refine x_callVr C (by rw [xkd_9]; decide) (by rw [xkd_9]; decide) (xc9 xkd_9) rfl (t_X7_sighTotal hg) (cwV 0 C.1.2.2.2.2 gL_law_X7_sighTotal rfl rfl rfl (by decide +kernel) ⟨Nat.le_of_ble_eq_true rfl, Nat.le_of_ble_eq_true rfl⟩) rfl rfl (Nat.le_of_ble_eq_true rfl) dL_law_2227 ⟨by show _ ≤ (603072 : Nat); omega, by show _ ≤ (7166058 : Nat); omega⟩ (fun ta4 => ?_)
  clear hg
  refine x_icmp_eq C 2752 dL_law_2230 (by decide) (fun hc5 => ?_) (fun hc5 => ?_)
  · have hf := x_ip hc5 hf
    obtain rfl := Option.some.inj hf
    refine x_widen (k' := k0 + 54) (n' := n0 + 7600) (by omega) (by omega) ?_
    refine x_sub [0, 1, 2, 3, 4, 5] rfl ?_
    exact kk _
  · have hf := x_ine hc5 hf
    cases hf
def f_law_c41 (sc : Nat → Int32) (L : Nat) (i : Int32) (M : xM) : Option xM := (f_L_meanPatience M).bind fun q1 => (f_X7_meanPatience q1.2).bind fun q3 => (f_X7_thrown q3.2).bind fun q5 => (if q5 = q1.1 then (if q1.1 = 0 then (if (Op.cmpValue (FP.dcmp q3.2.2.2.2 q3.1) .l) = 0 then some q3.2 else (if (Op.cmpValue (FP.dcmp q3.2.2.2.2 q3.2.2.2.2) .l) = 0 then none else (if (Op.cmpValue (FP.dcmp q3.1 q3.1) .l) = 0 then none else some q3.2))) else some q3.2) else none)
set_option maxHeartbeats 4000000 in
set_option maxRecDepth 100000 in
theorem t_law_c41 {G : xG} {p : Program} {l : Launch} {e : Env} {s : State} {m : MethodId} {args : Array Value} {below : List Frame} {meth : Method} {c : Code} {Q : State → Prop} {b L : Nat} {sc : Nat → Int32} (C : xC G p s m args c cL_law 9 wsL_law RL) (hfl : l.stackTraces = false) (X : xLw G s b L sc) {i : Int32} {M M9 : xM} {ta : Nat × Nat} {k0 n0 : Nat} (hk0 : k0 + 54 ≤ 603072) (hn0 : n0 + 7600 ≤ 7166058) (hf : f_law_c41 sc L i M = some M9) (kk : ∀ ta2, xW G p l e room_1 s m args below meth c 9 Q (k0 + 54) (n0 + 7600) ta2 M9 2752 [(0, .ref b), (1, .ref (xad G 0)), (2, .ref (xad G 9)), (3, .ref (xad G 20)), (4, .ref (xad G 21)), (5, .int i)] []) : xW G p l e room_1 s m args below meth c 9 Q k0 n0 ta M 2235 [(0, .ref b), (1, .ref (xad G 0)), (2, .ref (xad G 9)), (3, .ref (xad G 20)), (4, .ref (xad G 21)), (5, .int i)] [] := by
  unfold f_law_c41 at hf
  refine x_aload_n C 1 dL_law_2235 rfl ?_
  refine x_aload C 4 dL_law_2236 rfl ?_
  obtain ⟨q1, hg, hf⟩ := x_bd hf
  refine x_callSWr C (t_L_meanPatience hfl hg) (vx_cwSW 2 C.1.2.2.2.2 gL_law_L_meanPatience rfl rfl rfl (by decide +kernel) ⟨Nat.le_of_ble_eq_true rfl, Nat.le_of_ble_eq_true rfl⟩) rfl rfl (Nat.le_of_ble_eq_true rfl) dL_law_2238 ⟨by show _ ≤ (603072 : Nat); omega, by show _ ≤ (7166058 : Nat); omega⟩ (fun ta2 => ?_)
  clear hg
  refine x_istore (lv' := [(6, .int q1.1), (0, .ref b), (1, .ref (xad G 0)), (2, .ref (xad G 9)), (3, .ref (xad G 20)), (4, .ref (xad G 21)), (5, .int i)]) C dL_law_2241 (by decide) rfl ?_
  refine x_aload_n C 3 dL_law_2243 rfl ?_
  obtain ⟨q3, hg, hf⟩ := x_bd hf
  refine x_callVr C (by rw [xkd_9]; decide) (by rw [xkd_9]; decide) (xc9 xkd_9) rfl (t_X7_meanPatience hg) (cwV 0 C.1.2.2.2.2 gL_law_X7_meanPatience rfl rfl rfl (by decide +kernel) ⟨Nat.le_of_ble_eq_true rfl, Nat.le_of_ble_eq_true rfl⟩) rfl rfl (Nat.le_of_ble_eq_true rfl) dL_law_2244 ⟨by show _ ≤ (603072 : Nat); omega, by show _ ≤ (7166058 : Nat); omega⟩ (fun ta4 => ?_)
  clear hg
  refine x_dstore (lv' := [(7, .double q3.1), (6, .int q1.1), (0, .ref b), (1, .ref (xad G 0)), (2, .ref (xad G 9)), (3, .ref (xad G 20)), (4, .ref (xad G 21)), (5, .int i)]) C dL_law_2247 (by decide) rfl ?_
  refine x_aload_n C 4 dL_law_2249 rfl ?_
  obtain ⟨q5, hg, hf⟩ := x_bd hf
  refine x_callVr C (by rw [xkd_9]; decide) (by rw [xkd_9]; decide) (xc9 xkd_9) rfl (t_X7_thrown hg) (cwV 0 C.1.2.2.2.2 gL_law_X7_thrown rfl rfl rfl (by decide +kernel) ⟨Nat.le_of_ble_eq_true rfl, Nat.le_of_ble_eq_true rfl⟩) rfl rfl (Nat.le_of_ble_eq_true rfl) dL_law_2250 ⟨by show _ ≤ (603072 : Nat); omega, by show _ ≤ (7166058 : Nat); omega⟩ (fun ta6 => ?_)
  clear hg
  refine x_iload C 1 dL_law_2253 rfl ?_
  refine x_icmp_eq C 2260 dL_law_2255 (by decide) (fun hc7 => ?_) (fun hc7 => ?_)
  · have hf := x_ip hc7 hf
    refine x_iload C 1 dL_law_2260 rfl ?_
    refine x_if_ne C 2297 dL_law_2262 (by decide) (fun hc8 => ?_) (fun hc8 => ?_)
    · have hf := x_ine hc8 hf
      refine x_goto C 2752 dL_law_2297 (by decide) ?_
      obtain rfl := Option.some.inj hf
      refine x_widen (k' := k0 + 54) (n' := n0 + 7600) (by omega) (by omega) ?_
      refine x_sub [2, 3, 4, 5, 6, 7] rfl ?_
      exact kk _
    · have hf := x_ip hc8 hf
      refine x_aload C 6 dL_law_2265 rfl ?_
      refine x_iconst (v := 0) C dL_law_2267 (by decide) ?_
      refine x_dald C dL_law_2268 ?_
      refine x_dload C 0 dL_law_2269 rfl ?_
      refine x_dcmp C dL_law_2271 ?_
      refine x_if_eq C 2297 dL_law_2272 (by decide) (fun hc9 => ?_) (fun hc9 => ?_)
      · have hf := x_ip hc9 hf
        refine x_goto C 2752 dL_law_2297 (by decide) ?_
        obtain rfl := Option.some.inj hf
        refine x_widen (k' := k0 + 54) (n' := n0 + 7600) (by omega) (by omega) ?_
        refine x_sub [2, 3, 4, 5, 6, 7] rfl ?_
        exact kk _
      · have hf := x_ine hc9 hf
        refine x_aload C 6 dL_law_2275 rfl ?_
        refine x_iconst (v := 0) C dL_law_2277 (by decide) ?_
        refine x_dald C dL_law_2278 ?_
        refine x_aload C 6 dL_law_2279 rfl ?_
        refine x_iconst (v := 0) C dL_law_2281 (by decide) ?_
        refine x_dald C dL_law_2282 ?_
        refine x_dcmp C dL_law_2283 ?_
        refine x_if_eq C 2295 dL_law_2284 (by decide) (fun hc10 => ?_) (fun hc10 => ?_)
        · have hf := x_ip hc10 hf
          cases hf
        · have hf := x_ine hc10 hf
          refine x_dload C 0 dL_law_2287 rfl ?_
          refine x_dload C 0 dL_law_2289 rfl ?_
          refine x_dcmp C dL_law_2291 ?_
          refine x_if_ne C 2297 dL_law_2292 (by decide) (fun hc11 => ?_) (fun hc11 => ?_)
          · have hf := x_ine hc11 hf
            refine x_goto C 2752 dL_law_2297 (by decide) ?_
            obtain rfl := Option.some.inj hf
            refine x_widen (k' := k0 + 54) (n' := n0 + 7600) (by omega) (by omega) ?_
            refine x_sub [2, 3, 4, 5, 6, 7] rfl ?_
            exact kk _
          · have hf := x_ip hc11 hf
            cases hf
  · have hf := x_ine hc7 hf
    cases hf
def f_law_c42 (sc : Nat → Int32) (L : Nat) (i : Int32) (M : xM) : Option xM := (f_L_calmShare M).bind fun q1 => (f_X7_calmShare q1.2).bind fun q3 => (f_X7_thrown q3.2).bind fun q5 => (if q5 = q1.1 then (if q1.1 = 0 then if x_n64 (FP.f2d q3.1) = true then (if (Op.cmpValue (FP.dcmp q3.2.2.2.2 (FP.f2d q3.1)) .l) = 0 then some q3.2 else (if (Op.cmpValue (FP.dcmp q3.2.2.2.2 q3.2.2.2.2) .l) = 0 then none else (if (Op.cmpValue (FP.fcmp q3.1 q3.1) .l) = 0 then none else some q3.2))) else none else some q3.2) else none)
set_option maxHeartbeats 4000000 in
set_option maxRecDepth 100000 in
theorem t_law_c42 {G : xG} {p : Program} {l : Launch} {e : Env} {s : State} {m : MethodId} {args : Array Value} {below : List Frame} {meth : Method} {c : Code} {Q : State → Prop} {b L : Nat} {sc : Nat → Int32} (C : xC G p s m args c cL_law 9 wsL_law RL) (hfl : l.stackTraces = false) (X : xLw G s b L sc) {i : Int32} {M M9 : xM} {ta : Nat × Nat} {k0 n0 : Nat} (hk0 : k0 + 54 ≤ 603072) (hn0 : n0 + 7600 ≤ 7166058) (hf : f_law_c42 sc L i M = some M9) (kk : ∀ ta2, xW G p l e room_1 s m args below meth c 9 Q (k0 + 54) (n0 + 7600) ta2 M9 2752 [(0, .ref b), (1, .ref (xad G 0)), (2, .ref (xad G 9)), (3, .ref (xad G 20)), (4, .ref (xad G 21)), (5, .int i)] []) : xW G p l e room_1 s m args below meth c 9 Q k0 n0 ta M 2300 [(0, .ref b), (1, .ref (xad G 0)), (2, .ref (xad G 9)), (3, .ref (xad G 20)), (4, .ref (xad G 21)), (5, .int i)] [] := by
  unfold f_law_c42 at hf
  refine x_aload_n C 1 dL_law_2300 rfl ?_
  refine x_aload C 4 dL_law_2301 rfl ?_
  obtain ⟨q1, hg, hf⟩ := x_bd hf
  refine x_callSWr C (t_L_calmShare hfl hg) (vx_cwSW 2 C.1.2.2.2.2 gL_law_L_calmShare rfl rfl rfl (by decide +kernel) ⟨Nat.le_of_ble_eq_true rfl, Nat.le_of_ble_eq_true rfl⟩) rfl rfl (Nat.le_of_ble_eq_true rfl) dL_law_2303 ⟨by show _ ≤ (603072 : Nat); omega, by show _ ≤ (7166058 : Nat); omega⟩ (fun ta2 => ?_)
  clear hg
  refine x_istore (lv' := [(6, .int q1.1), (0, .ref b), (1, .ref (xad G 0)), (2, .ref (xad G 9)), (3, .ref (xad G 20)), (4, .ref (xad G 21)), (5, .int i)]) C dL_law_2306 (by decide) rfl ?_
  refine x_aload_n C 3 dL_law_2308 rfl ?_
  obtain ⟨q3, hg, hf⟩ := x_bd hf
  refine x_callVr C (by rw [xkd_9]; decide) (by rw [xkd_9]; decide) (xc9 xkd_9) rfl (t_X7_calmShare hg) (cwV 0 C.1.2.2.2.2 gL_law_X7_calmShare rfl rfl rfl (by decide +kernel) ⟨Nat.le_of_ble_eq_true rfl, Nat.le_of_ble_eq_true rfl⟩) rfl rfl (Nat.le_of_ble_eq_true rfl) dL_law_2309 ⟨by show _ ≤ (603072 : Nat); omega, by show _ ≤ (7166058 : Nat); omega⟩ (fun ta4 => ?_)
  clear hg
  refine x_fstore (lv' := [(7, .float q3.1), (6, .int q1.1), (0, .ref b), (1, .ref (xad G 0)), (2, .ref (xad G 9)), (3, .ref (xad G 20)), (4, .ref (xad G 21)), (5, .int i)]) C dL_law_2312 (by decide) rfl ?_
  refine x_aload_n C 4 dL_law_2314 rfl ?_
  obtain ⟨q5, hg, hf⟩ := x_bd hf
  refine x_callVr C (by rw [xkd_9]; decide) (by rw [xkd_9]; decide) (xc9 xkd_9) rfl (t_X7_thrown hg) (cwV 0 C.1.2.2.2.2 gL_law_X7_thrown rfl rfl rfl (by decide +kernel) ⟨Nat.le_of_ble_eq_true rfl, Nat.le_of_ble_eq_true rfl⟩) rfl rfl (Nat.le_of_ble_eq_true rfl) dL_law_2315 ⟨by show _ ≤ (603072 : Nat); omega, by show _ ≤ (7166058 : Nat); omega⟩ (fun ta6 => ?_)
  clear hg
  refine x_iload C 1 dL_law_2318 rfl ?_
  refine x_icmp_eq C 2325 dL_law_2320 (by decide) (fun hc7 => ?_) (fun hc7 => ?_)
  · have hf := x_ip hc7 hf
    refine x_iload C 1 dL_law_2325 rfl ?_
    refine x_if_ne C 2363 dL_law_2327 (by decide) (fun hc8 => ?_) (fun hc8 => ?_)
    · have hf := x_ine hc8 hf
      refine x_goto C 2752 dL_law_2363 (by decide) ?_
      obtain rfl := Option.some.inj hf
      refine x_widen (k' := k0 + 54) (n' := n0 + 7600) (by omega) (by omega) ?_
      refine x_sub [2, 3, 4, 5, 6, 7] rfl ?_
      exact kk _
    · have hf := x_ip hc8 hf
      refine x_aload C 6 dL_law_2330 rfl ?_
      refine x_iconst (v := 0) C dL_law_2332 (by decide) ?_
      refine x_dald C dL_law_2333 ?_
      refine x_fload C 0 dL_law_2334 rfl ?_
      obtain ⟨g9, hf⟩ := x_gd hf
      refine x_f2d C dL_law_2336 (x_n64_of g9) ?_
      refine x_dcmp C dL_law_2337 ?_
      refine x_if_eq C 2363 dL_law_2338 (by decide) (fun hc10 => ?_) (fun hc10 => ?_)
      · have hf := x_ip hc10 hf
        refine x_goto C 2752 dL_law_2363 (by decide) ?_
        obtain rfl := Option.some.inj hf
        refine x_widen (k' := k0 + 54) (n' := n0 + 7600) (by omega) (by omega) ?_
        refine x_sub [2, 3, 4, 5, 6, 7] rfl ?_
        exact kk _
      · have hf := x_ine hc10 hf
        refine x_aload C 6 dL_law_2341 rfl ?_
        refine x_iconst (v := 0) C dL_law_2343 (by decide) ?_
        refine x_dald C dL_law_2344 ?_
        refine x_aload C 6 dL_law_2345 rfl ?_
        refine x_iconst (v := 0) C dL_law_2347 (by decide) ?_
        refine x_dald C dL_law_2348 ?_
        refine x_dcmp C dL_law_2349 ?_
        refine x_if_eq C 2361 dL_law_2350 (by decide) (fun hc11 => ?_) (fun hc11 => ?_)
        · have hf := x_ip hc11 hf
          cases hf
        · have hf := x_ine hc11 hf
          refine x_fload C 0 dL_law_2353 rfl ?_
          refine x_fload C 0 dL_law_2355 rfl ?_
          refine x_fcmp C dL_law_2357 ?_
          refine x_if_ne C 2363 dL_law_2358 (by decide) (fun hc12 => ?_) (fun hc12 => ?_)
          · have hf := x_ine hc12 hf
            refine x_goto C 2752 dL_law_2363 (by decide) ?_
            obtain rfl := Option.some.inj hf
            refine x_widen (k' := k0 + 54) (n' := n0 + 7600) (by omega) (by omega) ?_
            refine x_sub [2, 3, 4, 5, 6, 7] rfl ?_
            exact kk _
          · have hf := x_ip hc12 hf
            cases hf
  · have hf := x_ine hc7 hf
    cases hf
def f_law_c43 (sc : Nat → Int32) (L : Nat) (i : Int32) (M : xM) : Option xM := (f_X6_isConsistent M).bind fun q1 => x_case q1.1 (fun r3 => (fun (M5 : xM) => (f_X7_isConsistent M5).bind fun q6 => (if r3 = q6.1 then some q6.2 else none)) q1.2) (fun E4 => (fun (M5 : xM) => none) q1.2)
set_option maxHeartbeats 4000000 in
set_option maxRecDepth 100000 in
theorem t_law_c43 {G : xG} {p : Program} {l : Launch} {e : Env} {s : State} {m : MethodId} {args : Array Value} {below : List Frame} {meth : Method} {c : Code} {Q : State → Prop} {b L : Nat} {sc : Nat → Int32} (C : xC G p s m args c cL_law 9 wsL_law RL) (hfl : l.stackTraces = false) (X : xLw G s b L sc) {i : Int32} {M M9 : xM} {ta : Nat × Nat} {k0 n0 : Nat} (hk0 : k0 + 54 ≤ 603072) (hn0 : n0 + 7600 ≤ 7166058) (hf : f_law_c43 sc L i M = some M9) (kk : ∀ ta2, xW G p l e room_1 s m args below meth c 9 Q (k0 + 54) (n0 + 7600) ta2 M9 2752 [(0, .ref b), (1, .ref (xad G 0)), (2, .ref (xad G 9)), (3, .ref (xad G 20)), (4, .ref (xad G 21)), (5, .int i)] []) : xW G p l e room_1 s m args below meth c 9 Q k0 n0 ta M 2366 [(0, .ref b), (1, .ref (xad G 0)), (2, .ref (xad G 9)), (3, .ref (xad G 20)), (4, .ref (xad G 21)), (5, .int i)] [] := by
  unfold f_law_c43 at hf
  refine x_aload_n C 1 dL_law_2366 rfl ?_
  obtain ⟨q1, hg, hf⟩ := x_bd hf
  rcases q1 with ⟨r3 | E4, M5⟩
  · have hf := x_ci hf
    refine x_callVXr (w := .int r3) (mc := 0) (ms := 0) C (by rw [xkd_0]; decide) (by rw [xkd_0]; decide) (xc8 xkd_0) rfl (t_X6_isConsistent hfl hg) (cwV 0 C.1.2.2.2.2 gL_law_X6_isConsistent rfl rfl rfl (by decide +kernel) ⟨Nat.le_of_ble_eq_true rfl, Nat.le_of_ble_eq_true rfl⟩) rfl rfl (Nat.le_of_ble_eq_true rfl) dL_law_2367 ⟨by show _ ≤ (603072 : Nat); omega, by show _ ≤ (7166058 : Nat); omega⟩ (fun ta2 => ?_)
    clear hg
    refine x_aload_n C 2 dL_law_2370 rfl ?_
    obtain ⟨q6, hg, hf⟩ := x_bd hf
    refine x_callVr C (by rw [xkd_9]; decide) (by rw [xkd_9]; decide) (xc9 xkd_9) rfl (t_X7_isConsistent hg) (cwV 0 C.1.2.2.2.2 gL_law_X7_isConsistent rfl rfl rfl (by decide +kernel) ⟨Nat.le_of_ble_eq_true rfl, Nat.le_of_ble_eq_true rfl⟩) rfl rfl (Nat.le_of_ble_eq_true rfl) dL_law_2371 ⟨by show _ ≤ (603072 : Nat); omega, by show _ ≤ (7166058 : Nat); omega⟩ (fun ta7 => ?_)
    clear hg
    refine x_icmp_eq C 2752 dL_law_2374 (by decide) (fun hc8 => ?_) (fun hc8 => ?_)
    · have hf := x_ip hc8 hf
      obtain rfl := Option.some.inj hf
      refine x_widen (k' := k0 + 54) (n' := n0 + 7600) (by omega) (by omega) ?_
      refine x_sub [0, 1, 2, 3, 4, 5] rfl ?_
      exact kk _
    · have hf := x_ine hc8 hf
      cases hf
  · have hf := x_cx hf
    cases hf
def f_law_c44 (sc : Nat → Int32) (L : Nat) (i : Int32) (M : xM) : Option xM := (f_X6_renderQueue M).bind fun q1 => (f_X7_renderQueue q1.2).bind fun q3 => (if q1.1 = q3.1 then some q3.2 else none)
set_option maxHeartbeats 4000000 in
set_option maxRecDepth 100000 in
theorem t_law_c44 {G : xG} {p : Program} {l : Launch} {e : Env} {s : State} {m : MethodId} {args : Array Value} {below : List Frame} {meth : Method} {c : Code} {Q : State → Prop} {b L : Nat} {sc : Nat → Int32} (C : xC G p s m args c cL_law 9 wsL_law RL) (hfl : l.stackTraces = false) (X : xLw G s b L sc) {i : Int32} {M M9 : xM} {ta : Nat × Nat} {k0 n0 : Nat} (hk0 : k0 + 54 ≤ 603072) (hn0 : n0 + 7600 ≤ 7166058) (hf : f_law_c44 sc L i M = some M9) (kk : ∀ ta2, xW G p l e room_1 s m args below meth c 9 Q (k0 + 54) (n0 + 7600) ta2 M9 2752 [(0, .ref b), (1, .ref (xad G 0)), (2, .ref (xad G 9)), (3, .ref (xad G 20)), (4, .ref (xad G 21)), (5, .int i)] []) : xW G p l e room_1 s m args below meth c 9 Q k0 n0 ta M 2379 [(0, .ref b), (1, .ref (xad G 0)), (2, .ref (xad G 9)), (3, .ref (xad G 20)), (4, .ref (xad G 21)), (5, .int i)] [] := by
  unfold f_law_c44 at hf
  refine x_aload_n C 1 dL_law_2379 rfl ?_
  obtain ⟨q1, hg, hf⟩ := x_bd hf
  refine x_callVr C (by rw [xkd_0]; decide) (by rw [xkd_0]; decide) (xc8 xkd_0) rfl (t_X6_renderQueue hg) (cwV 0 C.1.2.2.2.2 gL_law_X6_renderQueue rfl rfl rfl (by decide +kernel) ⟨Nat.le_of_ble_eq_true rfl, Nat.le_of_ble_eq_true rfl⟩) rfl rfl (Nat.le_of_ble_eq_true rfl) dL_law_2380 ⟨by show _ ≤ (603072 : Nat); omega, by show _ ≤ (7166058 : Nat); omega⟩ (fun ta2 => ?_)
  clear hg
  refine x_aload_n C 2 dL_law_2383 rfl ?_
  obtain ⟨q3, hg, hf⟩ := x_bd hf
  refine x_callVr C (by rw [xkd_9]; decide) (by rw [xkd_9]; decide) (xc9 xkd_9) rfl (t_X7_renderQueue hg) (cwV 0 C.1.2.2.2.2 gL_law_X7_renderQueue rfl rfl rfl (by decide +kernel) ⟨Nat.le_of_ble_eq_true rfl, Nat.le_of_ble_eq_true rfl⟩) rfl rfl (Nat.le_of_ble_eq_true rfl) dL_law_2384 ⟨by show _ ≤ (603072 : Nat); omega, by show _ ≤ (7166058 : Nat); omega⟩ (fun ta4 => ?_)
  clear hg
  refine x_icmp_eq C 2752 dL_law_2387 (by decide) (fun hc5 => ?_) (fun hc5 => ?_)
  · have hf := x_ip hc5 hf
    obtain rfl := Option.some.inj hf
    refine x_widen (k' := k0 + 54) (n' := n0 + 7600) (by omega) (by omega) ?_
    refine x_sub [0, 1, 2, 3, 4, 5] rfl ?_
    exact kk _
  · have hf := x_ine hc5 hf
    cases hf
def f_law_c45 (sc : Nat → Int32) (L : Nat) (i : Int32) (M : xM) : Option xM := (f_X6_renderWindows M).bind fun q1 => (f_X7_renderWindows q1.2).bind fun q3 => (if q1.1 = q3.1 then some q3.2 else none)
set_option maxHeartbeats 4000000 in
set_option maxRecDepth 100000 in
theorem t_law_c45 {G : xG} {p : Program} {l : Launch} {e : Env} {s : State} {m : MethodId} {args : Array Value} {below : List Frame} {meth : Method} {c : Code} {Q : State → Prop} {b L : Nat} {sc : Nat → Int32} (C : xC G p s m args c cL_law 9 wsL_law RL) (hfl : l.stackTraces = false) (X : xLw G s b L sc) {i : Int32} {M M9 : xM} {ta : Nat × Nat} {k0 n0 : Nat} (hk0 : k0 + 54 ≤ 603072) (hn0 : n0 + 7600 ≤ 7166058) (hf : f_law_c45 sc L i M = some M9) (kk : ∀ ta2, xW G p l e room_1 s m args below meth c 9 Q (k0 + 54) (n0 + 7600) ta2 M9 2752 [(0, .ref b), (1, .ref (xad G 0)), (2, .ref (xad G 9)), (3, .ref (xad G 20)), (4, .ref (xad G 21)), (5, .int i)] []) : xW G p l e room_1 s m args below meth c 9 Q k0 n0 ta M 2392 [(0, .ref b), (1, .ref (xad G 0)), (2, .ref (xad G 9)), (3, .ref (xad G 20)), (4, .ref (xad G 21)), (5, .int i)] [] := by
  unfold f_law_c45 at hf
  refine x_aload_n C 1 dL_law_2392 rfl ?_
  obtain ⟨q1, hg, hf⟩ := x_bd hf
  refine x_callVr C (by rw [xkd_0]; decide) (by rw [xkd_0]; decide) (xc8 xkd_0) rfl (t_X6_renderWindows hg) (cwV 0 C.1.2.2.2.2 gL_law_X6_renderWindows rfl rfl rfl (by decide +kernel) ⟨Nat.le_of_ble_eq_true rfl, Nat.le_of_ble_eq_true rfl⟩) rfl rfl (Nat.le_of_ble_eq_true rfl) dL_law_2393 ⟨by show _ ≤ (603072 : Nat); omega, by show _ ≤ (7166058 : Nat); omega⟩ (fun ta2 => ?_)
  clear hg
  refine x_aload_n C 2 dL_law_2396 rfl ?_
  obtain ⟨q3, hg, hf⟩ := x_bd hf
  refine x_callVr C (by rw [xkd_9]; decide) (by rw [xkd_9]; decide) (xc9 xkd_9) rfl (t_X7_renderWindows hg) (cwV 0 C.1.2.2.2.2 gL_law_X7_renderWindows rfl rfl rfl (by decide +kernel) ⟨Nat.le_of_ble_eq_true rfl, Nat.le_of_ble_eq_true rfl⟩) rfl rfl (Nat.le_of_ble_eq_true rfl) dL_law_2397 ⟨by show _ ≤ (603072 : Nat); omega, by show _ ≤ (7166058 : Nat); omega⟩ (fun ta4 => ?_)
  clear hg
  refine x_icmp_eq C 2752 dL_law_2400 (by decide) (fun hc5 => ?_) (fun hc5 => ?_)
  · have hf := x_ip hc5 hf
    obtain rfl := Option.some.inj hf
    refine x_widen (k' := k0 + 54) (n' := n0 + 7600) (by omega) (by omega) ?_
    refine x_sub [0, 1, 2, 3, 4, 5] rfl ?_
    exact kk _
  · have hf := x_ine hc5 hf
    cases hf
def f_law_c46 (sc : Nat → Int32) (L : Nat) (i : Int32) (M : xM) : Option xM := if x_in (i + (1 : Int32)) L = true then (f_L_outputAt (sc (i + (1 : Int32)).toNatClampNeg) M).bind fun q2 => if x_in (i + (1 : Int32)) L = true then (f_X7_outputAt (sc (i + (1 : Int32)).toNatClampNeg) q2.2).bind fun q5 => (f_X7_thrown q5.2).bind fun q7 => (if q7 = q2.1 then (if q2.1 = 0 then (if (lg_cmp q5.2.2.2.1 q5.1.toInt64) = 0 then some q5.2 else none) else some q5.2) else none) else none else none
set_option maxHeartbeats 4000000 in
set_option maxRecDepth 100000 in
theorem t_law_c46 {G : xG} {p : Program} {l : Launch} {e : Env} {s : State} {m : MethodId} {args : Array Value} {below : List Frame} {meth : Method} {c : Code} {Q : State → Prop} {b L : Nat} {sc : Nat → Int32} (C : xC G p s m args c cL_law 9 wsL_law RL) (hfl : l.stackTraces = false) (X : xLw G s b L sc) {i : Int32} {M M9 : xM} {ta : Nat × Nat} {k0 n0 : Nat} (hk0 : k0 + 54 ≤ 603072) (hn0 : n0 + 7600 ≤ 7166058) (hf : f_law_c46 sc L i M = some M9) (kk : ∀ ta2, xW G p l e room_1 s m args below meth c 9 Q (k0 + 54) (n0 + 7600) ta2 M9 2752 [(0, .ref b), (1, .ref (xad G 0)), (2, .ref (xad G 9)), (3, .ref (xad G 20)), (4, .ref (xad G 21)), (5, .int i)] []) : xW G p l e room_1 s m args below meth c 9 Q k0 n0 ta M 2405 [(0, .ref b), (1, .ref (xad G 0)), (2, .ref (xad G 9)), (3, .ref (xad G 20)), (4, .ref (xad G 21)), (5, .int i)] [] := by
  unfold f_law_c46 at hf
  refine x_aload_n C 1 dL_law_2405 rfl ?_
  refine x_aload_n C 0 dL_law_2406 rfl ?_
  refine x_iload C 5 dL_law_2407 rfl ?_
  refine x_iconst (v := 1) C dL_law_2409 (by decide) ?_
  refine x_iadd C dL_law_2410 ?_
  obtain ⟨g1, hf⟩ := x_gd hf
  refine x_sald C X g1 dL_law_2411 ?_
  refine x_aload_n C 3 dL_law_2412 rfl ?_
  obtain ⟨q2, hg, hf⟩ := x_bd hf
  refine x_callSWr C (t_L_outputAt hfl hg) (vx_cwSW 3 C.1.2.2.2.2 gL_law_L_outputAt rfl rfl rfl (by decide +kernel) ⟨Nat.le_of_ble_eq_true rfl, Nat.le_of_ble_eq_true rfl⟩) rfl rfl (Nat.le_of_ble_eq_true rfl) dL_law_2413 ⟨by show _ ≤ (603072 : Nat); omega, by show _ ≤ (7166058 : Nat); omega⟩ (fun ta3 => ?_)
  clear hg
  refine x_istore (lv' := [(6, .int q2.1), (0, .ref b), (1, .ref (xad G 0)), (2, .ref (xad G 9)), (3, .ref (xad G 20)), (4, .ref (xad G 21)), (5, .int i)]) C dL_law_2416 (by decide) rfl ?_
  refine x_aload_n C 3 dL_law_2418 rfl ?_
  refine x_aload_n C 1 dL_law_2419 rfl ?_
  refine x_iload C 6 dL_law_2420 rfl ?_
  refine x_iconst (v := 1) C dL_law_2422 (by decide) ?_
  refine x_iadd C dL_law_2423 ?_
  obtain ⟨g4, hf⟩ := x_gd hf
  refine x_sald C X g4 dL_law_2424 ?_
  obtain ⟨q5, hg, hf⟩ := x_bd hf
  refine x_callVr C (by rw [xkd_9]; decide) (by rw [xkd_9]; decide) (xc9 xkd_9) rfl (t_X7_outputAt hg) (cwV 1 C.1.2.2.2.2 gL_law_X7_outputAt rfl rfl rfl (by decide +kernel) ⟨Nat.le_of_ble_eq_true rfl, Nat.le_of_ble_eq_true rfl⟩) rfl rfl (Nat.le_of_ble_eq_true rfl) dL_law_2425 ⟨by show _ ≤ (603072 : Nat); omega, by show _ ≤ (7166058 : Nat); omega⟩ (fun ta6 => ?_)
  clear hg
  refine x_istore (lv' := [(7, .int q5.1), (6, .int q2.1), (0, .ref b), (1, .ref (xad G 0)), (2, .ref (xad G 9)), (3, .ref (xad G 20)), (4, .ref (xad G 21)), (5, .int i)]) C dL_law_2428 (by decide) rfl ?_
  refine x_aload_n C 4 dL_law_2430 rfl ?_
  obtain ⟨q7, hg, hf⟩ := x_bd hf
  refine x_callVr C (by rw [xkd_9]; decide) (by rw [xkd_9]; decide) (xc9 xkd_9) rfl (t_X7_thrown hg) (cwV 0 C.1.2.2.2.2 gL_law_X7_thrown rfl rfl rfl (by decide +kernel) ⟨Nat.le_of_ble_eq_true rfl, Nat.le_of_ble_eq_true rfl⟩) rfl rfl (Nat.le_of_ble_eq_true rfl) dL_law_2431 ⟨by show _ ≤ (603072 : Nat); omega, by show _ ≤ (7166058 : Nat); omega⟩ (fun ta8 => ?_)
  clear hg
  refine x_iload C 1 dL_law_2434 rfl ?_
  refine x_icmp_eq C 2441 dL_law_2436 (by decide) (fun hc9 => ?_) (fun hc9 => ?_)
  · have hf := x_ip hc9 hf
    refine x_iload C 1 dL_law_2441 rfl ?_
    refine x_if_ne C 2458 dL_law_2443 (by decide) (fun hc10 => ?_) (fun hc10 => ?_)
    · have hf := x_ine hc10 hf
      refine x_goto C 2752 dL_law_2458 (by decide) ?_
      obtain rfl := Option.some.inj hf
      refine x_widen (k' := k0 + 54) (n' := n0 + 7600) (by omega) (by omega) ?_
      refine x_sub [2, 3, 4, 5, 6, 7] rfl ?_
      exact kk _
    · have hf := x_ip hc10 hf
      refine x_aload_n C 5 dL_law_2446 rfl ?_
      refine x_iconst (v := 0) C dL_law_2447 (by decide) ?_
      refine x_lald C dL_law_2448 ?_
      refine x_iload C 0 dL_law_2449 rfl ?_
      refine x_i2l (v := q5.1.toInt64) C dL_law_2451 rfl ?_
      refine x_lcmp C dL_law_2452 ?_
      refine x_if_eq C 2458 dL_law_2453 (by decide) (fun hc11 => ?_) (fun hc11 => ?_)
      · have hf := x_ip hc11 hf
        refine x_goto C 2752 dL_law_2458 (by decide) ?_
        obtain rfl := Option.some.inj hf
        refine x_widen (k' := k0 + 54) (n' := n0 + 7600) (by omega) (by omega) ?_
        refine x_sub [2, 3, 4, 5, 6, 7] rfl ?_
        exact kk _
      · have hf := x_ine hc11 hf
        cases hf
  · have hf := x_ine hc9 hf
    cases hf
def f_law_c47 (sc : Nat → Int32) (L : Nat) (i : Int32) (M : xM) : Option xM := if x_in (i + (1 : Int32)) L = true then (f_L_type (((sc (i + (1 : Int32)).toNatClampNeg).toUInt32 % 65536).toInt32) M).bind fun q2 => if x_in (i + (1 : Int32)) L = true then (f_X7_type (((sc (i + (1 : Int32)).toNatClampNeg).toUInt32 % 65536).toInt32) q2.2).bind fun q5 => (f_X7_thrown q5.2).bind fun q7 => (if q7 = q2.1 then (if q2.1 = 0 then (if (lg_cmp q5.2.2.2.1 q5.1.toInt64) = 0 then some q5.2 else none) else some q5.2) else none) else none else none
set_option maxHeartbeats 4000000 in
set_option maxRecDepth 100000 in
theorem t_law_c47 {G : xG} {p : Program} {l : Launch} {e : Env} {s : State} {m : MethodId} {args : Array Value} {below : List Frame} {meth : Method} {c : Code} {Q : State → Prop} {b L : Nat} {sc : Nat → Int32} (C : xC G p s m args c cL_law 9 wsL_law RL) (hfl : l.stackTraces = false) (X : xLw G s b L sc) {i : Int32} {M M9 : xM} {ta : Nat × Nat} {k0 n0 : Nat} (hk0 : k0 + 54 ≤ 603072) (hn0 : n0 + 7600 ≤ 7166058) (hf : f_law_c47 sc L i M = some M9) (kk : ∀ ta2, xW G p l e room_1 s m args below meth c 9 Q (k0 + 54) (n0 + 7600) ta2 M9 2752 [(0, .ref b), (1, .ref (xad G 0)), (2, .ref (xad G 9)), (3, .ref (xad G 20)), (4, .ref (xad G 21)), (5, .int i)] []) : xW G p l e room_1 s m args below meth c 9 Q k0 n0 ta M 2461 [(0, .ref b), (1, .ref (xad G 0)), (2, .ref (xad G 9)), (3, .ref (xad G 20)), (4, .ref (xad G 21)), (5, .int i)] [] := by
  unfold f_law_c47 at hf
  refine x_aload_n C 1 dL_law_2461 rfl ?_
  refine x_aload_n C 0 dL_law_2462 rfl ?_
  refine x_iload C 5 dL_law_2463 rfl ?_
  refine x_iconst (v := 1) C dL_law_2465 (by decide) ?_
  refine x_iadd C dL_law_2466 ?_
  obtain ⟨g1, hf⟩ := x_gd hf
  refine x_sald C X g1 dL_law_2467 ?_
  refine x_i2c (v := ((sc (i + (1 : Int32)).toNatClampNeg).toUInt32 % 65536).toInt32) C dL_law_2468 rfl ?_
  refine x_aload_n C 3 dL_law_2469 rfl ?_
  obtain ⟨q2, hg, hf⟩ := x_bd hf
  refine x_callSWr C (t_L_type hfl hg) (vx_cwSW 3 C.1.2.2.2.2 gL_law_L_type rfl rfl rfl (by decide +kernel) ⟨Nat.le_of_ble_eq_true rfl, Nat.le_of_ble_eq_true rfl⟩) rfl rfl (Nat.le_of_ble_eq_true rfl) dL_law_2470 ⟨by show _ ≤ (603072 : Nat); omega, by show _ ≤ (7166058 : Nat); omega⟩ (fun ta3 => ?_)
  clear hg
  refine x_istore (lv' := [(6, .int q2.1), (0, .ref b), (1, .ref (xad G 0)), (2, .ref (xad G 9)), (3, .ref (xad G 20)), (4, .ref (xad G 21)), (5, .int i)]) C dL_law_2473 (by decide) rfl ?_
  refine x_aload_n C 3 dL_law_2475 rfl ?_
  refine x_aload_n C 1 dL_law_2476 rfl ?_
  refine x_iload C 6 dL_law_2477 rfl ?_
  refine x_iconst (v := 1) C dL_law_2479 (by decide) ?_
  refine x_iadd C dL_law_2480 ?_
  obtain ⟨g4, hf⟩ := x_gd hf
  refine x_sald C X g4 dL_law_2481 ?_
  refine x_i2c (v := ((sc (i + (1 : Int32)).toNatClampNeg).toUInt32 % 65536).toInt32) C dL_law_2482 rfl ?_
  obtain ⟨q5, hg, hf⟩ := x_bd hf
  refine x_callVr C (by rw [xkd_9]; decide) (by rw [xkd_9]; decide) (xc9 xkd_9) rfl (t_X7_type hg) (cwV 1 C.1.2.2.2.2 gL_law_X7_type rfl rfl rfl (by decide +kernel) ⟨Nat.le_of_ble_eq_true rfl, Nat.le_of_ble_eq_true rfl⟩) rfl rfl (Nat.le_of_ble_eq_true rfl) dL_law_2483 ⟨by show _ ≤ (603072 : Nat); omega, by show _ ≤ (7166058 : Nat); omega⟩ (fun ta6 => ?_)
  clear hg
  refine x_istore (lv' := [(7, .int q5.1), (6, .int q2.1), (0, .ref b), (1, .ref (xad G 0)), (2, .ref (xad G 9)), (3, .ref (xad G 20)), (4, .ref (xad G 21)), (5, .int i)]) C dL_law_2486 (by decide) rfl ?_
  refine x_aload_n C 4 dL_law_2488 rfl ?_
  obtain ⟨q7, hg, hf⟩ := x_bd hf
  refine x_callVr C (by rw [xkd_9]; decide) (by rw [xkd_9]; decide) (xc9 xkd_9) rfl (t_X7_thrown hg) (cwV 0 C.1.2.2.2.2 gL_law_X7_thrown rfl rfl rfl (by decide +kernel) ⟨Nat.le_of_ble_eq_true rfl, Nat.le_of_ble_eq_true rfl⟩) rfl rfl (Nat.le_of_ble_eq_true rfl) dL_law_2489 ⟨by show _ ≤ (603072 : Nat); omega, by show _ ≤ (7166058 : Nat); omega⟩ (fun ta8 => ?_)
  clear hg
  refine x_iload C 1 dL_law_2492 rfl ?_
  refine x_icmp_eq C 2499 dL_law_2494 (by decide) (fun hc9 => ?_) (fun hc9 => ?_)
  · have hf := x_ip hc9 hf
    refine x_iload C 1 dL_law_2499 rfl ?_
    refine x_if_ne C 2516 dL_law_2501 (by decide) (fun hc10 => ?_) (fun hc10 => ?_)
    · have hf := x_ine hc10 hf
      refine x_goto C 2752 dL_law_2516 (by decide) ?_
      obtain rfl := Option.some.inj hf
      refine x_widen (k' := k0 + 54) (n' := n0 + 7600) (by omega) (by omega) ?_
      refine x_sub [2, 3, 4, 5, 6, 7] rfl ?_
      exact kk _
    · have hf := x_ip hc10 hf
      refine x_aload_n C 5 dL_law_2504 rfl ?_
      refine x_iconst (v := 0) C dL_law_2505 (by decide) ?_
      refine x_lald C dL_law_2506 ?_
      refine x_iload C 0 dL_law_2507 rfl ?_
      refine x_i2l (v := q5.1.toInt64) C dL_law_2509 rfl ?_
      refine x_lcmp C dL_law_2510 ?_
      refine x_if_eq C 2516 dL_law_2511 (by decide) (fun hc11 => ?_) (fun hc11 => ?_)
      · have hf := x_ip hc11 hf
        refine x_goto C 2752 dL_law_2516 (by decide) ?_
        obtain rfl := Option.some.inj hf
        refine x_widen (k' := k0 + 54) (n' := n0 + 7600) (by omega) (by omega) ?_
        refine x_sub [2, 3, 4, 5, 6, 7] rfl ?_
        exact kk _
      · have hf := x_ine hc11 hf
        cases hf
  · have hf := x_ine hc9 hf
    cases hf
def f_law_c48 (sc : Nat → Int32) (L : Nat) (i : Int32) (M : xM) : Option xM := (f_L_runScript M).bind fun q1 => (f_X7_runScript q1.2).bind fun q3 => (f_X7_thrown q3.2).bind fun q5 => (if q5 = q1.1 then (if q1.1 = 0 then (if (lg_cmp q3.2.2.2.1 q3.1.toInt64) = 0 then some q3.2 else none) else some q3.2) else none)
set_option maxHeartbeats 4000000 in
set_option maxRecDepth 100000 in
theorem t_law_c48 {G : xG} {p : Program} {l : Launch} {e : Env} {s : State} {m : MethodId} {args : Array Value} {below : List Frame} {meth : Method} {c : Code} {Q : State → Prop} {b L : Nat} {sc : Nat → Int32} (C : xC G p s m args c cL_law 9 wsL_law RL) (hfl : l.stackTraces = false) (X : xLw G s b L sc) {i : Int32} {M M9 : xM} {ta : Nat × Nat} {k0 n0 : Nat} (hk0 : k0 + 54 ≤ 603072) (hn0 : n0 + 7600 ≤ 7166058) (hf : f_law_c48 sc L i M = some M9) (kk : ∀ ta2, xW G p l e room_1 s m args below meth c 9 Q (k0 + 54) (n0 + 7600) ta2 M9 2752 [(0, .ref b), (1, .ref (xad G 0)), (2, .ref (xad G 9)), (3, .ref (xad G 20)), (4, .ref (xad G 21)), (5, .int i)] []) : xW G p l e room_1 s m args below meth c 9 Q k0 n0 ta M 2519 [(0, .ref b), (1, .ref (xad G 0)), (2, .ref (xad G 9)), (3, .ref (xad G 20)), (4, .ref (xad G 21)), (5, .int i)] [] := by
  unfold f_law_c48 at hf
  refine x_aload_n C 1 dL_law_2519 rfl ?_
  refine x_aload_n C 3 dL_law_2520 rfl ?_
  obtain ⟨q1, hg, hf⟩ := x_bd hf
  refine x_callSWr C (t_L_runScript hfl hg) (vx_cwSW 2 C.1.2.2.2.2 gL_law_L_runScript rfl rfl rfl (by decide +kernel) ⟨Nat.le_of_ble_eq_true rfl, Nat.le_of_ble_eq_true rfl⟩) rfl rfl (Nat.le_of_ble_eq_true rfl) dL_law_2521 ⟨by show _ ≤ (603072 : Nat); omega, by show _ ≤ (7166058 : Nat); omega⟩ (fun ta2 => ?_)
  clear hg
  refine x_istore (lv' := [(6, .int q1.1), (0, .ref b), (1, .ref (xad G 0)), (2, .ref (xad G 9)), (3, .ref (xad G 20)), (4, .ref (xad G 21)), (5, .int i)]) C dL_law_2524 (by decide) rfl ?_
  refine x_aload_n C 3 dL_law_2526 rfl ?_
  obtain ⟨q3, hg, hf⟩ := x_bd hf
  refine x_callVr C (by rw [xkd_9]; decide) (by rw [xkd_9]; decide) (xc9 xkd_9) rfl (t_X7_runScript hg) (cwV 0 C.1.2.2.2.2 gL_law_X7_runScript rfl rfl rfl (by decide +kernel) ⟨Nat.le_of_ble_eq_true rfl, Nat.le_of_ble_eq_true rfl⟩) rfl rfl (Nat.le_of_ble_eq_true rfl) dL_law_2527 ⟨by show _ ≤ (603072 : Nat); omega, by show _ ≤ (7166058 : Nat); omega⟩ (fun ta4 => ?_)
  clear hg
  refine x_istore (lv' := [(7, .int q3.1), (6, .int q1.1), (0, .ref b), (1, .ref (xad G 0)), (2, .ref (xad G 9)), (3, .ref (xad G 20)), (4, .ref (xad G 21)), (5, .int i)]) C dL_law_2530 (by decide) rfl ?_
  refine x_aload_n C 4 dL_law_2532 rfl ?_
  obtain ⟨q5, hg, hf⟩ := x_bd hf
  refine x_callVr C (by rw [xkd_9]; decide) (by rw [xkd_9]; decide) (xc9 xkd_9) rfl (t_X7_thrown hg) (cwV 0 C.1.2.2.2.2 gL_law_X7_thrown rfl rfl rfl (by decide +kernel) ⟨Nat.le_of_ble_eq_true rfl, Nat.le_of_ble_eq_true rfl⟩) rfl rfl (Nat.le_of_ble_eq_true rfl) dL_law_2533 ⟨by show _ ≤ (603072 : Nat); omega, by show _ ≤ (7166058 : Nat); omega⟩ (fun ta6 => ?_)
  clear hg
  refine x_iload C 1 dL_law_2536 rfl ?_
  refine x_icmp_eq C 2543 dL_law_2538 (by decide) (fun hc7 => ?_) (fun hc7 => ?_)
  · have hf := x_ip hc7 hf
    refine x_iload C 1 dL_law_2543 rfl ?_
    refine x_if_ne C 2560 dL_law_2545 (by decide) (fun hc8 => ?_) (fun hc8 => ?_)
    · have hf := x_ine hc8 hf
      refine x_goto C 2752 dL_law_2560 (by decide) ?_
      obtain rfl := Option.some.inj hf
      refine x_widen (k' := k0 + 54) (n' := n0 + 7600) (by omega) (by omega) ?_
      refine x_sub [2, 3, 4, 5, 6, 7] rfl ?_
      exact kk _
    · have hf := x_ip hc8 hf
      refine x_aload_n C 5 dL_law_2548 rfl ?_
      refine x_iconst (v := 0) C dL_law_2549 (by decide) ?_
      refine x_lald C dL_law_2550 ?_
      refine x_iload C 0 dL_law_2551 rfl ?_
      refine x_i2l (v := q3.1.toInt64) C dL_law_2553 rfl ?_
      refine x_lcmp C dL_law_2554 ?_
      refine x_if_eq C 2560 dL_law_2555 (by decide) (fun hc9 => ?_) (fun hc9 => ?_)
      · have hf := x_ip hc9 hf
        refine x_goto C 2752 dL_law_2560 (by decide) ?_
        obtain rfl := Option.some.inj hf
        refine x_widen (k' := k0 + 54) (n' := n0 + 7600) (by omega) (by omega) ?_
        refine x_sub [2, 3, 4, 5, 6, 7] rfl ?_
        exact kk _
      · have hf := x_ine hc9 hf
        cases hf
  · have hf := x_ine hc7 hf
    cases hf
def f_law_c49 (sc : Nat → Int32) (L : Nat) (i : Int32) (M : xM) : Option xM := (f_L_errorPosition M).bind fun q1 => (f_X7_errorPosition q1.2).bind fun q3 => (f_X7_thrown q3.2).bind fun q5 => (if q5 = q1.1 then (if q1.1 = 0 then (if (lg_cmp q3.2.2.2.1 q3.1.toInt64) = 0 then some q3.2 else none) else some q3.2) else none)
set_option maxHeartbeats 4000000 in
set_option maxRecDepth 100000 in
theorem t_law_c49 {G : xG} {p : Program} {l : Launch} {e : Env} {s : State} {m : MethodId} {args : Array Value} {below : List Frame} {meth : Method} {c : Code} {Q : State → Prop} {b L : Nat} {sc : Nat → Int32} (C : xC G p s m args c cL_law 9 wsL_law RL) (hfl : l.stackTraces = false) (X : xLw G s b L sc) {i : Int32} {M M9 : xM} {ta : Nat × Nat} {k0 n0 : Nat} (hk0 : k0 + 54 ≤ 603072) (hn0 : n0 + 7600 ≤ 7166058) (hf : f_law_c49 sc L i M = some M9) (kk : ∀ ta2, xW G p l e room_1 s m args below meth c 9 Q (k0 + 54) (n0 + 7600) ta2 M9 2752 [(0, .ref b), (1, .ref (xad G 0)), (2, .ref (xad G 9)), (3, .ref (xad G 20)), (4, .ref (xad G 21)), (5, .int i)] []) : xW G p l e room_1 s m args below meth c 9 Q k0 n0 ta M 2563 [(0, .ref b), (1, .ref (xad G 0)), (2, .ref (xad G 9)), (3, .ref (xad G 20)), (4, .ref (xad G 21)), (5, .int i)] [] := by
  unfold f_law_c49 at hf
  refine x_aload_n C 1 dL_law_2563 rfl ?_
  refine x_aload_n C 3 dL_law_2564 rfl ?_
  obtain ⟨q1, hg, hf⟩ := x_bd hf
  refine x_callSWr C (t_L_errorPosition hfl hg) (vx_cwSW 2 C.1.2.2.2.2 gL_law_L_errorPosition rfl rfl rfl (by decide +kernel) ⟨Nat.le_of_ble_eq_true rfl, Nat.le_of_ble_eq_true rfl⟩) rfl rfl (Nat.le_of_ble_eq_true rfl) dL_law_2565 ⟨by show _ ≤ (603072 : Nat); omega, by show _ ≤ (7166058 : Nat); omega⟩ (fun ta2 => ?_)
  clear hg
  refine x_istore (lv' := [(6, .int q1.1), (0, .ref b), (1, .ref (xad G 0)), (2, .ref (xad G 9)), (3, .ref (xad G 20)), (4, .ref (xad G 21)), (5, .int i)]) C dL_law_2568 (by decide) rfl ?_
  refine x_aload_n C 3 dL_law_2570 rfl ?_
  obtain ⟨q3, hg, hf⟩ := x_bd hf
  refine x_callVr C (by rw [xkd_9]; decide) (by rw [xkd_9]; decide) (xc9 xkd_9) rfl (t_X7_errorPosition hg) (cwV 0 C.1.2.2.2.2 gL_law_X7_errorPosition rfl rfl rfl (by decide +kernel) ⟨Nat.le_of_ble_eq_true rfl, Nat.le_of_ble_eq_true rfl⟩) rfl rfl (Nat.le_of_ble_eq_true rfl) dL_law_2571 ⟨by show _ ≤ (603072 : Nat); omega, by show _ ≤ (7166058 : Nat); omega⟩ (fun ta4 => ?_)
  clear hg
  refine x_istore (lv' := [(7, .int q3.1), (6, .int q1.1), (0, .ref b), (1, .ref (xad G 0)), (2, .ref (xad G 9)), (3, .ref (xad G 20)), (4, .ref (xad G 21)), (5, .int i)]) C dL_law_2574 (by decide) rfl ?_
  refine x_aload_n C 4 dL_law_2576 rfl ?_
  obtain ⟨q5, hg, hf⟩ := x_bd hf
  refine x_callVr C (by rw [xkd_9]; decide) (by rw [xkd_9]; decide) (xc9 xkd_9) rfl (t_X7_thrown hg) (cwV 0 C.1.2.2.2.2 gL_law_X7_thrown rfl rfl rfl (by decide +kernel) ⟨Nat.le_of_ble_eq_true rfl, Nat.le_of_ble_eq_true rfl⟩) rfl rfl (Nat.le_of_ble_eq_true rfl) dL_law_2577 ⟨by show _ ≤ (603072 : Nat); omega, by show _ ≤ (7166058 : Nat); omega⟩ (fun ta6 => ?_)
  clear hg
  refine x_iload C 1 dL_law_2580 rfl ?_
  refine x_icmp_eq C 2587 dL_law_2582 (by decide) (fun hc7 => ?_) (fun hc7 => ?_)
  · have hf := x_ip hc7 hf
    refine x_iload C 1 dL_law_2587 rfl ?_
    refine x_if_ne C 2604 dL_law_2589 (by decide) (fun hc8 => ?_) (fun hc8 => ?_)
    · have hf := x_ine hc8 hf
      refine x_goto C 2752 dL_law_2604 (by decide) ?_
      obtain rfl := Option.some.inj hf
      refine x_widen (k' := k0 + 54) (n' := n0 + 7600) (by omega) (by omega) ?_
      refine x_sub [2, 3, 4, 5, 6, 7] rfl ?_
      exact kk _
    · have hf := x_ip hc8 hf
      refine x_aload_n C 5 dL_law_2592 rfl ?_
      refine x_iconst (v := 0) C dL_law_2593 (by decide) ?_
      refine x_lald C dL_law_2594 ?_
      refine x_iload C 0 dL_law_2595 rfl ?_
      refine x_i2l (v := q3.1.toInt64) C dL_law_2597 rfl ?_
      refine x_lcmp C dL_law_2598 ?_
      refine x_if_eq C 2604 dL_law_2599 (by decide) (fun hc9 => ?_) (fun hc9 => ?_)
      · have hf := x_ip hc9 hf
        refine x_goto C 2752 dL_law_2604 (by decide) ?_
        obtain rfl := Option.some.inj hf
        refine x_widen (k' := k0 + 54) (n' := n0 + 7600) (by omega) (by omega) ?_
        refine x_sub [2, 3, 4, 5, 6, 7] rfl ?_
        exact kk _
      · have hf := x_ine hc9 hf
        cases hf
  · have hf := x_ine hc7 hf
    cases hf
def f_law_c50 (sc : Nat → Int32) (L : Nat) (i : Int32) (M : xM) : Option xM := (f_L_failedCommand M).bind fun q1 => (f_X7_failedCommand q1.2).bind fun q3 => (f_X7_thrown q3.2).bind fun q5 => (if q5 = q1.1 then (if q1.1 = 0 then (if (lg_cmp q3.2.2.2.1 q3.1.toInt64) = 0 then some q3.2 else none) else some q3.2) else none)
set_option maxHeartbeats 4000000 in
set_option maxRecDepth 100000 in
theorem t_law_c50 {G : xG} {p : Program} {l : Launch} {e : Env} {s : State} {m : MethodId} {args : Array Value} {below : List Frame} {meth : Method} {c : Code} {Q : State → Prop} {b L : Nat} {sc : Nat → Int32} (C : xC G p s m args c cL_law 9 wsL_law RL) (hfl : l.stackTraces = false) (X : xLw G s b L sc) {i : Int32} {M M9 : xM} {ta : Nat × Nat} {k0 n0 : Nat} (hk0 : k0 + 54 ≤ 603072) (hn0 : n0 + 7600 ≤ 7166058) (hf : f_law_c50 sc L i M = some M9) (kk : ∀ ta2, xW G p l e room_1 s m args below meth c 9 Q (k0 + 54) (n0 + 7600) ta2 M9 2752 [(0, .ref b), (1, .ref (xad G 0)), (2, .ref (xad G 9)), (3, .ref (xad G 20)), (4, .ref (xad G 21)), (5, .int i)] []) : xW G p l e room_1 s m args below meth c 9 Q k0 n0 ta M 2607 [(0, .ref b), (1, .ref (xad G 0)), (2, .ref (xad G 9)), (3, .ref (xad G 20)), (4, .ref (xad G 21)), (5, .int i)] [] := by
  unfold f_law_c50 at hf
  refine x_aload_n C 1 dL_law_2607 rfl ?_
  refine x_aload_n C 3 dL_law_2608 rfl ?_
  obtain ⟨q1, hg, hf⟩ := x_bd hf
  refine x_callSWr C (t_L_failedCommand hfl hg) (vx_cwSW 2 C.1.2.2.2.2 gL_law_L_failedCommand rfl rfl rfl (by decide +kernel) ⟨Nat.le_of_ble_eq_true rfl, Nat.le_of_ble_eq_true rfl⟩) rfl rfl (Nat.le_of_ble_eq_true rfl) dL_law_2609 ⟨by show _ ≤ (603072 : Nat); omega, by show _ ≤ (7166058 : Nat); omega⟩ (fun ta2 => ?_)
  clear hg
  refine x_istore (lv' := [(6, .int q1.1), (0, .ref b), (1, .ref (xad G 0)), (2, .ref (xad G 9)), (3, .ref (xad G 20)), (4, .ref (xad G 21)), (5, .int i)]) C dL_law_2612 (by decide) rfl ?_
  refine x_aload_n C 3 dL_law_2614 rfl ?_
  obtain ⟨q3, hg, hf⟩ := x_bd hf
  refine x_callVr C (by rw [xkd_9]; decide) (by rw [xkd_9]; decide) (xc9 xkd_9) rfl (t_X7_failedCommand hg) (cwV 0 C.1.2.2.2.2 gL_law_X7_failedCommand rfl rfl rfl (by decide +kernel) ⟨Nat.le_of_ble_eq_true rfl, Nat.le_of_ble_eq_true rfl⟩) rfl rfl (Nat.le_of_ble_eq_true rfl) dL_law_2615 ⟨by show _ ≤ (603072 : Nat); omega, by show _ ≤ (7166058 : Nat); omega⟩ (fun ta4 => ?_)
  clear hg
  refine x_istore (lv' := [(7, .int q3.1), (6, .int q1.1), (0, .ref b), (1, .ref (xad G 0)), (2, .ref (xad G 9)), (3, .ref (xad G 20)), (4, .ref (xad G 21)), (5, .int i)]) C dL_law_2618 (by decide) rfl ?_
  refine x_aload_n C 4 dL_law_2620 rfl ?_
  obtain ⟨q5, hg, hf⟩ := x_bd hf
  refine x_callVr C (by rw [xkd_9]; decide) (by rw [xkd_9]; decide) (xc9 xkd_9) rfl (t_X7_thrown hg) (cwV 0 C.1.2.2.2.2 gL_law_X7_thrown rfl rfl rfl (by decide +kernel) ⟨Nat.le_of_ble_eq_true rfl, Nat.le_of_ble_eq_true rfl⟩) rfl rfl (Nat.le_of_ble_eq_true rfl) dL_law_2621 ⟨by show _ ≤ (603072 : Nat); omega, by show _ ≤ (7166058 : Nat); omega⟩ (fun ta6 => ?_)
  clear hg
  refine x_iload C 1 dL_law_2624 rfl ?_
  refine x_icmp_eq C 2631 dL_law_2626 (by decide) (fun hc7 => ?_) (fun hc7 => ?_)
  · have hf := x_ip hc7 hf
    refine x_iload C 1 dL_law_2631 rfl ?_
    refine x_if_ne C 2648 dL_law_2633 (by decide) (fun hc8 => ?_) (fun hc8 => ?_)
    · have hf := x_ine hc8 hf
      refine x_goto C 2752 dL_law_2648 (by decide) ?_
      obtain rfl := Option.some.inj hf
      refine x_widen (k' := k0 + 54) (n' := n0 + 7600) (by omega) (by omega) ?_
      refine x_sub [2, 3, 4, 5, 6, 7] rfl ?_
      exact kk _
    · have hf := x_ip hc8 hf
      refine x_aload_n C 5 dL_law_2636 rfl ?_
      refine x_iconst (v := 0) C dL_law_2637 (by decide) ?_
      refine x_lald C dL_law_2638 ?_
      refine x_iload C 0 dL_law_2639 rfl ?_
      refine x_i2l (v := q3.1.toInt64) C dL_law_2641 rfl ?_
      refine x_lcmp C dL_law_2642 ?_
      refine x_if_eq C 2648 dL_law_2643 (by decide) (fun hc9 => ?_) (fun hc9 => ?_)
      · have hf := x_ip hc9 hf
        refine x_goto C 2752 dL_law_2648 (by decide) ?_
        obtain rfl := Option.some.inj hf
        refine x_widen (k' := k0 + 54) (n' := n0 + 7600) (by omega) (by omega) ?_
        refine x_sub [2, 3, 4, 5, 6, 7] rfl ?_
        exact kk _
      · have hf := x_ine hc9 hf
        cases hf
  · have hf := x_ine hc7 hf
    cases hf
def f_law_c51 (sc : Nat → Int32) (L : Nat) (i : Int32) (M : xM) : Option xM := (f_L_undo M).bind fun q1 => (f_X7_undo q1.2).bind fun q3 => (f_X7_thrown q3.2).bind fun q5 => (if q5 = q1.1 then (if q1.1 = 0 then (if (lg_cmp q3.2.2.2.1 q3.1.toInt64) = 0 then some q3.2 else none) else some q3.2) else none)
set_option maxHeartbeats 4000000 in
set_option maxRecDepth 100000 in
theorem t_law_c51 {G : xG} {p : Program} {l : Launch} {e : Env} {s : State} {m : MethodId} {args : Array Value} {below : List Frame} {meth : Method} {c : Code} {Q : State → Prop} {b L : Nat} {sc : Nat → Int32} (C : xC G p s m args c cL_law 9 wsL_law RL) (hfl : l.stackTraces = false) (X : xLw G s b L sc) {i : Int32} {M M9 : xM} {ta : Nat × Nat} {k0 n0 : Nat} (hk0 : k0 + 54 ≤ 603072) (hn0 : n0 + 7600 ≤ 7166058) (hf : f_law_c51 sc L i M = some M9) (kk : ∀ ta2, xW G p l e room_1 s m args below meth c 9 Q (k0 + 54) (n0 + 7600) ta2 M9 2752 [(0, .ref b), (1, .ref (xad G 0)), (2, .ref (xad G 9)), (3, .ref (xad G 20)), (4, .ref (xad G 21)), (5, .int i)] []) : xW G p l e room_1 s m args below meth c 9 Q k0 n0 ta M 2651 [(0, .ref b), (1, .ref (xad G 0)), (2, .ref (xad G 9)), (3, .ref (xad G 20)), (4, .ref (xad G 21)), (5, .int i)] [] := by
  unfold f_law_c51 at hf
  refine x_aload_n C 1 dL_law_2651 rfl ?_
  refine x_aload_n C 3 dL_law_2652 rfl ?_
  obtain ⟨q1, hg, hf⟩ := x_bd hf
  refine x_callSWr C (t_L_undo hfl hg) (vx_cwSW 2 C.1.2.2.2.2 gL_law_L_undo rfl rfl rfl (by decide +kernel) ⟨Nat.le_of_ble_eq_true rfl, Nat.le_of_ble_eq_true rfl⟩) rfl rfl (Nat.le_of_ble_eq_true rfl) dL_law_2653 ⟨by show _ ≤ (603072 : Nat); omega, by show _ ≤ (7166058 : Nat); omega⟩ (fun ta2 => ?_)
  clear hg
  refine x_istore (lv' := [(6, .int q1.1), (0, .ref b), (1, .ref (xad G 0)), (2, .ref (xad G 9)), (3, .ref (xad G 20)), (4, .ref (xad G 21)), (5, .int i)]) C dL_law_2656 (by decide) rfl ?_
  refine x_aload_n C 3 dL_law_2658 rfl ?_
  obtain ⟨q3, hg, hf⟩ := x_bd hf
  refine x_callVr C (by rw [xkd_9]; decide) (by rw [xkd_9]; decide) (xc9 xkd_9) rfl (t_X7_undo hg) (cwV 0 C.1.2.2.2.2 gL_law_X7_undo rfl rfl rfl (by decide +kernel) ⟨Nat.le_of_ble_eq_true rfl, Nat.le_of_ble_eq_true rfl⟩) rfl rfl (Nat.le_of_ble_eq_true rfl) dL_law_2659 ⟨by show _ ≤ (603072 : Nat); omega, by show _ ≤ (7166058 : Nat); omega⟩ (fun ta4 => ?_)
  clear hg
  refine x_istore (lv' := [(7, .int q3.1), (6, .int q1.1), (0, .ref b), (1, .ref (xad G 0)), (2, .ref (xad G 9)), (3, .ref (xad G 20)), (4, .ref (xad G 21)), (5, .int i)]) C dL_law_2662 (by decide) rfl ?_
  refine x_aload_n C 4 dL_law_2664 rfl ?_
  obtain ⟨q5, hg, hf⟩ := x_bd hf
  refine x_callVr C (by rw [xkd_9]; decide) (by rw [xkd_9]; decide) (xc9 xkd_9) rfl (t_X7_thrown hg) (cwV 0 C.1.2.2.2.2 gL_law_X7_thrown rfl rfl rfl (by decide +kernel) ⟨Nat.le_of_ble_eq_true rfl, Nat.le_of_ble_eq_true rfl⟩) rfl rfl (Nat.le_of_ble_eq_true rfl) dL_law_2665 ⟨by show _ ≤ (603072 : Nat); omega, by show _ ≤ (7166058 : Nat); omega⟩ (fun ta6 => ?_)
  clear hg
  refine x_iload C 1 dL_law_2668 rfl ?_
  refine x_icmp_eq C 2675 dL_law_2670 (by decide) (fun hc7 => ?_) (fun hc7 => ?_)
  · have hf := x_ip hc7 hf
    refine x_iload C 1 dL_law_2675 rfl ?_
    refine x_if_ne C 2692 dL_law_2677 (by decide) (fun hc8 => ?_) (fun hc8 => ?_)
    · have hf := x_ine hc8 hf
      refine x_goto C 2752 dL_law_2692 (by decide) ?_
      obtain rfl := Option.some.inj hf
      refine x_widen (k' := k0 + 54) (n' := n0 + 7600) (by omega) (by omega) ?_
      refine x_sub [2, 3, 4, 5, 6, 7] rfl ?_
      exact kk _
    · have hf := x_ip hc8 hf
      refine x_aload_n C 5 dL_law_2680 rfl ?_
      refine x_iconst (v := 0) C dL_law_2681 (by decide) ?_
      refine x_lald C dL_law_2682 ?_
      refine x_iload C 0 dL_law_2683 rfl ?_
      refine x_i2l (v := q3.1.toInt64) C dL_law_2685 rfl ?_
      refine x_lcmp C dL_law_2686 ?_
      refine x_if_eq C 2692 dL_law_2687 (by decide) (fun hc9 => ?_) (fun hc9 => ?_)
      · have hf := x_ip hc9 hf
        refine x_goto C 2752 dL_law_2692 (by decide) ?_
        obtain rfl := Option.some.inj hf
        refine x_widen (k' := k0 + 54) (n' := n0 + 7600) (by omega) (by omega) ?_
        refine x_sub [2, 3, 4, 5, 6, 7] rfl ?_
        exact kk _
      · have hf := x_ine hc9 hf
        cases hf
  · have hf := x_ine hc7 hf
    cases hf
def f_law_c52 (sc : Nat → Int32) (L : Nat) (i : Int32) (M : xM) : Option xM := (f_X6_save M).bind fun q1 => (f_X7_save q1.2).bind fun q3 => (if q1.1 = q3.1 then some q3.2 else none)
set_option maxHeartbeats 4000000 in
set_option maxRecDepth 100000 in
theorem t_law_c52 {G : xG} {p : Program} {l : Launch} {e : Env} {s : State} {m : MethodId} {args : Array Value} {below : List Frame} {meth : Method} {c : Code} {Q : State → Prop} {b L : Nat} {sc : Nat → Int32} (C : xC G p s m args c cL_law 9 wsL_law RL) (hfl : l.stackTraces = false) (X : xLw G s b L sc) {i : Int32} {M M9 : xM} {ta : Nat × Nat} {k0 n0 : Nat} (hk0 : k0 + 54 ≤ 603072) (hn0 : n0 + 7600 ≤ 7166058) (hf : f_law_c52 sc L i M = some M9) (kk : ∀ ta2, xW G p l e room_1 s m args below meth c 9 Q (k0 + 54) (n0 + 7600) ta2 M9 2752 [(0, .ref b), (1, .ref (xad G 0)), (2, .ref (xad G 9)), (3, .ref (xad G 20)), (4, .ref (xad G 21)), (5, .int i)] []) : xW G p l e room_1 s m args below meth c 9 Q k0 n0 ta M 2695 [(0, .ref b), (1, .ref (xad G 0)), (2, .ref (xad G 9)), (3, .ref (xad G 20)), (4, .ref (xad G 21)), (5, .int i)] [] := by
  unfold f_law_c52 at hf
  refine x_aload_n C 1 dL_law_2695 rfl ?_
  obtain ⟨q1, hg, hf⟩ := x_bd hf
  refine x_callVr C (by rw [xkd_0]; decide) (by rw [xkd_0]; decide) (xc8 xkd_0) rfl (t_X6_save hg) (cwV 0 C.1.2.2.2.2 gL_law_X6_save rfl rfl rfl (by decide +kernel) ⟨Nat.le_of_ble_eq_true rfl, Nat.le_of_ble_eq_true rfl⟩) rfl rfl (Nat.le_of_ble_eq_true rfl) dL_law_2696 ⟨by show _ ≤ (603072 : Nat); omega, by show _ ≤ (7166058 : Nat); omega⟩ (fun ta2 => ?_)
  clear hg
  refine x_aload_n C 2 dL_law_2699 rfl ?_
  obtain ⟨q3, hg, hf⟩ := x_bd hf
  refine x_callVr C (by rw [xkd_9]; decide) (by rw [xkd_9]; decide) (xc9 xkd_9) rfl (t_X7_save hg) (cwV 0 C.1.2.2.2.2 gL_law_X7_save rfl rfl rfl (by decide +kernel) ⟨Nat.le_of_ble_eq_true rfl, Nat.le_of_ble_eq_true rfl⟩) rfl rfl (Nat.le_of_ble_eq_true rfl) dL_law_2700 ⟨by show _ ≤ (603072 : Nat); omega, by show _ ≤ (7166058 : Nat); omega⟩ (fun ta4 => ?_)
  clear hg
  refine x_icmp_eq C 2752 dL_law_2703 (by decide) (fun hc5 => ?_) (fun hc5 => ?_)
  · have hf := x_ip hc5 hf
    obtain rfl := Option.some.inj hf
    refine x_widen (k' := k0 + 54) (n' := n0 + 7600) (by omega) (by omega) ?_
    refine x_sub [0, 1, 2, 3, 4, 5] rfl ?_
    exact kk _
  · have hf := x_ine hc5 hf
    cases hf
def f_law_c53 (sc : Nat → Int32) (L : Nat) (i : Int32) (M : xM) : Option xM := (f_L_restore M).bind fun q1 => (f_X7_restore q1.2).bind fun q3 => (f_X7_thrown q3.2).bind fun q5 => (if q5 = q1.1 then (if q1.1 = 0 then (if (lg_cmp q3.2.2.2.1 q3.1.toInt64) = 0 then some q3.2 else none) else some q3.2) else none)
set_option maxHeartbeats 4000000 in
set_option maxRecDepth 100000 in
theorem t_law_c53 {G : xG} {p : Program} {l : Launch} {e : Env} {s : State} {m : MethodId} {args : Array Value} {below : List Frame} {meth : Method} {c : Code} {Q : State → Prop} {b L : Nat} {sc : Nat → Int32} (C : xC G p s m args c cL_law 9 wsL_law RL) (hfl : l.stackTraces = false) (X : xLw G s b L sc) {i : Int32} {M M9 : xM} {ta : Nat × Nat} {k0 n0 : Nat} (hk0 : k0 + 54 ≤ 603072) (hn0 : n0 + 7600 ≤ 7166058) (hf : f_law_c53 sc L i M = some M9) (kk : ∀ ta2, xW G p l e room_1 s m args below meth c 9 Q (k0 + 54) (n0 + 7600) ta2 M9 2752 [(0, .ref b), (1, .ref (xad G 0)), (2, .ref (xad G 9)), (3, .ref (xad G 20)), (4, .ref (xad G 21)), (5, .int i)] []) : xW G p l e room_1 s m args below meth c 9 Q k0 n0 ta M 2708 [(0, .ref b), (1, .ref (xad G 0)), (2, .ref (xad G 9)), (3, .ref (xad G 20)), (4, .ref (xad G 21)), (5, .int i)] [] := by
  unfold f_law_c53 at hf
  refine x_aload_n C 1 dL_law_2708 rfl ?_
  refine x_aload_n C 3 dL_law_2709 rfl ?_
  obtain ⟨q1, hg, hf⟩ := x_bd hf
  refine x_callSWr C (t_L_restore hfl hg) (vx_cwSW 2 C.1.2.2.2.2 gL_law_L_restore rfl rfl rfl (by decide +kernel) ⟨Nat.le_of_ble_eq_true rfl, Nat.le_of_ble_eq_true rfl⟩) rfl rfl (Nat.le_of_ble_eq_true rfl) dL_law_2710 ⟨by show _ ≤ (603072 : Nat); omega, by show _ ≤ (7166058 : Nat); omega⟩ (fun ta2 => ?_)
  clear hg
  refine x_istore (lv' := [(6, .int q1.1), (0, .ref b), (1, .ref (xad G 0)), (2, .ref (xad G 9)), (3, .ref (xad G 20)), (4, .ref (xad G 21)), (5, .int i)]) C dL_law_2713 (by decide) rfl ?_
  refine x_aload_n C 3 dL_law_2715 rfl ?_
  obtain ⟨q3, hg, hf⟩ := x_bd hf
  refine x_callVr C (by rw [xkd_9]; decide) (by rw [xkd_9]; decide) (xc9 xkd_9) rfl (t_X7_restore hg) (cwV 0 C.1.2.2.2.2 gL_law_X7_restore rfl rfl rfl (by decide +kernel) ⟨Nat.le_of_ble_eq_true rfl, Nat.le_of_ble_eq_true rfl⟩) rfl rfl (Nat.le_of_ble_eq_true rfl) dL_law_2716 ⟨by show _ ≤ (603072 : Nat); omega, by show _ ≤ (7166058 : Nat); omega⟩ (fun ta4 => ?_)
  clear hg
  refine x_istore (lv' := [(7, .int q3.1), (6, .int q1.1), (0, .ref b), (1, .ref (xad G 0)), (2, .ref (xad G 9)), (3, .ref (xad G 20)), (4, .ref (xad G 21)), (5, .int i)]) C dL_law_2719 (by decide) rfl ?_
  refine x_aload_n C 4 dL_law_2721 rfl ?_
  obtain ⟨q5, hg, hf⟩ := x_bd hf
  refine x_callVr C (by rw [xkd_9]; decide) (by rw [xkd_9]; decide) (xc9 xkd_9) rfl (t_X7_thrown hg) (cwV 0 C.1.2.2.2.2 gL_law_X7_thrown rfl rfl rfl (by decide +kernel) ⟨Nat.le_of_ble_eq_true rfl, Nat.le_of_ble_eq_true rfl⟩) rfl rfl (Nat.le_of_ble_eq_true rfl) dL_law_2722 ⟨by show _ ≤ (603072 : Nat); omega, by show _ ≤ (7166058 : Nat); omega⟩ (fun ta6 => ?_)
  clear hg
  refine x_iload C 1 dL_law_2725 rfl ?_
  refine x_icmp_eq C 2732 dL_law_2727 (by decide) (fun hc7 => ?_) (fun hc7 => ?_)
  · have hf := x_ip hc7 hf
    refine x_iload C 1 dL_law_2732 rfl ?_
    refine x_if_ne C 2749 dL_law_2734 (by decide) (fun hc8 => ?_) (fun hc8 => ?_)
    · have hf := x_ine hc8 hf
      refine x_goto C 2752 dL_law_2749 (by decide) ?_
      obtain rfl := Option.some.inj hf
      refine x_widen (k' := k0 + 54) (n' := n0 + 7600) (by omega) (by omega) ?_
      refine x_sub [2, 3, 4, 5, 6, 7] rfl ?_
      exact kk _
    · have hf := x_ip hc8 hf
      refine x_aload_n C 5 dL_law_2737 rfl ?_
      refine x_iconst (v := 0) C dL_law_2738 (by decide) ?_
      refine x_lald C dL_law_2739 ?_
      refine x_iload C 0 dL_law_2740 rfl ?_
      refine x_i2l (v := q3.1.toInt64) C dL_law_2742 rfl ?_
      refine x_lcmp C dL_law_2743 ?_
      refine x_if_eq C 2749 dL_law_2744 (by decide) (fun hc9 => ?_) (fun hc9 => ?_)
      · have hf := x_ip hc9 hf
        refine x_goto C 2752 dL_law_2749 (by decide) ?_
        obtain rfl := Option.some.inj hf
        refine x_widen (k' := k0 + 54) (n' := n0 + 7600) (by omega) (by omega) ?_
        refine x_sub [2, 3, 4, 5, 6, 7] rfl ?_
        exact kk _
      · have hf := x_ine hc9 hf
        cases hf
  · have hf := x_ine hc7 hf
    cases hf
