/-! the calls of the law's loop: all but step and whole -/
set_option maxHeartbeats 1000000 in
set_option maxRecDepth 100000 in
theorem kc_1 {p : Program} {e : Env} {s : State} {m : MethodId} {below : List Frame} {meth : Method} {c : Code} {b L : Nat} {xs : Nat → Int32} {D : va_G} {cy cm : Nat → ClassId} {a bb : Nat → Nat} {n : Nat} {co : ClassId} {o sa1 sa2 i k cells slots : Nat} {Q : State → Prop} {S : CS} {M : MS} {f : Nat → Int64} {H : Heap} {locs : List Loc} {ls : Array Slot} (l : Launch) (C0 : lwB p l s m c b L xs D cy cm co sa1 sa2) (hn1 : 1 ≤ n) (hn : n ≤ 24) (hk : k ≤ 511) (hi : i + 8 ≤ L) (hcl : cells + 1 ≤ 601024) (hsl : slots + 6 ≤ 7293000) (hR : Rel n S M k) (hw : LW D cy cm a bb n co o (fun q => s.heap.size ≤ q) S M f H) (hS : va_S (fun q => s.heap.size ≤ q) s.heap H locs) (hl : lv_has ls 9 (lvL b (a 0) (bb 0) o i)) (J : lwJ p l e s m below meth c b D cy cm a bb n co o i (k + 1) (cells + 1) (slots + 6) Q) : W p l e room_1 s m #[Value.ref b] below meth c H locs cells slots Q (F0 m 308 ls []) := by
  obtain ⟨hx, hb, hml, hown, hts, hX, hbl, hK1, hK2, hN, hXA, hXD, hR1, hR2, hXU, hXZ, hst, hL⟩ := C0
  obtain ⟨q1, q2, q3, q4, q5, q6, q7, q8, q9, q10, q11⟩ := hR.need hk
  have hA : ∀ q : Nat, s.heap.size ≤ q → (fun q : Nat => s.heap.size ≤ q) q := fun _ h => h
  have hKX : va_K D vwCl (tX cy) s := ⟨hK1.1, fun k q hq => hK1.2 (k + 1) q hq⟩
  refine lv_aload_n hx hb dL_law_308 rfl (lv_at hl 3 rfl) ?_
  refine lw_ld hx hb hX hbl hS (lv_at hl 4 rfl) (lv_at hl 0 rfl) hL 1 (by omega) (by decide) dL_law_309 dL_law_310 dL_law_312 dL_law_313 dL_law_314 ?_
  refine vp_callSl (W.runV (As := [.int (xs (i + 1))]) (rest := []) ⟨hx, hb, hml, hown, hts⟩ (kX2_charge l D cy a n S H.size (xs (i + 1)) hn) (cwV 1 hts gL_law_X2_charge rfl rfl rfl (by decide +kernel) ⟨Nat.le_of_ble_eq_true rfl, Nat.le_of_ble_eq_true rfl⟩) ⟨pX_blind, va_recv hKX hw.1 (ci := 3) (q0 := 0) rfl rfl, fun U hU hW => ⟨rfl, pX_mk hw.1 hKX hw.dX hN hU hW⟩⟩ rfl rfl hl.1 rfl (lv_room (Nat.le_of_ble_eq_true rfl)) dL_law_315 ⟨by show _ ≤ 601024; omega, by show _ ≤ 7293000; omega⟩) (fun r1 hr1 => ?_)
  refine lv_aload_n hx hb dL_law_318 rfl (lv_at hl 2 rfl) ?_
  refine lw_ld hx hb hX hbl hS (lv_at hl 4 rfl) (lv_at hl 0 rfl) hL 1 (by omega) (by decide) dL_law_319 dL_law_320 dL_law_322 dL_law_323 dL_law_324 ?_
  refine va_calll (va_runV (As := [.int (xs (i + 1))]) (rest := [.long r1]) ⟨hx, hb, hml, hown, hts⟩ (kX3_charge l D cm bb n M H.size (xs (i + 1)) hn) (cwV 1 hts gL_law_X3_charge rfl rfl rfl (by decide +kernel) ⟨Nat.le_of_ble_eq_true rfl, Nat.le_of_ble_eq_true rfl⟩) ⟨pM_blind, va_recv hK2 hw.2.1 (ci := 4) (q0 := 0) rfl rfl, fun U hU hW => ⟨rfl, pM_mk hw.2.1 hK2 hw.dM hU hW⟩⟩ rfl rfl hl.1 rfl (lv_room (Nat.le_of_ble_eq_true rfl)) dL_law_325 ⟨by show _ ≤ 601024; omega, by show _ ≤ 7293000; omega⟩) hS (fun q _ h => hw.freeM hS hA q h) (hw.freeM hS hA) (fun r2 u2 t2 H2 locs2 ht2 hvm2 hu2 hB2 hz2 hk2 hS => ?_)
  obtain ⟨hr2, rfl⟩ := hu2
  have hP2 := hB2.1
  rw [ht2] at hP2
  have hw := hw.onM hk2 hP2
  refine il_eq (tgt := 759) hx hb dL_law_328 dL_law_329 (by decide) (fun h_1 => ?_) (fun h_1 => ?_)
  · refine W.widen (k := cells + 1) (n := slots + 6) (by omega) (by omega) ?_
    exact J _ _ _ _ _ _ (hR.mono.th 0) hw hS hl
  · exact absurd (hr1.trans ((q_charge hR (xs (i + 1))).trans hr2.symm)) h_1
set_option maxHeartbeats 1000000 in
set_option maxRecDepth 100000 in
theorem kc_2 {p : Program} {e : Env} {s : State} {m : MethodId} {below : List Frame} {meth : Method} {c : Code} {b L : Nat} {xs : Nat → Int32} {D : va_G} {cy cm : Nat → ClassId} {a bb : Nat → Nat} {n : Nat} {co : ClassId} {o sa1 sa2 i k cells slots : Nat} {Q : State → Prop} {S : CS} {M : MS} {f : Nat → Int64} {H : Heap} {locs : List Loc} {ls : Array Slot} (l : Launch) (C0 : lwB p l s m c b L xs D cy cm co sa1 sa2) (hn1 : 1 ≤ n) (hn : n ≤ 24) (hk : k ≤ 511) (hi : i + 8 ≤ L) (hcl : cells + 1 ≤ 601024) (hsl : slots + 6 ≤ 7293000) (hR : Rel n S M k) (hw : LW D cy cm a bb n co o (fun q => s.heap.size ≤ q) S M f H) (hS : va_S (fun q => s.heap.size ≤ q) s.heap H locs) (hl : lv_has ls 9 (lvL b (a 0) (bb 0) o i)) (J : lwJ p l e s m below meth c b D cy cm a bb n co o i (k + 1) (cells + 1) (slots + 6) Q) : W p l e room_1 s m #[Value.ref b] below meth c H locs cells slots Q (F0 m 334 ls []) := by
  obtain ⟨hx, hb, hml, hown, hts, hX, hbl, hK1, hK2, hN, hXA, hXD, hR1, hR2, hXU, hXZ, hst, hL⟩ := C0
  obtain ⟨q1, q2, q3, q4, q5, q6, q7, q8, q9, q10, q11⟩ := hR.need hk
  have hA : ∀ q : Nat, s.heap.size ≤ q → (fun q : Nat => s.heap.size ≤ q) q := fun _ h => h
  have hKX : va_K D vwCl (tX cy) s := ⟨hK1.1, fun k q hq => hK1.2 (k + 1) q hq⟩
  refine lv_aload_n hx hb dL_law_334 rfl (lv_at hl 3 rfl) ?_
  refine lw_ld hx hb hX hbl hS (lv_at hl 4 rfl) (lv_at hl 0 rfl) hL 1 (by omega) (by decide) dL_law_335 dL_law_336 dL_law_338 dL_law_339 dL_law_340 ?_
  refine vp_callSd (W.runV (As := [.int (xs (i + 1))]) (rest := []) ⟨hx, hb, hml, hown, hts⟩ (kX2_share l D cy a n S H.size (xs (i + 1)) hn) (cwV 1 hts gL_law_X2_share rfl rfl rfl (by decide +kernel) ⟨Nat.le_of_ble_eq_true rfl, Nat.le_of_ble_eq_true rfl⟩) ⟨pX_blind, va_recv hKX hw.1 (ci := 3) (q0 := 0) rfl rfl, fun U hU hW => ⟨rfl, pX_mk hw.1 hKX hw.dX hN hU hW⟩⟩ rfl rfl hl.1 rfl (lv_room (Nat.le_of_ble_eq_true rfl)) dL_law_341 ⟨by show _ ≤ 601024; omega, by show _ ≤ 7293000; omega⟩) (fun r1 hr1 => ?_)
  refine lv_dstore (lv' := [(5, .double r1), (4, .int (nI i)), (3, .ref o), (2, .ref (bb 0)), (1, .ref (a 0)), (0, .ref b)]) hx hb dL_law_344 hl (by decide) rfl (fun ls hl => ?_)
  refine lv_aload_n hx hb dL_law_346 rfl (lv_at hl 3 rfl) ?_
  refine lw_ld hx hb hX hbl hS (lv_at hl 5 rfl) (lv_at hl 1 rfl) hL 1 (by omega) (by decide) dL_law_347 dL_law_348 dL_law_350 dL_law_351 dL_law_352 ?_
  refine va_calld (va_runV (As := [.int (xs (i + 1))]) (rest := []) ⟨hx, hb, hml, hown, hts⟩ (kX3_share l D cm bb n M H.size (xs (i + 1)) hn) (cwV 1 hts gL_law_X3_share rfl rfl rfl (by decide +kernel) ⟨Nat.le_of_ble_eq_true rfl, Nat.le_of_ble_eq_true rfl⟩) ⟨pM_blind, va_recv hK2 hw.2.1 (ci := 4) (q0 := 0) rfl rfl, fun U hU hW => ⟨rfl, pM_mk hw.2.1 hK2 hw.dM hU hW⟩⟩ rfl rfl hl.1 rfl (lv_room (Nat.le_of_ble_eq_true rfl)) dL_law_353 ⟨by show _ ≤ 601024; omega, by show _ ≤ 7293000; omega⟩) hS (fun q _ h => hw.freeM hS hA q h) (hw.freeM hS hA) (fun r2 u2 t2 H2 locs2 ht2 hvm2 hu2 hB2 hz2 hk2 hS => ?_)
  obtain ⟨hr2, rfl⟩ := hu2
  have hP2 := hB2.1
  rw [ht2] at hP2
  have hw := hw.onM hk2 hP2
  obtain rfl : r1 = r2 := hr1.trans ((q_share hR (xs (i + 1))).trans hr2.symm)
  refine lv_dstore (lv' := [(7, .double r1), (5, .double r1), (4, .int (nI i)), (3, .ref o), (2, .ref (bb 0)), (1, .ref (a 0)), (0, .ref b)]) hx hb dL_law_356 hl (by decide) rfl (fun ls hl => ?_)
  have J3 : W p l e room_1 s m #[Value.ref b] below meth c H2 locs2 (cells + 0) (slots + 0) Q (F0 m 384 ls []) := by
    refine lv_goto (tgt := 759) hx hb dL_law_384 (by decide) ?_
    refine W.widen (k := cells + 1) (n := slots + 6) (by omega) (by omega) ?_
    exact J _ _ _ _ _ _ (hR.mono.th 0) hw hS (lv_sub hl [2, 3, 4, 5, 6] rfl)
  refine lv_dload hx hb dL_law_358 (lv_at hl 1 rfl) ?_
  refine lv_dload hx hb dL_law_360 (lv_at hl 0 rfl) ?_
  refine lv_dcmp hx hb dL_law_362 ?_
  refine iz_eq (tgt := 384) hx hb dL_law_363 (by decide) (fun _ => J3) (fun h_1 => ?_)
  refine lv_dload hx hb dL_law_366 (lv_at hl 1 rfl) ?_
  refine lv_dload hx hb dL_law_368 (lv_at hl 1 rfl) ?_
  refine lv_dcmp hx hb dL_law_370 ?_
  refine iz_eq (tgt := 382) hx hb dL_law_371 (by decide) (fun h_2 => absurd h_2 h_1) (fun h_2 => ?_)
  refine lv_dload hx hb dL_law_374 (lv_at hl 0 rfl) ?_
  refine lv_dload hx hb dL_law_376 (lv_at hl 0 rfl) ?_
  refine lv_dcmp hx hb dL_law_378 ?_
  exact iz_ne (tgt := 384) hx hb dL_law_379 (by decide) (fun _ => J3) (fun h_3 => absurd h_3 h_1)
set_option maxHeartbeats 1000000 in
set_option maxRecDepth 100000 in
theorem kc_4 {p : Program} {e : Env} {s : State} {m : MethodId} {below : List Frame} {meth : Method} {c : Code} {b L : Nat} {xs : Nat → Int32} {D : va_G} {cy cm : Nat → ClassId} {a bb : Nat → Nat} {n : Nat} {co : ClassId} {o sa1 sa2 i k cells slots : Nat} {Q : State → Prop} {S : CS} {M : MS} {f : Nat → Int64} {H : Heap} {locs : List Loc} {ls : Array Slot} (l : Launch) (C0 : lwB p l s m c b L xs D cy cm co sa1 sa2) (hn1 : 1 ≤ n) (hn : n ≤ 24) (hk : k ≤ 511) (hi : i + 8 ≤ L) (hcl : cells + 1 ≤ 601024) (hsl : slots + 6 ≤ 7293000) (hR : Rel n S M k) (hw : LW D cy cm a bb n co o (fun q => s.heap.size ≤ q) S M f H) (hS : va_S (fun q => s.heap.size ≤ q) s.heap H locs) (hl : lv_has ls 9 (lvL b (a 0) (bb 0) o i)) (J : lwJ p l e s m below meth c b D cy cm a bb n co o i (k + 1) (cells + 1) (slots + 6) Q) : W p l e room_1 s m #[Value.ref b] below meth c H locs cells slots Q (F0 m 454 ls []) := by
  obtain ⟨hx, hb, hml, hown, hts, hX, hbl, hK1, hK2, hN, hXA, hXD, hR1, hR2, hXU, hXZ, hst, hL⟩ := C0
  obtain ⟨q1, q2, q3, q4, q5, q6, q7, q8, q9, q10, q11⟩ := hR.need hk
  have hA : ∀ q : Nat, s.heap.size ≤ q → (fun q : Nat => s.heap.size ≤ q) q := fun _ h => h
  have hKX : va_K D vwCl (tX cy) s := ⟨hK1.1, fun k q hq => hK1.2 (k + 1) q hq⟩
  refine lv_aload_n hx hb dL_law_454 rfl (lv_at hl 3 rfl) ?_
  refine lw_ld hx hb hX hbl hS (lv_at hl 4 rfl) (lv_at hl 0 rfl) hL 1 (by omega) (by decide) dL_law_455 dL_law_456 dL_law_458 dL_law_459 dL_law_460 ?_
  refine W.join (P := fun v9 : Int32 => v9 = (if (xs (i + 1)) = 0 then (0 : Int32) else 1)) (g := fun v9 => F0 m 469 ls [.int v9, .ref (a 0)]) (fun v9 hv9 => ?_) (fun J9 => ?_)
  · subst hv9
    refine va_calli (va_runV (As := [.int (if (xs (i + 1)) = 0 then (0 : Int32) else 1)]) (rest := []) ⟨hx, hb, hml, hown, hts⟩ (kX2_contactor l D cy a n S H.size (if (xs (i + 1)) = 0 then (0 : Int32) else 1) (by omega)) (cwV 1 hts gL_law_X2_contactor rfl rfl rfl (by decide +kernel) ⟨Nat.le_of_ble_eq_true rfl, Nat.le_of_ble_eq_true rfl⟩) ⟨pX_blind, va_recv hKX hw.1 (ci := 3) (q0 := 0) rfl rfl, fun U hU hW => ⟨rfl, pX_mk hw.1 hKX hw.dX hN hU hW⟩⟩ rfl rfl hl.1 rfl (lv_room (Nat.le_of_ble_eq_true rfl)) dL_law_469 ⟨by show _ ≤ 601024; omega, by show _ ≤ 7293000; omega⟩) hS (fun q _ h => hw.freeX hS hA q h) (hw.freeX hS hA) (fun r1 u1 t1 H1 locs1 ht1 hvm1 hu1 hB1 hz1 hk1 hS => ?_)
    obtain ⟨hr1, rfl⟩ := hu1
    have hP1 := hB1.1
    rw [ht1] at hP1
    have hw := hw.onX hk1 hP1
    refine lv_aload_n hx hb dL_law_472 rfl (lv_at hl 2 rfl) ?_
    refine lw_ld hx hb hX hbl hS (lv_at hl 4 rfl) (lv_at hl 0 rfl) hL 1 (by omega) (by decide) dL_law_473 dL_law_474 dL_law_476 dL_law_477 dL_law_478 ?_
    refine W.join (P := fun v9 : Int32 => v9 = (if (xs (i + 1)) = 0 then (0 : Int32) else 1)) (g := fun v9 => F0 m 487 ls [.int v9, .ref (bb 0), .int r1]) (fun v9 hv9 => ?_) (fun J9 => ?_)
    · subst hv9
      refine va_calli (va_runV (As := [.int (if (xs (i + 1)) = 0 then (0 : Int32) else 1)]) (rest := [.int r1]) ⟨hx, hb, hml, hown, hts⟩ (kX3_contactor l D cm bb n M H1.size (if (xs (i + 1)) = 0 then (0 : Int32) else 1) (by omega) q9) (cwV 1 hts gL_law_X3_contactor rfl rfl rfl (by decide +kernel) ⟨Nat.le_of_ble_eq_true rfl, Nat.le_of_ble_eq_true rfl⟩) ⟨pM_blind, va_recv hK2 hw.2.1 (ci := 4) (q0 := 0) rfl rfl, fun U hU hW => ⟨rfl, pM_mk hw.2.1 hK2 hw.dM hU hW⟩⟩ rfl rfl hl.1 rfl (lv_room (Nat.le_of_ble_eq_true rfl)) dL_law_487 ⟨by show _ ≤ 601024; omega, by show _ ≤ 7293000; omega⟩) hS (fun q _ h => hw.freeM hS hA q h) (hw.freeM hS hA) (fun r2 u2 t2 H2 locs2 ht2 hvm2 hu2 hB2 hz2 hk2 hS => ?_)
      obtain ⟨hr2, rfl⟩ := hu2
      have hP2 := hB2.1
      rw [ht2] at hP2
      have hw := hw.onM hk2 hP2
      refine ib_eq (tgt := 759) hx hb dL_law_490 (by decide) (fun h_1 => ?_) (fun h_1 => ?_)
      · refine W.widen (k := cells + 1) (n := slots + 6) (by omega) (by omega) ?_
        exact J _ _ _ _ _ _ ((s_con hR (if (xs (i + 1)) = 0 then (0 : Int32) else 1)).2) hw hS hl
      · exact absurd (hr1.trans (((s_con hR (if (xs (i + 1)) = 0 then (0 : Int32) else 1)).1).trans hr2.symm)) h_1
    · refine iz_eq (tgt := 486) hx hb dL_law_479 (by decide) (fun h_1 => ?_) (fun h_1 => ?_)
      · refine lv_iconst (v := 0) hx hb dL_law_486 (by decide) ?_
        exact J9 _ (if_pos h_1).symm
      · refine lv_iconst (v := 1) hx hb dL_law_482 (by decide) ?_
        refine lv_goto (tgt := 487) hx hb dL_law_483 (by decide) ?_
        exact J9 _ (if_neg h_1).symm
  · refine iz_eq (tgt := 468) hx hb dL_law_461 (by decide) (fun h_1 => ?_) (fun h_1 => ?_)
    · refine lv_iconst (v := 0) hx hb dL_law_468 (by decide) ?_
      exact J9 _ (if_pos h_1).symm
    · refine lv_iconst (v := 1) hx hb dL_law_464 (by decide) ?_
      refine lv_goto (tgt := 469) hx hb dL_law_465 (by decide) ?_
      exact J9 _ (if_neg h_1).symm
set_option maxHeartbeats 1000000 in
set_option maxRecDepth 100000 in
theorem kc_5 {p : Program} {e : Env} {s : State} {m : MethodId} {below : List Frame} {meth : Method} {c : Code} {b L : Nat} {xs : Nat → Int32} {D : va_G} {cy cm : Nat → ClassId} {a bb : Nat → Nat} {n : Nat} {co : ClassId} {o sa1 sa2 i k cells slots : Nat} {Q : State → Prop} {S : CS} {M : MS} {f : Nat → Int64} {H : Heap} {locs : List Loc} {ls : Array Slot} (l : Launch) (C0 : lwB p l s m c b L xs D cy cm co sa1 sa2) (hn1 : 1 ≤ n) (hn : n ≤ 24) (hk : k ≤ 511) (hi : i + 8 ≤ L) (hcl : cells + 1 ≤ 601024) (hsl : slots + 6 ≤ 7293000) (hR : Rel n S M k) (hw : LW D cy cm a bb n co o (fun q => s.heap.size ≤ q) S M f H) (hS : va_S (fun q => s.heap.size ≤ q) s.heap H locs) (hl : lv_has ls 9 (lvL b (a 0) (bb 0) o i)) (J : lwJ p l e s m below meth c b D cy cm a bb n co o i (k + 1) (cells + 1) (slots + 6) Q) : W p l e room_1 s m #[Value.ref b] below meth c H locs cells slots Q (F0 m 495 ls []) := by
  obtain ⟨hx, hb, hml, hown, hts, hX, hbl, hK1, hK2, hN, hXA, hXD, hR1, hR2, hXU, hXZ, hst, hL⟩ := C0
  obtain ⟨q1, q2, q3, q4, q5, q6, q7, q8, q9, q10, q11⟩ := hR.need hk
  have hA : ∀ q : Nat, s.heap.size ≤ q → (fun q : Nat => s.heap.size ≤ q) q := fun _ h => h
  have hKX : va_K D vwCl (tX cy) s := ⟨hK1.1, fun k q hq => hK1.2 (k + 1) q hq⟩
  refine lv_aload_n hx hb dL_law_495 rfl (lv_at hl 3 rfl) ?_
  refine lw_ld hx hb hX hbl hS (lv_at hl 4 rfl) (lv_at hl 0 rfl) hL 1 (by omega) (by decide) dL_law_496 dL_law_497 dL_law_499 dL_law_500 dL_law_501 ?_
  refine va_calli (va_runV (As := [.int (xs (i + 1))]) (rest := []) ⟨hx, hb, hml, hown, hts⟩ (kX2_bleed l D cy a n S H.size (xs (i + 1)) hn) (cwV 1 hts gL_law_X2_bleed rfl rfl rfl (by decide +kernel) ⟨Nat.le_of_ble_eq_true rfl, Nat.le_of_ble_eq_true rfl⟩) ⟨pX_blind, va_recv hKX hw.1 (ci := 3) (q0 := 0) rfl rfl, fun U hU hW => ⟨rfl, pX_mk hw.1 hKX hw.dX hN hU hW⟩⟩ rfl rfl hl.1 rfl (lv_room (Nat.le_of_ble_eq_true rfl)) dL_law_502 ⟨by show _ ≤ 601024; omega, by show _ ≤ 7293000; omega⟩) hS (fun q _ h => hw.freeX hS hA q h) (hw.freeX hS hA) (fun r1 u1 t1 H1 locs1 ht1 hvm1 hu1 hB1 hz1 hk1 hS => ?_)
  obtain ⟨hr1, rfl⟩ := hu1
  have hP1 := hB1.1
  rw [ht1] at hP1
  have hw := hw.onX hk1 hP1
  refine lv_aload_n hx hb dL_law_505 rfl (lv_at hl 2 rfl) ?_
  refine lw_ld hx hb hX hbl hS (lv_at hl 4 rfl) (lv_at hl 0 rfl) hL 1 (by omega) (by decide) dL_law_506 dL_law_507 dL_law_509 dL_law_510 dL_law_511 ?_
  refine va_calli (va_runV (As := [.int (xs (i + 1))]) (rest := [.int r1]) ⟨hx, hb, hml, hown, hts⟩ (kX3_bleed l D cm bb n M H1.size (xs (i + 1)) hn1 hn) (cwV 1 hts gL_law_X3_bleed rfl rfl rfl (by decide +kernel) ⟨Nat.le_of_ble_eq_true rfl, Nat.le_of_ble_eq_true rfl⟩) ⟨pM_blind, va_recv hK2 hw.2.1 (ci := 4) (q0 := 0) rfl rfl, fun U hU hW => ⟨rfl, pM_mk hw.2.1 hK2 hw.dM hU hW⟩⟩ rfl rfl hl.1 rfl (lv_room (Nat.le_of_ble_eq_true rfl)) dL_law_512 ⟨by show _ ≤ 601024; omega, by show _ ≤ 7293000; omega⟩) hS (fun q _ h => hw.freeM hS hA q h) (hw.freeM hS hA) (fun r2 u2 t2 H2 locs2 ht2 hvm2 hu2 hB2 hz2 hk2 hS => ?_)
  obtain ⟨hr2, rfl⟩ := hu2
  have hP2 := hB2.1
  rw [ht2] at hP2
  have hw := hw.onM hk2 hP2
  refine ib_eq (tgt := 759) hx hb dL_law_515 (by decide) (fun h_1 => ?_) (fun h_1 => ?_)
  · refine W.widen (k := cells + 1) (n := slots + 6) (by omega) (by omega) ?_
    exact J _ _ _ _ _ _ ((s_ble hR hn1 (xs (i + 1))).2) hw hS hl
  · exact absurd (hr1.trans (((s_ble hR hn1 (xs (i + 1))).1).trans hr2.symm)) h_1
set_option maxHeartbeats 1000000 in
set_option maxRecDepth 100000 in
theorem kc_6 {p : Program} {e : Env} {s : State} {m : MethodId} {below : List Frame} {meth : Method} {c : Code} {b L : Nat} {xs : Nat → Int32} {D : va_G} {cy cm : Nat → ClassId} {a bb : Nat → Nat} {n : Nat} {co : ClassId} {o sa1 sa2 i k cells slots : Nat} {Q : State → Prop} {S : CS} {M : MS} {f : Nat → Int64} {H : Heap} {locs : List Loc} {ls : Array Slot} (l : Launch) (C0 : lwB p l s m c b L xs D cy cm co sa1 sa2) (hn1 : 1 ≤ n) (hn : n ≤ 24) (hk : k ≤ 511) (hi : i + 8 ≤ L) (hcl : cells + 1 ≤ 601024) (hsl : slots + 6 ≤ 7293000) (hR : Rel n S M k) (hw : LW D cy cm a bb n co o (fun q => s.heap.size ≤ q) S M f H) (hS : va_S (fun q => s.heap.size ≤ q) s.heap H locs) (hl : lv_has ls 9 (lvL b (a 0) (bb 0) o i)) (J : lwJ p l e s m below meth c b D cy cm a bb n co o i (k + 1) (cells + 1) (slots + 6) Q) : W p l e room_1 s m #[Value.ref b] below meth c H locs cells slots Q (F0 m 520 ls []) := by
  obtain ⟨hx, hb, hml, hown, hts, hX, hbl, hK1, hK2, hN, hXA, hXD, hR1, hR2, hXU, hXZ, hst, hL⟩ := C0
  obtain ⟨q1, q2, q3, q4, q5, q6, q7, q8, q9, q10, q11⟩ := hR.need hk
  have hA : ∀ q : Nat, s.heap.size ≤ q → (fun q : Nat => s.heap.size ≤ q) q := fun _ h => h
  have hKX : va_K D vwCl (tX cy) s := ⟨hK1.1, fun k q hq => hK1.2 (k + 1) q hq⟩
  refine lv_aload_n hx hb dL_law_520 rfl (lv_at hl 3 rfl) ?_
  refine lw_ld hx hb hX hbl hS (lv_at hl 4 rfl) (lv_at hl 0 rfl) hL 1 (by omega) (by decide) dL_law_521 dL_law_522 dL_law_524 dL_law_525 dL_law_526 ?_
  refine lw_ld hx hb hX hbl hS (lv_at hl 4 rfl) (lv_at hl 0 rfl) hL 2 (by omega) (by decide) dL_law_527 dL_law_528 dL_law_530 dL_law_531 dL_law_532 ?_
  refine lw_hi hx hb dL_law_533 dL_law_534 dL_law_536 ?_
  refine lw_ld hx hb hX hbl hS (lv_at hl 4 rfl) (lv_at hl 0 rfl) hL 3 (by omega) (by decide) dL_law_537 dL_law_538 dL_law_540 dL_law_541 dL_law_542 ?_
  refine lw_lo hx hb hown (hts (.constantLong RL 33 (4294967295)) (by decide +kernel)) dL_law_543 dL_law_544 dL_law_547 dL_law_548 ?_
  refine va_calli (va_runV (As := [.int (xs (i + 1)), .long (lng (xs (i + 2)) (xs (i + 3)))]) (rest := []) ⟨hx, hb, hml, hown, hts⟩ (kX2_limit l D cy a n S H.size (xs (i + 1)) (lng (xs (i + 2)) (xs (i + 3))) ) (cwV 2 hts gL_law_X2_limit rfl rfl rfl (by decide +kernel) ⟨Nat.le_of_ble_eq_true rfl, Nat.le_of_ble_eq_true rfl⟩) ⟨pX_blind, va_recv hKX hw.1 (ci := 3) (q0 := 0) rfl rfl, fun U hU hW => ⟨rfl, pX_mk hw.1 hKX hw.dX hN hU hW⟩⟩ rfl rfl hl.1 rfl (lv_room (Nat.le_of_ble_eq_true rfl)) dL_law_549 ⟨by show _ ≤ 601024; omega, by show _ ≤ 7293000; omega⟩) hS (fun q _ h => hw.freeX hS hA q h) (hw.freeX hS hA) (fun r1 u1 t1 H1 locs1 ht1 hvm1 hu1 hB1 hz1 hk1 hS => ?_)
  obtain ⟨hr1, rfl⟩ := hu1
  have hP1 := hB1.1
  rw [ht1] at hP1
  have hw := hw.onX hk1 hP1
  refine lv_aload_n hx hb dL_law_552 rfl (lv_at hl 2 rfl) ?_
  refine lw_ld hx hb hX hbl hS (lv_at hl 4 rfl) (lv_at hl 0 rfl) hL 1 (by omega) (by decide) dL_law_553 dL_law_554 dL_law_556 dL_law_557 dL_law_558 ?_
  refine lw_ld hx hb hX hbl hS (lv_at hl 4 rfl) (lv_at hl 0 rfl) hL 2 (by omega) (by decide) dL_law_559 dL_law_560 dL_law_562 dL_law_563 dL_law_564 ?_
  refine lw_hi hx hb dL_law_565 dL_law_566 dL_law_568 ?_
  refine lw_ld hx hb hX hbl hS (lv_at hl 4 rfl) (lv_at hl 0 rfl) hL 3 (by omega) (by decide) dL_law_569 dL_law_570 dL_law_572 dL_law_573 dL_law_574 ?_
  refine lw_lo hx hb hown (hts (.constantLong RL 33 (4294967295)) (by decide +kernel)) dL_law_575 dL_law_576 dL_law_579 dL_law_580 ?_
  refine va_calli (va_runV (As := [.int (xs (i + 1)), .long (lng (xs (i + 2)) (xs (i + 3)))]) (rest := [.int r1]) ⟨hx, hb, hml, hown, hts⟩ (kX3_limit l D cm bb n M H1.size (xs (i + 1)) (lng (xs (i + 2)) (xs (i + 3))) ) (cwV 2 hts gL_law_X3_limit rfl rfl rfl (by decide +kernel) ⟨Nat.le_of_ble_eq_true rfl, Nat.le_of_ble_eq_true rfl⟩) ⟨pM_blind, va_recv hK2 hw.2.1 (ci := 4) (q0 := 0) rfl rfl, fun U hU hW => ⟨rfl, pM_mk hw.2.1 hK2 hw.dM hU hW⟩⟩ rfl rfl hl.1 rfl (lv_room (Nat.le_of_ble_eq_true rfl)) dL_law_581 ⟨by show _ ≤ 601024; omega, by show _ ≤ 7293000; omega⟩) hS (fun q _ h => hw.freeM hS hA q h) (hw.freeM hS hA) (fun r2 u2 t2 H2 locs2 ht2 hvm2 hu2 hB2 hz2 hk2 hS => ?_)
  obtain ⟨hr2, rfl⟩ := hu2
  have hP2 := hB2.1
  rw [ht2] at hP2
  have hw := hw.onM hk2 hP2
  refine ib_eq (tgt := 759) hx hb dL_law_584 (by decide) (fun h_1 => ?_) (fun h_1 => ?_)
  · refine W.widen (k := cells + 1) (n := slots + 6) (by omega) (by omega) ?_
    exact J _ _ _ _ _ _ ((s_lim hR (xs (i + 1)) (lng (xs (i + 2)) (xs (i + 3)))).2) hw hS hl
  · exact absurd (hr1.trans (((s_lim hR (xs (i + 1)) (lng (xs (i + 2)) (xs (i + 3)))).1).trans hr2.symm)) h_1
set_option maxHeartbeats 1000000 in
set_option maxRecDepth 100000 in
theorem kc_7 {p : Program} {e : Env} {s : State} {m : MethodId} {below : List Frame} {meth : Method} {c : Code} {b L : Nat} {xs : Nat → Int32} {D : va_G} {cy cm : Nat → ClassId} {a bb : Nat → Nat} {n : Nat} {co : ClassId} {o sa1 sa2 i k cells slots : Nat} {Q : State → Prop} {S : CS} {M : MS} {f : Nat → Int64} {H : Heap} {locs : List Loc} {ls : Array Slot} (l : Launch) (C0 : lwB p l s m c b L xs D cy cm co sa1 sa2) (hn1 : 1 ≤ n) (hn : n ≤ 24) (hk : k ≤ 511) (hi : i + 8 ≤ L) (hcl : cells + 1 ≤ 601024) (hsl : slots + 6 ≤ 7293000) (hR : Rel n S M k) (hw : LW D cy cm a bb n co o (fun q => s.heap.size ≤ q) S M f H) (hS : va_S (fun q => s.heap.size ≤ q) s.heap H locs) (hl : lv_has ls 9 (lvL b (a 0) (bb 0) o i)) (J : lwJ p l e s m below meth c b D cy cm a bb n co o i (k + 1) (cells + 1) (slots + 6) Q) : W p l e room_1 s m #[Value.ref b] below meth c H locs cells slots Q (F0 m 589 ls []) := by
  obtain ⟨hx, hb, hml, hown, hts, hX, hbl, hK1, hK2, hN, hXA, hXD, hR1, hR2, hXU, hXZ, hst, hL⟩ := C0
  obtain ⟨q1, q2, q3, q4, q5, q6, q7, q8, q9, q10, q11⟩ := hR.need hk
  have hA : ∀ q : Nat, s.heap.size ≤ q → (fun q : Nat => s.heap.size ≤ q) q := fun _ h => h
  have hKX : va_K D vwCl (tX cy) s := ⟨hK1.1, fun k q hq => hK1.2 (k + 1) q hq⟩
  refine lv_aload_n hx hb dL_law_589 rfl (lv_at hl 3 rfl) ?_
  refine vp_callSi (W.runV (As := []) (rest := []) ⟨hx, hb, hml, hown, hts⟩ (kX2_weakest l D cy a n S H.size hn) (cwV 0 hts gL_law_X2_weakest rfl rfl rfl (by decide +kernel) ⟨Nat.le_of_ble_eq_true rfl, Nat.le_of_ble_eq_true rfl⟩) ⟨pX_blind, va_recv hKX hw.1 (ci := 3) (q0 := 0) rfl rfl, fun U hU hW => ⟨rfl, pX_mk hw.1 hKX hw.dX hN hU hW⟩⟩ rfl rfl hl.1 rfl (lv_room (Nat.le_of_ble_eq_true rfl)) dL_law_590 ⟨by show _ ≤ 601024; omega, by show _ ≤ 7293000; omega⟩) (fun r1 hr1 => ?_)
  refine lv_aload_n hx hb dL_law_593 rfl (lv_at hl 2 rfl) ?_
  refine va_calli (va_runV (As := []) (rest := [.int r1]) ⟨hx, hb, hml, hown, hts⟩ (kX3_weakest l D cm bb n M H.size hn1 hn) (cwV 0 hts gL_law_X3_weakest rfl rfl rfl (by decide +kernel) ⟨Nat.le_of_ble_eq_true rfl, Nat.le_of_ble_eq_true rfl⟩) ⟨pM_blind, va_recv hK2 hw.2.1 (ci := 4) (q0 := 0) rfl rfl, fun U hU hW => ⟨rfl, pM_mk hw.2.1 hK2 hw.dM hU hW⟩⟩ rfl rfl hl.1 rfl (lv_room (Nat.le_of_ble_eq_true rfl)) dL_law_594 ⟨by show _ ≤ 601024; omega, by show _ ≤ 7293000; omega⟩) hS (fun q _ h => hw.freeM hS hA q h) (hw.freeM hS hA) (fun r2 u2 t2 H2 locs2 ht2 hvm2 hu2 hB2 hz2 hk2 hS => ?_)
  obtain ⟨hr2, rfl⟩ := hu2
  have hP2 := hB2.1
  rw [ht2] at hP2
  have hw := hw.onM hk2 hP2
  refine ib_eq (tgt := 759) hx hb dL_law_597 (by decide) (fun h_1 => ?_) (fun h_1 => ?_)
  · refine W.widen (k := cells + 1) (n := slots + 6) (by omega) (by omega) ?_
    exact J _ _ _ _ _ _ (hR.mono.th 0) hw hS hl
  · exact absurd (hr1.trans ((q_weakest hR hn1).trans hr2.symm)) h_1
set_option maxHeartbeats 1000000 in
set_option maxRecDepth 100000 in
theorem kc_8 {p : Program} {e : Env} {s : State} {m : MethodId} {below : List Frame} {meth : Method} {c : Code} {b L : Nat} {xs : Nat → Int32} {D : va_G} {cy cm : Nat → ClassId} {a bb : Nat → Nat} {n : Nat} {co : ClassId} {o sa1 sa2 i k cells slots : Nat} {Q : State → Prop} {S : CS} {M : MS} {f : Nat → Int64} {H : Heap} {locs : List Loc} {ls : Array Slot} (l : Launch) (C0 : lwB p l s m c b L xs D cy cm co sa1 sa2) (hn1 : 1 ≤ n) (hn : n ≤ 24) (hk : k ≤ 511) (hi : i + 8 ≤ L) (hcl : cells + 1 ≤ 601024) (hsl : slots + 6 ≤ 7293000) (hR : Rel n S M k) (hw : LW D cy cm a bb n co o (fun q => s.heap.size ≤ q) S M f H) (hS : va_S (fun q => s.heap.size ≤ q) s.heap H locs) (hl : lv_has ls 9 (lvL b (a 0) (bb 0) o i)) (J : lwJ p l e s m below meth c b D cy cm a bb n co o i (k + 1) (cells + 1) (slots + 6) Q) : W p l e room_1 s m #[Value.ref b] below meth c H locs cells slots Q (F0 m 602 ls []) := by
  obtain ⟨hx, hb, hml, hown, hts, hX, hbl, hK1, hK2, hN, hXA, hXD, hR1, hR2, hXU, hXZ, hst, hL⟩ := C0
  obtain ⟨q1, q2, q3, q4, q5, q6, q7, q8, q9, q10, q11⟩ := hR.need hk
  have hA : ∀ q : Nat, s.heap.size ≤ q → (fun q : Nat => s.heap.size ≤ q) q := fun _ h => h
  have hKX : va_K D vwCl (tX cy) s := ⟨hK1.1, fun k q hq => hK1.2 (k + 1) q hq⟩
  refine lv_aload_n hx hb dL_law_602 rfl (lv_at hl 3 rfl) ?_
  refine lw_ld hx hb hX hbl hS (lv_at hl 4 rfl) (lv_at hl 0 rfl) hL 1 (by omega) (by decide) dL_law_603 dL_law_604 dL_law_606 dL_law_607 dL_law_608 ?_
  refine lw_hi hx hb dL_law_609 dL_law_610 dL_law_612 ?_
  refine lw_ld hx hb hX hbl hS (lv_at hl 4 rfl) (lv_at hl 0 rfl) hL 2 (by omega) (by decide) dL_law_613 dL_law_614 dL_law_616 dL_law_617 dL_law_618 ?_
  refine lw_lo hx hb hown (hts (.constantLong RL 33 (4294967295)) (by decide +kernel)) dL_law_619 dL_law_620 dL_law_623 dL_law_624 ?_
  refine va_calli (va_runV (As := [.long (lng (xs (i + 1)) (xs (i + 2)))]) (rest := []) ⟨hx, hb, hml, hown, hts⟩ (kX2_insulate l D cy a n S H.size (lng (xs (i + 1)) (xs (i + 2))) (by omega)) (cwV 1 hts gL_law_X2_insulate rfl rfl rfl (by decide +kernel) ⟨Nat.le_of_ble_eq_true rfl, Nat.le_of_ble_eq_true rfl⟩) ⟨pX_blind, va_recv hKX hw.1 (ci := 3) (q0 := 0) rfl rfl, fun U hU hW => ⟨rfl, pX_mk hw.1 hKX hw.dX hN hU hW⟩⟩ rfl rfl hl.1 rfl (lv_room (Nat.le_of_ble_eq_true rfl)) dL_law_625 ⟨by show _ ≤ 601024; omega, by show _ ≤ 7293000; omega⟩) hS (fun q _ h => hw.freeX hS hA q h) (hw.freeX hS hA) (fun r1 u1 t1 H1 locs1 ht1 hvm1 hu1 hB1 hz1 hk1 hS => ?_)
  obtain ⟨hr1, rfl⟩ := hu1
  have hP1 := hB1.1
  rw [ht1] at hP1
  have hw := hw.onX hk1 hP1
  refine lv_aload_n hx hb dL_law_628 rfl (lv_at hl 2 rfl) ?_
  refine lw_ld hx hb hX hbl hS (lv_at hl 4 rfl) (lv_at hl 0 rfl) hL 1 (by omega) (by decide) dL_law_629 dL_law_630 dL_law_632 dL_law_633 dL_law_634 ?_
  refine lw_hi hx hb dL_law_635 dL_law_636 dL_law_638 ?_
  refine lw_ld hx hb hX hbl hS (lv_at hl 4 rfl) (lv_at hl 0 rfl) hL 2 (by omega) (by decide) dL_law_639 dL_law_640 dL_law_642 dL_law_643 dL_law_644 ?_
  refine lw_lo hx hb hown (hts (.constantLong RL 33 (4294967295)) (by decide +kernel)) dL_law_645 dL_law_646 dL_law_649 dL_law_650 ?_
  refine va_calli (va_runV (As := [.long (lng (xs (i + 1)) (xs (i + 2)))]) (rest := [.int r1]) ⟨hx, hb, hml, hown, hts⟩ (kX3_insulate l D cm bb n M H1.size (lng (xs (i + 1)) (xs (i + 2))) (by omega)) (cwV 1 hts gL_law_X3_insulate rfl rfl rfl (by decide +kernel) ⟨Nat.le_of_ble_eq_true rfl, Nat.le_of_ble_eq_true rfl⟩) ⟨pM_blind, va_recv hK2 hw.2.1 (ci := 4) (q0 := 0) rfl rfl, fun U hU hW => ⟨rfl, pM_mk hw.2.1 hK2 hw.dM hU hW⟩⟩ rfl rfl hl.1 rfl (lv_room (Nat.le_of_ble_eq_true rfl)) dL_law_651 ⟨by show _ ≤ 601024; omega, by show _ ≤ 7293000; omega⟩) hS (fun q _ h => hw.freeM hS hA q h) (hw.freeM hS hA) (fun r2 u2 t2 H2 locs2 ht2 hvm2 hu2 hB2 hz2 hk2 hS => ?_)
  obtain ⟨hr2, rfl⟩ := hu2
  have hP2 := hB2.1
  rw [ht2] at hP2
  have hw := hw.onM hk2 hP2
  refine ib_eq (tgt := 759) hx hb dL_law_654 (by decide) (fun h_1 => ?_) (fun h_1 => ?_)
  · refine W.widen (k := cells + 1) (n := slots + 6) (by omega) (by omega) ?_
    exact J _ _ _ _ _ _ (s_insulate hR (lng (xs (i + 1)) (xs (i + 2)))) hw hS hl
  · exact absurd (hr1.trans hr2.symm) h_1
set_option maxHeartbeats 1000000 in
set_option maxRecDepth 100000 in
theorem kc_9 {p : Program} {e : Env} {s : State} {m : MethodId} {below : List Frame} {meth : Method} {c : Code} {b L : Nat} {xs : Nat → Int32} {D : va_G} {cy cm : Nat → ClassId} {a bb : Nat → Nat} {n : Nat} {co : ClassId} {o sa1 sa2 i k cells slots : Nat} {Q : State → Prop} {S : CS} {M : MS} {f : Nat → Int64} {H : Heap} {locs : List Loc} {ls : Array Slot} (l : Launch) (C0 : lwB p l s m c b L xs D cy cm co sa1 sa2) (hn1 : 1 ≤ n) (hn : n ≤ 24) (hk : k ≤ 511) (hi : i + 8 ≤ L) (hcl : cells + 1 ≤ 601024) (hsl : slots + 6 ≤ 7293000) (hR : Rel n S M k) (hw : LW D cy cm a bb n co o (fun q => s.heap.size ≤ q) S M f H) (hS : va_S (fun q => s.heap.size ≤ q) s.heap H locs) (hl : lv_has ls 9 (lvL b (a 0) (bb 0) o i)) (J : lwJ p l e s m below meth c b D cy cm a bb n co o i (k + 1) (cells + 1) (slots + 6) Q) : W p l e room_1 s m #[Value.ref b] below meth c H locs cells slots Q (F0 m 659 ls []) := by
  obtain ⟨hx, hb, hml, hown, hts, hX, hbl, hK1, hK2, hN, hXA, hXD, hR1, hR2, hXU, hXZ, hst, hL⟩ := C0
  obtain ⟨q1, q2, q3, q4, q5, q6, q7, q8, q9, q10, q11⟩ := hR.need hk
  have hA : ∀ q : Nat, s.heap.size ≤ q → (fun q : Nat => s.heap.size ≤ q) q := fun _ h => h
  have hKX : va_K D vwCl (tX cy) s := ⟨hK1.1, fun k q hq => hK1.2 (k + 1) q hq⟩
  refine lv_aload_n hx hb dL_law_659 rfl (lv_at hl 3 rfl) ?_
  refine lw_ld hx hb hX hbl hS (lv_at hl 4 rfl) (lv_at hl 0 rfl) hL 1 (by omega) (by decide) dL_law_660 dL_law_661 dL_law_663 dL_law_664 dL_law_665 ?_
  refine va_calli (va_runV (As := [.int (xs (i + 1))]) (rest := []) ⟨hx, hb, hml, hown, hts⟩ (kX2_stuck l D cy a n S H.size (xs (i + 1)) ) (cwV 1 hts gL_law_X2_stuck rfl rfl rfl (by decide +kernel) ⟨Nat.le_of_ble_eq_true rfl, Nat.le_of_ble_eq_true rfl⟩) ⟨pX_blind, va_recv hKX hw.1 (ci := 3) (q0 := 0) rfl rfl, fun U hU hW => ⟨rfl, pX_mk hw.1 hKX hw.dX hN hU hW⟩⟩ rfl rfl hl.1 rfl (lv_room (Nat.le_of_ble_eq_true rfl)) dL_law_666 ⟨by show _ ≤ 601024; omega, by show _ ≤ 7293000; omega⟩) hS (fun q _ h => hw.freeX hS hA q h) (hw.freeX hS hA) (fun r1 u1 t1 H1 locs1 ht1 hvm1 hu1 hB1 hz1 hk1 hS => ?_)
  obtain ⟨hr1, rfl⟩ := hu1
  have hP1 := hB1.1
  rw [ht1] at hP1
  have hw := hw.onX hk1 hP1
  refine lv_aload_n hx hb dL_law_669 rfl (lv_at hl 2 rfl) ?_
  refine lw_ld hx hb hX hbl hS (lv_at hl 4 rfl) (lv_at hl 0 rfl) hL 1 (by omega) (by decide) dL_law_670 dL_law_671 dL_law_673 dL_law_674 dL_law_675 ?_
  refine va_calli (va_runV (As := [.int (xs (i + 1))]) (rest := [.int r1]) ⟨hx, hb, hml, hown, hts⟩ (kX3_stuck l D cm bb n M H1.size (xs (i + 1)) ) (cwV 1 hts gL_law_X3_stuck rfl rfl rfl (by decide +kernel) ⟨Nat.le_of_ble_eq_true rfl, Nat.le_of_ble_eq_true rfl⟩) ⟨pM_blind, va_recv hK2 hw.2.1 (ci := 4) (q0 := 0) rfl rfl, fun U hU hW => ⟨rfl, pM_mk hw.2.1 hK2 hw.dM hU hW⟩⟩ rfl rfl hl.1 rfl (lv_room (Nat.le_of_ble_eq_true rfl)) dL_law_676 ⟨by show _ ≤ 601024; omega, by show _ ≤ 7293000; omega⟩) hS (fun q _ h => hw.freeM hS hA q h) (hw.freeM hS hA) (fun r2 u2 t2 H2 locs2 ht2 hvm2 hu2 hB2 hz2 hk2 hS => ?_)
  obtain ⟨hr2, rfl⟩ := hu2
  have hP2 := hB2.1
  rw [ht2] at hP2
  have hw := hw.onM hk2 hP2
  refine ib_eq (tgt := 759) hx hb dL_law_679 (by decide) (fun h_1 => ?_) (fun h_1 => ?_)
  · refine W.widen (k := cells + 1) (n := slots + 6) (by omega) (by omega) ?_
    exact J _ _ _ _ _ _ ((s_stuck hR (xs (i + 1))).2) hw hS hl
  · exact absurd (hr1.trans (((s_stuck hR (xs (i + 1))).1).trans hr2.symm)) h_1
set_option maxHeartbeats 1000000 in
set_option maxRecDepth 100000 in
theorem kc_10 {p : Program} {e : Env} {s : State} {m : MethodId} {below : List Frame} {meth : Method} {c : Code} {b L : Nat} {xs : Nat → Int32} {D : va_G} {cy cm : Nat → ClassId} {a bb : Nat → Nat} {n : Nat} {co : ClassId} {o sa1 sa2 i k cells slots : Nat} {Q : State → Prop} {S : CS} {M : MS} {f : Nat → Int64} {H : Heap} {locs : List Loc} {ls : Array Slot} (l : Launch) (C0 : lwB p l s m c b L xs D cy cm co sa1 sa2) (hn1 : 1 ≤ n) (hn : n ≤ 24) (hk : k ≤ 511) (hi : i + 8 ≤ L) (hcl : cells + 1 ≤ 601024) (hsl : slots + 6 ≤ 7293000) (hR : Rel n S M k) (hw : LW D cy cm a bb n co o (fun q => s.heap.size ≤ q) S M f H) (hS : va_S (fun q => s.heap.size ≤ q) s.heap H locs) (hl : lv_has ls 9 (lvL b (a 0) (bb 0) o i)) (J : lwJ p l e s m below meth c b D cy cm a bb n co o i (k + 1) (cells + 1) (slots + 6) Q) : W p l e room_1 s m #[Value.ref b] below meth c H locs cells slots Q (F0 m 684 ls []) := by
  obtain ⟨hx, hb, hml, hown, hts, hX, hbl, hK1, hK2, hN, hXA, hXD, hR1, hR2, hXU, hXZ, hst, hL⟩ := C0
  obtain ⟨q1, q2, q3, q4, q5, q6, q7, q8, q9, q10, q11⟩ := hR.need hk
  have hA : ∀ q : Nat, s.heap.size ≤ q → (fun q : Nat => s.heap.size ≤ q) q := fun _ h => h
  have hKX : va_K D vwCl (tX cy) s := ⟨hK1.1, fun k q hq => hK1.2 (k + 1) q hq⟩
  refine lv_aload_n hx hb dL_law_684 rfl (lv_at hl 3 rfl) ?_
  refine lw_ld hx hb hX hbl hS (lv_at hl 4 rfl) (lv_at hl 0 rfl) hL 1 (by omega) (by decide) dL_law_685 dL_law_686 dL_law_688 dL_law_689 dL_law_690 ?_
  refine lw_ld hx hb hX hbl hS (lv_at hl 4 rfl) (lv_at hl 0 rfl) hL 2 (by omega) (by decide) dL_law_691 dL_law_692 dL_law_694 dL_law_695 dL_law_696 ?_
  refine vp_callSi (W.runV (As := [.int (xs (i + 1)), .int (xs (i + 2))]) (rest := []) ⟨hx, hb, hml, hown, hts⟩ (kX2_cycle l D cy a n S H.size (xs (i + 1)) (xs (i + 2)) q4) (cwV 2 hts gL_law_X2_cycle rfl rfl rfl (by decide +kernel) ⟨Nat.le_of_ble_eq_true rfl, Nat.le_of_ble_eq_true rfl⟩) ⟨pX_blind, va_recv hKX hw.1 (ci := 3) (q0 := 0) rfl rfl, fun U hU hW => ⟨rfl, pX_mk hw.1 hKX hw.dX hN hU hW⟩⟩ rfl rfl hl.1 rfl (lv_room (Nat.le_of_ble_eq_true rfl)) dL_law_697 ⟨by show _ ≤ 601024; omega, by show _ ≤ 7293000; omega⟩) (fun r1 hr1 => ?_)
  refine lv_aload_n hx hb dL_law_700 rfl (lv_at hl 2 rfl) ?_
  refine lw_ld hx hb hX hbl hS (lv_at hl 4 rfl) (lv_at hl 0 rfl) hL 1 (by omega) (by decide) dL_law_701 dL_law_702 dL_law_704 dL_law_705 dL_law_706 ?_
  refine lw_ld hx hb hX hbl hS (lv_at hl 4 rfl) (lv_at hl 0 rfl) hL 2 (by omega) (by decide) dL_law_707 dL_law_708 dL_law_710 dL_law_711 dL_law_712 ?_
  refine va_calli (va_runV (As := [.int (xs (i + 1)), .int (xs (i + 2))]) (rest := [.int r1]) ⟨hx, hb, hml, hown, hts⟩ (kX3_cycle l D cm bb n M H.size (xs (i + 1)) (xs (i + 2)) q8) (cwV 2 hts gL_law_X3_cycle rfl rfl rfl (by decide +kernel) ⟨Nat.le_of_ble_eq_true rfl, Nat.le_of_ble_eq_true rfl⟩) ⟨pM_blind, va_recv hK2 hw.2.1 (ci := 4) (q0 := 0) rfl rfl, fun U hU hW => ⟨rfl, pM_mk hw.2.1 hK2 hw.dM hU hW⟩⟩ rfl rfl hl.1 rfl (lv_room (Nat.le_of_ble_eq_true rfl)) dL_law_713 ⟨by show _ ≤ 601024; omega, by show _ ≤ 7293000; omega⟩) hS (fun q _ h => hw.freeM hS hA q h) (hw.freeM hS hA) (fun r2 u2 t2 H2 locs2 ht2 hvm2 hu2 hB2 hz2 hk2 hS => ?_)
  obtain ⟨hr2, rfl⟩ := hu2
  have hP2 := hB2.1
  rw [ht2] at hP2
  have hw := hw.onM hk2 hP2
  refine ib_eq (tgt := 759) hx hb dL_law_716 (by decide) (fun h_1 => ?_) (fun h_1 => ?_)
  · refine W.widen (k := cells + 1) (n := slots + 6) (by omega) (by omega) ?_
    exact J _ _ _ _ _ _ (hR.mono.th 0) hw hS hl
  · exact absurd (hr1.trans ((q_cycle hR (xs (i + 1)) (xs (i + 2))).trans hr2.symm)) h_1
set_option maxHeartbeats 1000000 in
set_option maxRecDepth 100000 in
theorem kc_11 {p : Program} {e : Env} {s : State} {m : MethodId} {below : List Frame} {meth : Method} {c : Code} {b L : Nat} {xs : Nat → Int32} {D : va_G} {cy cm : Nat → ClassId} {a bb : Nat → Nat} {n : Nat} {co : ClassId} {o sa1 sa2 i k cells slots : Nat} {Q : State → Prop} {S : CS} {M : MS} {f : Nat → Int64} {H : Heap} {locs : List Loc} {ls : Array Slot} (l : Launch) (C0 : lwB p l s m c b L xs D cy cm co sa1 sa2) (hn1 : 1 ≤ n) (hn : n ≤ 24) (hk : k ≤ 511) (hi : i + 8 ≤ L) (hcl : cells + 1 ≤ 601024) (hsl : slots + 6 ≤ 7293000) (hR : Rel n S M k) (hw : LW D cy cm a bb n co o (fun q => s.heap.size ≤ q) S M f H) (hS : va_S (fun q => s.heap.size ≤ q) s.heap H locs) (hl : lv_has ls 9 (lvL b (a 0) (bb 0) o i)) (J : lwJ p l e s m below meth c b D cy cm a bb n co o i (k + 1) (cells + 1) (slots + 6) Q) : W p l e room_1 s m #[Value.ref b] below meth c H locs cells slots Q (F0 m 721 ls []) := by
  obtain ⟨hx, hb, hml, hown, hts, hX, hbl, hK1, hK2, hN, hXA, hXD, hR1, hR2, hXU, hXZ, hst, hL⟩ := C0
  obtain ⟨q1, q2, q3, q4, q5, q6, q7, q8, q9, q10, q11⟩ := hR.need hk
  have hA : ∀ q : Nat, s.heap.size ≤ q → (fun q : Nat => s.heap.size ≤ q) q := fun _ h => h
  have hKX : va_K D vwCl (tX cy) s := ⟨hK1.1, fun k q hq => hK1.2 (k + 1) q hq⟩
  refine lv_aload_n hx hb dL_law_721 rfl (lv_at hl 3 rfl) ?_
  refine vp_callSi (W.runV (As := []) (rest := []) ⟨hx, hb, hml, hown, hts⟩ (kX2_cool l D cy a n S H.size hn) (cwV 0 hts gL_law_X2_cool rfl rfl rfl (by decide +kernel) ⟨Nat.le_of_ble_eq_true rfl, Nat.le_of_ble_eq_true rfl⟩) ⟨pX_blind, va_recv hKX hw.1 (ci := 3) (q0 := 0) rfl rfl, fun U hU hW => ⟨rfl, pX_mk hw.1 hKX hw.dX hN hU hW⟩⟩ rfl rfl hl.1 rfl (lv_room (Nat.le_of_ble_eq_true rfl)) dL_law_722 ⟨by show _ ≤ 601024; omega, by show _ ≤ 7293000; omega⟩) (fun r1 hr1 => ?_)
  refine lv_aload_n hx hb dL_law_725 rfl (lv_at hl 2 rfl) ?_
  refine va_calli (va_runV (As := []) (rest := [.int r1]) ⟨hx, hb, hml, hown, hts⟩ (kX3_cool l D cm bb n M H.size hn1 hn) (cwV 0 hts gL_law_X3_cool rfl rfl rfl (by decide +kernel) ⟨Nat.le_of_ble_eq_true rfl, Nat.le_of_ble_eq_true rfl⟩) ⟨pM_blind, va_recv hK2 hw.2.1 (ci := 4) (q0 := 0) rfl rfl, fun U hU hW => ⟨rfl, pM_mk hw.2.1 hK2 hw.dM hU hW⟩⟩ rfl rfl hl.1 rfl (lv_room (Nat.le_of_ble_eq_true rfl)) dL_law_726 ⟨by show _ ≤ 601024; omega, by show _ ≤ 7293000; omega⟩) hS (fun q _ h => hw.freeM hS hA q h) (hw.freeM hS hA) (fun r2 u2 t2 H2 locs2 ht2 hvm2 hu2 hB2 hz2 hk2 hS => ?_)
  obtain ⟨hr2, rfl⟩ := hu2
  have hP2 := hB2.1
  rw [ht2] at hP2
  have hw := hw.onM hk2 hP2
  refine ib_eq (tgt := 759) hx hb dL_law_729 (by decide) (fun h_1 => ?_) (fun h_1 => ?_)
  · refine W.widen (k := cells + 1) (n := slots + 6) (by omega) (by omega) ?_
    exact J _ _ _ _ _ _ (hR.mono.th 0) hw hS hl
  · exact absurd (hr1.trans ((q_cool hR hn1).trans hr2.symm)) h_1
set_option maxHeartbeats 1000000 in
set_option maxRecDepth 100000 in
theorem kc_12 {p : Program} {e : Env} {s : State} {m : MethodId} {below : List Frame} {meth : Method} {c : Code} {b L : Nat} {xs : Nat → Int32} {D : va_G} {cy cm : Nat → ClassId} {a bb : Nat → Nat} {n : Nat} {co : ClassId} {o sa1 sa2 i k cells slots : Nat} {Q : State → Prop} {S : CS} {M : MS} {f : Nat → Int64} {H : Heap} {locs : List Loc} {ls : Array Slot} (l : Launch) (C0 : lwB p l s m c b L xs D cy cm co sa1 sa2) (hn1 : 1 ≤ n) (hn : n ≤ 24) (hk : k ≤ 511) (hi : i + 8 ≤ L) (hcl : cells + 1 ≤ 601024) (hsl : slots + 6 ≤ 7293000) (hR : Rel n S M k) (hw : LW D cy cm a bb n co o (fun q => s.heap.size ≤ q) S M f H) (hS : va_S (fun q => s.heap.size ≤ q) s.heap H locs) (hl : lv_has ls 9 (lvL b (a 0) (bb 0) o i)) (J : lwJ p l e s m below meth c b D cy cm a bb n co o i (k + 1) (cells + 1) (slots + 6) Q) : W p l e room_1 s m #[Value.ref b] below meth c H locs cells slots Q (F0 m 734 ls []) := by
  obtain ⟨hx, hb, hml, hown, hts, hX, hbl, hK1, hK2, hN, hXA, hXD, hR1, hR2, hXU, hXZ, hst, hL⟩ := C0
  obtain ⟨q1, q2, q3, q4, q5, q6, q7, q8, q9, q10, q11⟩ := hR.need hk
  have hA : ∀ q : Nat, s.heap.size ≤ q → (fun q : Nat => s.heap.size ≤ q) q := fun _ h => h
  have hKX : va_K D vwCl (tX cy) s := ⟨hK1.1, fun k q hq => hK1.2 (k + 1) q hq⟩
  refine lv_aload_n hx hb dL_law_734 rfl (lv_at hl 3 rfl) ?_
  refine lw_ld hx hb hX hbl hS (lv_at hl 4 rfl) (lv_at hl 0 rfl) hL 1 (by omega) (by decide) dL_law_735 dL_law_736 dL_law_738 dL_law_739 dL_law_740 ?_
  refine vp_callSi (W.runV (As := [.int (xs (i + 1))]) (rest := []) ⟨hx, hb, hml, hown, hts⟩ (kX2_fault l D cy a n S H.size (xs (i + 1)) (by omega)) (cwV 1 hts gL_law_X2_fault rfl rfl rfl (by decide +kernel) ⟨Nat.le_of_ble_eq_true rfl, Nat.le_of_ble_eq_true rfl⟩) ⟨pX_blind, va_recv hKX hw.1 (ci := 3) (q0 := 0) rfl rfl, fun U hU hW => ⟨rfl, pX_mk hw.1 hKX hw.dX hN hU hW⟩⟩ rfl rfl hl.1 rfl (lv_room (Nat.le_of_ble_eq_true rfl)) dL_law_741 ⟨by show _ ≤ 601024; omega, by show _ ≤ 7293000; omega⟩) (fun r1 hr1 => ?_)
  refine lv_aload_n hx hb dL_law_744 rfl (lv_at hl 2 rfl) ?_
  refine lw_ld hx hb hX hbl hS (lv_at hl 4 rfl) (lv_at hl 0 rfl) hL 1 (by omega) (by decide) dL_law_745 dL_law_746 dL_law_748 dL_law_749 dL_law_750 ?_
  refine va_calli (va_runV (As := [.int (xs (i + 1))]) (rest := [.int r1]) ⟨hx, hb, hml, hown, hts⟩ (kX3_fault l D cm bb n M H.size (xs (i + 1)) (by omega)) (cwV 1 hts gL_law_X3_fault rfl rfl rfl (by decide +kernel) ⟨Nat.le_of_ble_eq_true rfl, Nat.le_of_ble_eq_true rfl⟩) ⟨pM_blind, va_recv hK2 hw.2.1 (ci := 4) (q0 := 0) rfl rfl, fun U hU hW => ⟨rfl, pM_mk hw.2.1 hK2 hw.dM hU hW⟩⟩ rfl rfl hl.1 rfl (lv_room (Nat.le_of_ble_eq_true rfl)) dL_law_751 ⟨by show _ ≤ 601024; omega, by show _ ≤ 7293000; omega⟩) hS (fun q _ h => hw.freeM hS hA q h) (hw.freeM hS hA) (fun r2 u2 t2 H2 locs2 ht2 hvm2 hu2 hB2 hz2 hk2 hS => ?_)
  obtain ⟨hr2, rfl⟩ := hu2
  have hP2 := hB2.1
  rw [ht2] at hP2
  have hw := hw.onM hk2 hP2
  refine ib_eq (tgt := 759) hx hb dL_law_754 (by decide) (fun h_1 => ?_) (fun h_1 => ?_)
  · refine W.widen (k := cells + 1) (n := slots + 6) (by omega) (by omega) ?_
    exact J _ _ _ _ _ _ (hR.mono.th 0) hw hS hl
  · exact absurd (hr1.trans ((q_fault hR (xs (i + 1))).trans hr2.symm)) h_1
