/-! the calls of the law's loop: step and whole -/
set_option maxHeartbeats 1000000 in
set_option maxRecDepth 100000 in
theorem kc_0 {p : Program} {e : Env} {s : State} {m : MethodId} {below : List Frame} {meth : Method} {c : Code} {b L : Nat} {xs : Nat → Int32} {D : va_G} {cy cm : Nat → ClassId} {a bb : Nat → Nat} {n : Nat} {co : ClassId} {o sa1 sa2 i k cells slots : Nat} {Q : State → Prop} {S : CS} {M : MS} {f : Nat → Int64} {H : Heap} {locs : List Loc} {ls : Array Slot} (l : Launch) (C0 : lwB p l s m c b L xs D cy cm co sa1 sa2) (hn1 : 1 ≤ n) (hn : n ≤ 24) (hk : k ≤ 511) (hi : i + 8 ≤ L) (hcl : cells + 1 ≤ 601024) (hsl : slots + 6 ≤ 7293000) (hR : Rel n S M k) (hw : LW D cy cm a bb n co o (fun q => s.heap.size ≤ q) S M f H) (hS : va_S (fun q => s.heap.size ≤ q) s.heap H locs) (hl : lv_has ls 9 (lvL b (a 0) (bb 0) o i)) (J : lwJ p l e s m below meth c b D cy cm a bb n co o i (k + 1) (cells + 1) (slots + 6) Q) : W p l e room_1 s m #[Value.ref b] below meth c H locs cells slots Q (F0 m 116 ls []) := by
  obtain ⟨hx, hb, hml, hown, hts, hX, hbl, hK1, hK2, hN, hXA, hXD, hR1, hR2, hXU, hXZ, hst, hL⟩ := C0
  obtain ⟨q1, q2, q3, q4, q5, q6, q7, q8, q9, q10, q11⟩ := hR.need hk
  have hA : ∀ q : Nat, s.heap.size ≤ q → (fun q : Nat => s.heap.size ≤ q) q := fun _ h => h
  have hKX : va_K D vwCl (tX cy) s := ⟨hK1.1, fun k q hq => hK1.2 (k + 1) q hq⟩
  refine lv_aload_n hx hb dL_law_116 rfl (lv_at hl 3 rfl) ?_
  refine lw_ld hx hb hX hbl hS (lv_at hl 4 rfl) (lv_at hl 0 rfl) hL 1 (by omega) (by decide) dL_law_117 dL_law_118 dL_law_120 dL_law_121 dL_law_122 ?_
  refine lw_ld hx hb hX hbl hS (lv_at hl 4 rfl) (lv_at hl 0 rfl) hL 2 (by omega) (by decide) dL_law_123 dL_law_124 dL_law_126 dL_law_127 dL_law_128 ?_
  refine lw_hi hx hb dL_law_129 dL_law_130 dL_law_132 ?_
  refine lw_ld hx hb hX hbl hS (lv_at hl 4 rfl) (lv_at hl 0 rfl) hL 3 (by omega) (by decide) dL_law_133 dL_law_134 dL_law_136 dL_law_137 dL_law_138 ?_
  refine lw_lo hx hb hown (hts (.constantLong RL 33 (4294967295)) (by decide +kernel)) dL_law_139 dL_law_140 dL_law_143 dL_law_144 ?_
  refine lw_ld hx hb hX hbl hS (lv_at hl 4 rfl) (lv_at hl 0 rfl) hL 4 (by omega) (by decide) dL_law_145 dL_law_146 dL_law_148 dL_law_149 dL_law_150 ?_
  refine lw_hi hx hb dL_law_151 dL_law_152 dL_law_154 ?_
  refine lw_ld hx hb hX hbl hS (lv_at hl 4 rfl) (lv_at hl 0 rfl) hL 5 (by omega) (by decide) dL_law_155 dL_law_156 dL_law_158 dL_law_159 dL_law_160 ?_
  refine lw_lo hx hb hown (hts (.constantLong RL 33 (4294967295)) (by decide +kernel)) dL_law_161 dL_law_162 dL_law_165 dL_law_166 ?_
  refine lw_ldb hx hb hX hbl hS (lv_at hl 4 rfl) (lv_at hl 0 rfl) hL 6 (by omega) (by decide) dL_law_167 dL_law_168 dL_law_170 dL_law_172 dL_law_173 ?_
  refine lw_hi hx hb dL_law_174 dL_law_175 dL_law_177 ?_
  refine lw_ldb hx hb hX hbl hS (lv_at hl 4 rfl) (lv_at hl 0 rfl) hL 7 (by omega) (by decide) dL_law_178 dL_law_179 dL_law_181 dL_law_183 dL_law_184 ?_
  refine lw_lo hx hb hown (hts (.constantLong RL 33 (4294967295)) (by decide +kernel)) dL_law_185 dL_law_186 dL_law_189 dL_law_190 ?_
  refine lv_aload_n hx hb dL_law_191 rfl (lv_at hl 1 rfl) ?_
  refine va_calli (vx_runSW (As := [.ref (a 0), .int (xs (i + 1)), .long (lng (xs (i + 2)) (xs (i + 3))), .long (lng (xs (i + 4)) (xs (i + 5))), .long (lng (xs (i + 6)) (xs (i + 7))), .ref o]) (rest := []) ⟨hx, hb, hml, hown, hts⟩ (kL_step l D cy a n S co o f H.size hst sa1 (xs (i + 1)) (lng (xs (i + 2)) (xs (i + 3))) (lng (xs (i + 4)) (xs (i + 5))) (lng (xs (i + 6)) (xs (i + 7))) hn q1 q2 q3 q10) (vx_cwSW 6 hts gL_law_L_step rfl rfl rfl (by decide +kernel) ⟨Nat.le_of_ble_eq_true rfl, Nat.le_of_ble_eq_true rfl⟩) ⟨pO_blind xAL_ok, fun U hU hW => ⟨rfl, by rw [hU], by rw [hU]; exact hw.pO, va_K.moved hW.alike hK1, hw.dO.weaken (fun _ _ _ _ => trivial), nwX_warm hW hN, hat_warm xAL_ok hW hXA, vk_R.warm hW hR1, by rw [hU]; exact ((hXU.kept hS.2.1).narrow (hw.freeO hS hA)).moved hW.alike, by rw [hU]; exact ((hXZ.kept hS.2.1).narrow (hw.freeO hS hA)).moved hW.alike⟩⟩ rfl rfl hl.1 rfl (lv_room (Nat.le_of_ble_eq_true rfl)) dL_law_192 ⟨by show _ ≤ 601024; omega, by show _ ≤ 7293000; omega⟩) hS (fun q _ h => hw.freeO hS hA q h) (hw.freeO hS hA) (fun r1 u1 t1 H1 locs1 ht1 hvm1 hu1 hB1 hz1 hk1 hS => ?_)
  obtain ⟨hr1, rfl⟩ := hu1
  obtain ⟨f1, hf1⟩ : ∃ f1 : Nat → Int64, f1 = (if thI n (xs (i + 1)) (lng (xs (i + 2)) (xs (i + 3))) (lng (xs (i + 4)) (xs (i + 5))) (lng (xs (i + 6)) (xs (i + 7))) = 0 then va_up f 0 ((rSx S n (xs (i + 1)) (lng (xs (i + 2)) (xs (i + 3))) (lng (xs (i + 4)) (xs (i + 5))) (lng (xs (i + 6)) (xs (i + 7)))).toInt64) else f) := ⟨_, rfl⟩
  have hP1 : va_P D vwCl (wO co o (if thI n (xs (i + 1)) (lng (xs (i + 2)) (xs (i + 3))) (lng (xs (i + 4)) (xs (i + 5))) (lng (xs (i + 6)) (xs (i + 7))) = 0 then va_up f 0 ((rSx S n (xs (i + 1)) (lng (xs (i + 2)) (xs (i + 3))) (lng (xs (i + 4)) (xs (i + 5))) (lng (xs (i + 6)) (xs (i + 7)))).toInt64) else f) (wX cy a n (gSx S n (xs (i + 1)) (lng (xs (i + 2)) (xs (i + 3))) (lng (xs (i + 4)) (xs (i + 5))) (lng (xs (i + 6)) (xs (i + 7)))))) t1.heap := hB1.1
  rw [ht1, ← hf1] at hP1
  have hw := hw.onO hk1 hP1
  refine lv_istore (lv' := [(5, .int r1), (4, .int (nI i)), (3, .ref o), (2, .ref (bb 0)), (1, .ref (a 0)), (0, .ref b)]) hx hb dL_law_195 hl (by decide) rfl (fun ls hl => ?_)
  refine lv_aload_n hx hb dL_law_197 rfl (lv_at hl 3 rfl) ?_
  refine lw_ld hx hb hX hbl hS (lv_at hl 5 rfl) (lv_at hl 1 rfl) hL 1 (by omega) (by decide) dL_law_198 dL_law_199 dL_law_201 dL_law_202 dL_law_203 ?_
  refine lw_ld hx hb hX hbl hS (lv_at hl 5 rfl) (lv_at hl 1 rfl) hL 2 (by omega) (by decide) dL_law_204 dL_law_205 dL_law_207 dL_law_208 dL_law_209 ?_
  refine lw_hi hx hb dL_law_210 dL_law_211 dL_law_213 ?_
  refine lw_ld hx hb hX hbl hS (lv_at hl 5 rfl) (lv_at hl 1 rfl) hL 3 (by omega) (by decide) dL_law_214 dL_law_215 dL_law_217 dL_law_218 dL_law_219 ?_
  refine lw_lo hx hb hown (hts (.constantLong RL 33 (4294967295)) (by decide +kernel)) dL_law_220 dL_law_221 dL_law_224 dL_law_225 ?_
  refine lw_ld hx hb hX hbl hS (lv_at hl 5 rfl) (lv_at hl 1 rfl) hL 4 (by omega) (by decide) dL_law_226 dL_law_227 dL_law_229 dL_law_230 dL_law_231 ?_
  refine lw_hi hx hb dL_law_232 dL_law_233 dL_law_235 ?_
  refine lw_ld hx hb hX hbl hS (lv_at hl 5 rfl) (lv_at hl 1 rfl) hL 5 (by omega) (by decide) dL_law_236 dL_law_237 dL_law_239 dL_law_240 dL_law_241 ?_
  refine lw_lo hx hb hown (hts (.constantLong RL 33 (4294967295)) (by decide +kernel)) dL_law_242 dL_law_243 dL_law_246 dL_law_247 ?_
  refine lw_ldb hx hb hX hbl hS (lv_at hl 5 rfl) (lv_at hl 1 rfl) hL 6 (by omega) (by decide) dL_law_248 dL_law_249 dL_law_251 dL_law_253 dL_law_254 ?_
  refine lw_hi hx hb dL_law_255 dL_law_256 dL_law_258 ?_
  refine lw_ldb hx hb hX hbl hS (lv_at hl 5 rfl) (lv_at hl 1 rfl) hL 7 (by omega) (by decide) dL_law_259 dL_law_260 dL_law_262 dL_law_264 dL_law_265 ?_
  refine lw_lo hx hb hown (hts (.constantLong RL 33 (4294967295)) (by decide +kernel)) dL_law_266 dL_law_267 dL_law_270 dL_law_271 ?_
  refine va_calli (va_runV (As := [.int (xs (i + 1)), .long (lng (xs (i + 2)) (xs (i + 3))), .long (lng (xs (i + 4)) (xs (i + 5))), .long (lng (xs (i + 6)) (xs (i + 7)))]) (rest := []) ⟨hx, hb, hml, hown, hts⟩ (kX3_step l D cm bb n M H1.size (xs (i + 1)) (lng (xs (i + 2)) (xs (i + 3))) (lng (xs (i + 4)) (xs (i + 5))) (lng (xs (i + 6)) (xs (i + 7))) hn q5 q6 q7 q11) (cwV 4 hts gL_law_X3_step rfl rfl rfl (by decide +kernel) ⟨Nat.le_of_ble_eq_true rfl, Nat.le_of_ble_eq_true rfl⟩) ⟨pM_blind, va_recv hK2 hw.2.1 (ci := 4) (q0 := 0) rfl rfl, fun U hU hW => ⟨rfl, pM_mk hw.2.1 hK2 hw.dM hU hW⟩⟩ rfl rfl hl.1 rfl (lv_room (Nat.le_of_ble_eq_true rfl)) dL_law_272 ⟨by show _ ≤ 601024; omega, by show _ ≤ 7293000; omega⟩) hS (fun q _ h => hw.freeM hS hA q h) (hw.freeM hS hA) (fun r2 u2 t2 H2 locs2 ht2 hvm2 hu2 hB2 hz2 hk2 hS => ?_)
  obtain ⟨hr2, rfl⟩ := hu2
  have hP2 := hB2.1
  rw [ht2] at hP2
  have hw := hw.onM hk2 hP2
  obtain ⟨e1, e2, e3⟩ := s_step hR hk hn1 hn (xs (i + 1)) (lng (xs (i + 2)) (xs (i + 3))) (lng (xs (i + 4)) (xs (i + 5))) (lng (xs (i + 6)) (xs (i + 7)))
  refine lv_istore (lv' := [(6, .int r2), (5, .int r1), (4, .int (nI i)), (3, .ref o), (2, .ref (bb 0)), (1, .ref (a 0)), (0, .ref b)]) hx hb dL_law_275 hl (by decide) rfl (fun ls hl => ?_)
  refine lv_aload_n hx hb dL_law_277 rfl (lv_at hl 4 rfl) ?_
  refine vp_callSi (W.runV (As := []) (rest := []) ⟨hx, hb, hml, hown, hts⟩ (kX3_thrown l D cm bb n (gmStep M n (xs (i + 1)) (lng (xs (i + 2)) (xs (i + 3))) (lng (xs (i + 4)) (xs (i + 5))) (lng (xs (i + 6)) (xs (i + 7)))) H2.size) (cwV 0 hts gL_law_X3_thrown rfl rfl rfl (by decide +kernel) ⟨Nat.le_of_ble_eq_true rfl, Nat.le_of_ble_eq_true rfl⟩) ⟨pM_blind, va_recv hK2 hw.2.1 (ci := 4) (q0 := 0) rfl rfl, fun U hU hW => ⟨rfl, pM_mk hw.2.1 hK2 hw.dM hU hW⟩⟩ rfl rfl hl.1 rfl (lv_room (Nat.le_of_ble_eq_true rfl)) dL_law_278 ⟨by show _ ≤ 601024; omega, by show _ ≤ 7293000; omega⟩) (fun r3 hr3 => ?_)
  refine lv_iload hx hb dL_law_281 (lv_at hl 1 rfl) ?_
  have J3 : W p l e room_1 s m #[Value.ref b] below meth c H2 locs2 (cells + 1 + 0) (slots + 6 + 0) Q (F0 m 305 ls []) := by
    refine lv_goto (tgt := 759) hx hb dL_law_305 (by decide) ?_
    refine W.widen (k := cells + 1) (n := slots + 6) (by omega) (by omega) ?_
    exact J _ _ _ _ _ _ e3 hw hS (lv_sub hl [2, 3, 4, 5, 6] rfl)
  refine ib_eq (tgt := 288) hx hb dL_law_283 (by decide) (fun h_1 => ?_) (fun h_1 => absurd (hr3.trans (e1.symm.trans hr1.symm)) h_1)
  refine lv_iload hx hb dL_law_288 (lv_at hl 1 rfl) ?_
  refine iz_ne (tgt := 305) hx hb dL_law_290 (by decide) (fun _ => J3) (fun h_2 => ?_)
  have hz : thI n (xs (i + 1)) (lng (xs (i + 2)) (xs (i + 3))) (lng (xs (i + 4)) (xs (i + 5))) (lng (xs (i + 6)) (xs (i + 7))) = 0 := hr1.symm.trans h_2
  have hf0 : f1 0 = (rSx S n (xs (i + 1)) (lng (xs (i + 2)) (xs (i + 3))) (lng (xs (i + 4)) (xs (i + 5))) (lng (xs (i + 6)) (xs (i + 7)))).toInt64 := by rw [hf1, if_pos hz]; exact if_pos rfl
  refine lv_aload_n hx hb dL_law_293 rfl (lv_at hl 3 rfl) ?_
  refine lv_iconst (v := 0) hx hb dL_law_294 (by decide) ?_
  refine ra_l (f := f1) hx hb hK1 hw.pO 0 0 rfl rfl 0 rfl (by decide) (by decide) dL_law_295 ?_
  refine lv_iload hx hb dL_law_296 (lv_at hl 0 rfl) ?_
  refine lv_i2l hx hb dL_law_298 rfl ?_
  exact il_eq (tgt := 305) hx hb dL_law_299 dL_law_300 (by decide) (fun _ => J3) (fun h_3 => absurd (hf0.trans (congrArg Int32.toInt64 ((e2 hz).trans hr2.symm))) h_3)
set_option maxHeartbeats 1000000 in
set_option maxRecDepth 100000 in
theorem kc_3 {p : Program} {e : Env} {s : State} {m : MethodId} {below : List Frame} {meth : Method} {c : Code} {b L : Nat} {xs : Nat → Int32} {D : va_G} {cy cm : Nat → ClassId} {a bb : Nat → Nat} {n : Nat} {co : ClassId} {o sa1 sa2 i k cells slots : Nat} {Q : State → Prop} {S : CS} {M : MS} {f : Nat → Int64} {H : Heap} {locs : List Loc} {ls : Array Slot} (l : Launch) (C0 : lwB p l s m c b L xs D cy cm co sa1 sa2) (hn1 : 1 ≤ n) (hn : n ≤ 24) (hk : k ≤ 511) (hi : i + 8 ≤ L) (hcl : cells + 1 ≤ 601024) (hsl : slots + 6 ≤ 7293000) (hR : Rel n S M k) (hw : LW D cy cm a bb n co o (fun q => s.heap.size ≤ q) S M f H) (hS : va_S (fun q => s.heap.size ≤ q) s.heap H locs) (hl : lv_has ls 9 (lvL b (a 0) (bb 0) o i)) (J : lwJ p l e s m below meth c b D cy cm a bb n co o i (k + 1) (cells + 1) (slots + 6) Q) : W p l e room_1 s m #[Value.ref b] below meth c H locs cells slots Q (F0 m 387 ls []) := by
  obtain ⟨hx, hb, hml, hown, hts, hX, hbl, hK1, hK2, hN, hXA, hXD, hR1, hR2, hXU, hXZ, hst, hL⟩ := C0
  obtain ⟨q1, q2, q3, q4, q5, q6, q7, q8, q9, q10, q11⟩ := hR.need hk
  have hA : ∀ q : Nat, s.heap.size ≤ q → (fun q : Nat => s.heap.size ≤ q) q := fun _ h => h
  have hKX : va_K D vwCl (tX cy) s := ⟨hK1.1, fun k q hq => hK1.2 (k + 1) q hq⟩
  refine lv_aload_n hx hb dL_law_387 rfl (lv_at hl 3 rfl) ?_
  refine lw_ld hx hb hX hbl hS (lv_at hl 4 rfl) (lv_at hl 0 rfl) hL 1 (by omega) (by decide) dL_law_388 dL_law_389 dL_law_391 dL_law_392 dL_law_393 ?_
  refine lw_ld hx hb hX hbl hS (lv_at hl 4 rfl) (lv_at hl 0 rfl) hL 2 (by omega) (by decide) dL_law_394 dL_law_395 dL_law_397 dL_law_398 dL_law_399 ?_
  refine lv_aload_n hx hb dL_law_400 rfl (lv_at hl 1 rfl) ?_
  refine va_calli (vx_runSW (As := [.ref (a 0), .int (xs (i + 1)), .int (xs (i + 2)), .ref o]) (rest := []) ⟨hx, hb, hml, hown, hts⟩ (kL_whole l D cy a n S co o f H.size hst sa2 (xs (i + 1)) (xs (i + 2)) hn) (vx_cwSW 4 hts gL_law_L_whole rfl rfl rfl (by decide +kernel) ⟨Nat.le_of_ble_eq_true rfl, Nat.le_of_ble_eq_true rfl⟩) ⟨pO_blind xDL_ok, fun U hU hW => ⟨rfl, by rw [hU], by rw [hU]; exact hw.pO, va_K.moved hW.alike hK1, hw.dO.weaken (fun _ _ _ _ => trivial), nwX_warm hW hN, hat_warm xDL_ok hW hXD, vk_R.warm hW hR2, by rw [hU]; exact ((hXU.kept hS.2.1).narrow (hw.freeO hS hA)).moved hW.alike, by rw [hU]; exact ((hXZ.kept hS.2.1).narrow (hw.freeO hS hA)).moved hW.alike⟩⟩ rfl rfl hl.1 rfl (lv_room (Nat.le_of_ble_eq_true rfl)) dL_law_401 ⟨by show _ ≤ 601024; omega, by show _ ≤ 7293000; omega⟩) hS (fun q _ h => hw.freeO hS hA q h) (hw.freeO hS hA) (fun r1 u1 t1 H1 locs1 ht1 hvm1 hu1 hB1 hz1 hk1 hS => ?_)
  obtain ⟨hr1, rfl⟩ := hu1
  obtain ⟨f1, hf1⟩ : ∃ f1 : Nat → Int64, f1 = (if thJ S n (xs (i + 1)) = 0 then va_up f 0 (rWx S n (xs (i + 1)) (xs (i + 2))) else f) := ⟨_, rfl⟩
  have hP1 : va_P D vwCl (wO co o (if thJ S n (xs (i + 1)) = 0 then va_up f 0 (rWx S n (xs (i + 1)) (xs (i + 2))) else f) (wX cy a n S)) t1.heap := hB1.1
  rw [ht1, ← hf1] at hP1
  have hw := hw.onO hk1 hP1
  refine lv_istore (lv' := [(5, .int r1), (4, .int (nI i)), (3, .ref o), (2, .ref (bb 0)), (1, .ref (a 0)), (0, .ref b)]) hx hb dL_law_404 hl (by decide) rfl (fun ls hl => ?_)
  refine lv_aload_n hx hb dL_law_406 rfl (lv_at hl 3 rfl) ?_
  refine lw_ld hx hb hX hbl hS (lv_at hl 5 rfl) (lv_at hl 1 rfl) hL 1 (by omega) (by decide) dL_law_407 dL_law_408 dL_law_410 dL_law_411 dL_law_412 ?_
  refine lw_ld hx hb hX hbl hS (lv_at hl 5 rfl) (lv_at hl 1 rfl) hL 2 (by omega) (by decide) dL_law_413 dL_law_414 dL_law_416 dL_law_417 dL_law_418 ?_
  obtain ⟨w1, w2, w3, e1, e2, e3⟩ := s_whole hR hk (xs (i + 1)) (xs (i + 2))
  refine va_calll (va_runV (As := [.int (xs (i + 1)), .int (xs (i + 2))]) (rest := []) ⟨hx, hb, hml, hown, hts⟩ (kX3_whole l D cm bb n M H1.size (xs (i + 1)) (xs (i + 2)) (fun j => (cm_ch M j).toInt.natAbs) (cm_lim M 5).toInt.natAbs hn w1 w2 w3) (cwV 2 hts gL_law_X3_whole rfl rfl rfl (by decide +kernel) ⟨Nat.le_of_ble_eq_true rfl, Nat.le_of_ble_eq_true rfl⟩) ⟨pM_blind, va_recv hK2 hw.2.1 (ci := 4) (q0 := 0) rfl rfl, fun U hU hW => ⟨rfl, pM_mk hw.2.1 hK2 hw.dM hU hW⟩⟩ rfl rfl hl.1 rfl (lv_room (Nat.le_of_ble_eq_true rfl)) dL_law_419 ⟨by show _ ≤ 601024; omega, by show _ ≤ 7293000; omega⟩) hS (fun q _ h => hw.freeM hS hA q h) (hw.freeM hS hA) (fun r2 u2 t2 H2 locs2 ht2 hvm2 hu2 hB2 hz2 hk2 hS => ?_)
  obtain ⟨hr2, rfl⟩ := hu2
  have hP2 := hB2.1
  rw [ht2] at hP2
  have hw := hw.onM hk2 hP2
  refine lv_lstore (lv' := [(6, .long r2), (5, .int r1), (4, .int (nI i)), (3, .ref o), (2, .ref (bb 0)), (1, .ref (a 0)), (0, .ref b)]) hx hb dL_law_422 hl (by decide) rfl (fun ls hl => ?_)
  refine lv_aload_n hx hb dL_law_424 rfl (lv_at hl 4 rfl) ?_
  refine vp_callSi (W.runV (As := []) (rest := []) ⟨hx, hb, hml, hown, hts⟩ (kX3_thrown l D cm bb n (gmWh M n (xs (i + 1))) H2.size) (cwV 0 hts gL_law_X3_thrown rfl rfl rfl (by decide +kernel) ⟨Nat.le_of_ble_eq_true rfl, Nat.le_of_ble_eq_true rfl⟩) ⟨pM_blind, va_recv hK2 hw.2.1 (ci := 4) (q0 := 0) rfl rfl, fun U hU hW => ⟨rfl, pM_mk hw.2.1 hK2 hw.dM hU hW⟩⟩ rfl rfl hl.1 rfl (lv_room (Nat.le_of_ble_eq_true rfl)) dL_law_425 ⟨by show _ ≤ 601024; omega, by show _ ≤ 7293000; omega⟩) (fun r3 hr3 => ?_)
  refine lv_iload hx hb dL_law_428 (lv_at hl 1 rfl) ?_
  have J3 : W p l e room_1 s m #[Value.ref b] below meth c H2 locs2 (cells + 1 + 0) (slots + 6 + 0) Q (F0 m 451 ls []) := by
    refine lv_goto (tgt := 759) hx hb dL_law_451 (by decide) ?_
    refine W.widen (k := cells + 1) (n := slots + 6) (by omega) (by omega) ?_
    exact J _ _ _ _ _ _ e3 hw hS (lv_sub hl [2, 3, 4, 5, 6] rfl)
  refine ib_eq (tgt := 435) hx hb dL_law_430 (by decide) (fun h_1 => ?_) (fun h_1 => absurd (hr3.trans (e1.symm.trans hr1.symm)) h_1)
  refine lv_iload hx hb dL_law_435 (lv_at hl 1 rfl) ?_
  refine iz_ne (tgt := 451) hx hb dL_law_437 (by decide) (fun _ => J3) (fun h_2 => ?_)
  have hz : thJ S n (xs (i + 1)) = 0 := hr1.symm.trans h_2
  have hf0 : f1 0 = rWx S n (xs (i + 1)) (xs (i + 2)) := by rw [hf1, if_pos hz]; exact if_pos rfl
  refine lv_aload_n hx hb dL_law_440 rfl (lv_at hl 3 rfl) ?_
  refine lv_iconst (v := 0) hx hb dL_law_441 (by decide) ?_
  refine ra_l (f := f1) hx hb hK1 hw.pO 0 0 rfl rfl 0 rfl (by decide) (by decide) dL_law_442 ?_
  refine lv_lload hx hb dL_law_443 (lv_at hl 0 rfl) ?_
  exact il_eq (tgt := 451) hx hb dL_law_445 dL_law_446 (by decide) (fun _ => J3) (fun h_3 => absurd (hf0.trans ((e2 hz).trans hr2.symm)) h_3)
