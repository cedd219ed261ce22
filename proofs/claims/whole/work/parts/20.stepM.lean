set_option maxRecDepth 20000 in
theorem iX3_step_X3 : ∀ w ∈ wsX30, w ∈ wsX3_step := by decide +kernel
set_option maxHeartbeats 1000000 in
set_option maxRecDepth 100000 in
theorem kX3_step (l : Launch) (D : va_G) (cm : Nat → ClassId) (b : Nat → Nat) (n : Nat) (M : MS) (sz : Nat) (p0 : Int32) (cur vo wa : Int64) (hn : n ≤ 24) (hf : cm_fc M + 1 < 2048) (hp : cm_many M ≤ 500) (hc : cm_many M + 2 * cm_cyc M ≤ 512) (he0 : ∀ j, j < n → okD 1026 (cm_es M j)) : Met l yX3_step wsX3_step ({ frames := 2, cells := 0, slots := 0, locals := 55 }) (va_Pc [.ref (b 0), .int p0, .long cur, .long vo, .long wa] (pM D cm b n M sz)) (va_Qi (fun r (u : MS) => r = rmStep M n p0 cur vo wa ∧ u = gmStep M n p0 cur vo wa) (eM D cm b n (va_A (wM cm b n M) sz)) (va_A (wM cm b n M) sz)) 0 0 (va_A (wM cm b n M) sz) := by
  refine Met.ofW (cc := cX3_step) (maxL := 16) (ret := (some .int)) (by decide) rfl ?_
  intro p e s m args below meth c s₁ B hml hv
  obtain ⟨rfl, hsz, hP, hK, hD0⟩ := hv
  have hx := B.exec
  have hb := B.bytes
  have hr := B.returns
  have hts := atoms_spec (ws := wsX3_step) B.pre
  have hown : s.vm.findClass RX3 = some m.cls := findClass_of_methodNamed B.named
  have hlocks := B.notSynchronized
  subst hsz
  have hD := hD0.self (sz := s.heap.size)
  generalize hAe : va_A (wM cm b n M) s.heap.size = A at hD ⊢
  have hA : ∀ q : Nat, s.heap.size ≤ q → A q := fun q h => by rw [← hAe]; exact Or.inr h
  have hS : va_S A s.heap s.heap [] := va_S.rf
  have hl := lv_entry ([.ref (b 0), .int p0, .long cur, .long vo, .long wa]) (n := 16) (Nat.le_of_ble_eq_true rfl)
  rw [lg_entry_eq]
  generalize (lg_sl ([.ref (b 0), .int p0, .long cur, .long vo, .long wa]) ++ List.replicate (16 - (lg_sl ([.ref (b 0), .int p0, .long cur, .long vo, .long wa])).length) Slot.unset).toArray = ls at hl ⊢
  have hl : lv_has ls 16 [(0, .ref (b 0)), (1, .int p0), (2, .long cur), (4, .long vo), (6, .long wa)] := hl
  have hc1 : cm_many M + 2 * cm_cyc M ≤ 513 := by omega
  refine lv_aload_n hx hb dX3_step_0 rfl (lv_at hl 0 rfl) ?_
  refine lv_iconst (v := 0) hx hb dX3_step_1 (by decide) ?_
  refine va_put (D := D) (ci := 4) (v := .int 0) (ty := .int) (C := RX3) (T := TX3) (N := 20) hx hb hts iX3_step_X3 tyX3 tyX3_ok nmX3 hown hK hP hD hS 0 rfl rfl 0 (by decide) (hts (.fieldLink RX3 73 "CellRows2Model" "thrown" "I") (by decide +kernel)) (fun _ h9 => h9) rfl (by decide +kernel) rfl rfl (Nat.le_of_ble_eq_true rfl) dX3_step_2 (fun H1 locs1 hP hD hS => ?_)
  have hP : va_P D vwCl (wM cm b n (cm_set_th M 0)) H1 := hP
  have hD : va_D A (wM cm b n (cm_set_th M 0)) := hD
  refine lv_lload_n hx hb dX3_step_5 rfl (lv_at hl 2 rfl) ?_
  refine lv_ldc2 hx hb hown (hts (.constantLong RX3 96 (-100000)) (by decide +kernel)) dX3_step_6 ?_
  refine il_lt (tgt := 55) hx hb dX3_step_9 dX3_step_10 (by decide) (fun h_2 => ?_) (fun h_2 => ?_)
  · have hout : ¬ mOutR cur vo wa = 0 := by simp only [mOutR, if_pos h_2]; decide
    refine lv_bipush (v := (-2)) hx hb dX3_step_55 (by decide) ?_
    exact W.iret (v := (-2)) hx hb hr (fun t ht hW => ⟨⟨(-2), (cm_set_th M 0), rfl, ⟨(by simp only [rmStep, gmStep, if_neg hout]), (by simp only [rmStep, gmStep, if_neg hout])⟩, by rw [ht]; exact hP, va_K.moved hW.alike hK, hD⟩, hS.F ht⟩) hS.2.2 dX3_step_57
  · refine lv_lload_n hx hb dX3_step_13 rfl (lv_at hl 2 rfl) ?_
    refine lv_ldc2 hx hb hown (hts (.constantLong RX3 41 (100000)) (by decide +kernel)) dX3_step_14 ?_
    refine il_gt (tgt := 55) hx hb dX3_step_17 dX3_step_18 (by decide) (fun h_3 => ?_) (fun h_3 => ?_)
    · have hout : ¬ mOutR cur vo wa = 0 := by simp only [mOutR, if_neg h_2, if_pos h_3]; decide
      refine lv_bipush (v := (-2)) hx hb dX3_step_55 (by decide) ?_
      exact W.iret (v := (-2)) hx hb hr (fun t ht hW => ⟨⟨(-2), (cm_set_th M 0), rfl, ⟨(by simp only [rmStep, gmStep, if_neg hout]), (by simp only [rmStep, gmStep, if_neg hout])⟩, by rw [ht]; exact hP, va_K.moved hW.alike hK, hD⟩, hS.F ht⟩) hS.2.2 dX3_step_57
    · refine lv_lload hx hb dX3_step_21 (lv_at hl 3 rfl) ?_
      refine lv_lconst (v := 0) hx hb dX3_step_23 (by decide) ?_
      refine il_lt (tgt := 55) hx hb dX3_step_24 dX3_step_25 (by decide) (fun h_4 => ?_) (fun h_4 => ?_)
      · have hout : ¬ mOutR cur vo wa = 0 := by simp only [mOutR, if_neg h_2, if_neg h_3, if_pos h_4]; decide
        refine lv_bipush (v := (-2)) hx hb dX3_step_55 (by decide) ?_
        exact W.iret (v := (-2)) hx hb hr (fun t ht hW => ⟨⟨(-2), (cm_set_th M 0), rfl, ⟨(by simp only [rmStep, gmStep, if_neg hout]), (by simp only [rmStep, gmStep, if_neg hout])⟩, by rw [ht]; exact hP, va_K.moved hW.alike hK, hD⟩, hS.F ht⟩) hS.2.2 dX3_step_57
      · refine lv_lload hx hb dX3_step_28 (lv_at hl 3 rfl) ?_
        refine lv_ldc2 hx hb hown (hts (.constantLong RX3 98 (10000)) (by decide +kernel)) dX3_step_30 ?_
        refine il_gt (tgt := 55) hx hb dX3_step_33 dX3_step_34 (by decide) (fun h_5 => ?_) (fun h_5 => ?_)
        · have hout : ¬ mOutR cur vo wa = 0 := by simp only [mOutR, if_neg h_2, if_neg h_3, if_neg h_4, if_pos h_5]; decide
          refine lv_bipush (v := (-2)) hx hb dX3_step_55 (by decide) ?_
          exact W.iret (v := (-2)) hx hb hr (fun t ht hW => ⟨⟨(-2), (cm_set_th M 0), rfl, ⟨(by simp only [rmStep, gmStep, if_neg hout]), (by simp only [rmStep, gmStep, if_neg hout])⟩, by rw [ht]; exact hP, va_K.moved hW.alike hK, hD⟩, hS.F ht⟩) hS.2.2 dX3_step_57
        · refine lv_lload hx hb dX3_step_37 (lv_at hl 4 rfl) ?_
          refine lv_ldc2 hx hb hown (hts (.constantLong RX3 100 (-1000)) (by decide +kernel)) dX3_step_39 ?_
          refine il_lt (tgt := 55) hx hb dX3_step_42 dX3_step_43 (by decide) (fun h_6 => ?_) (fun h_6 => ?_)
          · have hout : ¬ mOutR cur vo wa = 0 := by simp only [mOutR, if_neg h_2, if_neg h_3, if_neg h_4, if_neg h_5, if_pos h_6]; decide
            refine lv_bipush (v := (-2)) hx hb dX3_step_55 (by decide) ?_
            exact W.iret (v := (-2)) hx hb hr (fun t ht hW => ⟨⟨(-2), (cm_set_th M 0), rfl, ⟨(by simp only [rmStep, gmStep, if_neg hout]), (by simp only [rmStep, gmStep, if_neg hout])⟩, by rw [ht]; exact hP, va_K.moved hW.alike hK, hD⟩, hS.F ht⟩) hS.2.2 dX3_step_57
          · refine lv_lload hx hb dX3_step_46 (lv_at hl 4 rfl) ?_
            refine lv_ldc2 hx hb hown (hts (.constantLong RX3 102 (2000)) (by decide +kernel)) dX3_step_48 ?_
            refine il_le (tgt := 58) hx hb dX3_step_51 dX3_step_52 (by decide) (fun h_7 => ?_) (fun h_7 => ?_)
            · have hout : mOutR cur vo wa = 0 := by simp only [mOutR, if_neg h_2, if_neg h_3, if_neg h_4, if_neg h_5, if_neg h_6, if_neg h_7]
              refine lv_aload_n hx hb dX3_step_58 rfl (lv_at hl 0 rfl) ?_
              refine lv_aload_n hx hb dX3_step_59 rfl (lv_at hl 0 rfl) ?_
              refine lv_iload_n hx hb dX3_step_60 rfl (lv_at hl 1 rfl) ?_
              refine vp_callSi (W.runV (As := [.int p0]) (rest := [.ref (b 0)]) ⟨hx, hb, hml, hown, hts⟩ (kX3_noCell l D cm b n (cm_set_th M 0) H1.size p0 hn) (cwV 1 hts gX3_step_X3_noCell rfl rfl rfl (by decide +kernel) ⟨Nat.le_of_ble_eq_true rfl, Nat.le_of_ble_eq_true rfl⟩) ⟨pM_blind, va_recv hK hP (ci := 4) (q0 := 0) rfl rfl, fun U hU hW => ⟨rfl, pM_mk hP hK hD hU hW⟩⟩ rfl rfl hl.1 rfl (lv_room (Nat.le_of_ble_eq_true rfl)) dX3_step_61 ⟨Nat.le_of_ble_eq_true rfl, Nat.le_of_ble_eq_true rfl⟩) (fun r8 hr8 => ?_)
              obtain rfl : r8 = mNo n p0 := hr8
              refine iz_eq (tgt := 71) hx hb dX3_step_64 (by decide) (fun h_9 => ?_) (fun h_9 => ?_)
              · obtain ⟨j, e_ix⟩ := mNo_0 h_9
                obtain ⟨hj, rfl⟩ := ix_some e_ix
                have he := he0 j hj
                refine lv_iconst (v := 0) hx hb dX3_step_71 (by decide) ?_
                refine va_put (D := D) (ci := 4) (v := .int 0) (ty := .int) (C := RX3) (T := TX3) (N := 20) hx hb hts iX3_step_X3 tyX3 tyX3_ok nmX3 hown hK hP hD hS 0 rfl rfl 0 (by decide) (hts (.fieldLink RX3 73 "CellRows2Model" "thrown" "I") (by decide +kernel)) (fun _ h9 => h9) rfl (by decide +kernel) rfl rfl (Nat.le_of_ble_eq_true rfl) dX3_step_72 (fun H10 locs10 hP hD hS => ?_)
                have hP : va_P D vwCl (wM cm b n (cm_set_th M 0)) H10 := hP
                have hD : va_D A (wM cm b n (cm_set_th M 0)) := hD
                refine lv_aload_n hx hb dX3_step_75 rfl (lv_at hl 0 rfl) ?_
                refine va_get (D := D) (ci := 4) (v := .int 0) (C := RX3) (T := TX3) (N := 20) hx hb hts iX3_step_X3 hown hK hP 0 rfl rfl 0 (by decide) (hts (.fieldLink RX3 73 "CellRows2Model" "thrown" "I") (by decide +kernel)) (fun _ h9 => h9) rfl dX3_step_76 ?_
                refine iz_le (tgt := 84) hx hb dX3_step_79 (by decide) (fun h_11 => ?_) (fun h_11 => ?_)
                · refine W.joinH (P := fun (v9 : MS) (H' : Heap) (locs' : List Loc) => v9 = (if nI j = 0 then (if nI (cm_many M) = 0 then mPoint (cm_set_th M 0) (cm_ch M 0) else cm_set_th M 0) else cm_set_th M 0) ∧ va_P D vwCl (wM cm b n v9) H' ∧ va_D A (wM cm b n v9) ∧ va_S A s.heap H' locs') (g := fun _ => F0 m 105 ls []) (fun M2 H12 locs12 hj12 => ?_) (fun J12 => ?_)
                  · obtain ⟨hs_M2, hP, hD, hS⟩ := hj12
                    have hs2 : M2 = mS2 M j := hs_M2
                    obtain ⟨a1, a2, a3, a4, a5, a6, a7, a8, a9⟩ := mPre_ok (M := cm_set_th M 0) (j := j) hp
                    have b1 : cm_many M2 ≤ 500 := by rw [hs2]; exact a1
                    have b2 : cm_many M2 + 2 * cm_cyc M2 ≤ 513 := by rw [hs2]; refine Nat.le_trans a2 ?_; show cm_many M + 2 * cm_cyc M + 1 ≤ 513; omega
                    have b3 : cm_fc M2 = cm_fc M := by rw [hs2]; exact a3
                    have b8 : cm_es M2 = cm_es M := by rw [hs2]; exact a8
                    refine W.joinH (P := fun (v9 : MS) (H' : Heap) (locs' : List Loc) => v9 = (mUa M2 j vo) ∧ va_P D vwCl (wM cm b n v9) H' ∧ va_D A (wM cm b n v9) ∧ va_S A s.heap H' locs') (g := fun _ => F0 m 123 ls []) (fun M2a H16 locs16 hj16 => ?_) (fun J16 => ?_)
                    · obtain ⟨hs_M2a, hP, hD, hS⟩ := hj16
                      obtain ⟨ua1, ua2, ua3, ua4, ua5, ua6, ua7, ua8, -⟩ := mUa_k M2 j vo
                      rw [← hs_M2a] at ua1 ua2 ua3 ua4 ua5 ua6 ua7 ua8
                      refine W.joinH (P := fun (v9 : MS) (H' : Heap) (locs' : List Loc) => v9 = (mUb M2a j wa cur) ∧ va_P D vwCl (wM cm b n v9) H' ∧ va_D A (wM cm b n v9) ∧ va_S A s.heap H' locs') (g := fun _ => F0 m 162 ls []) (fun M2b H19 locs19 hj19 => ?_) (fun J19 => ?_)
                      · obtain ⟨hs_M2b, hP, hD, hS⟩ := hj19
                        obtain ⟨ub1, ub2, ub3, ub4, ub5, ub6, ub7, -⟩ := mUb_k M2a j wa cur
                        rw [← hs_M2b] at ub1 ub2 ub3 ub4 ub5 ub6 ub7
                        have hb_es : cm_es M2b = cm_es M := ub7.trans (ua7.trans b8)
                        have e2b : M2b = mS2b M j cur vo wa := by rw [hs_M2b, hs_M2a, hs2]; rfl
                        refine lv_aload_n hx hb dX3_step_162 rfl (lv_at hl 0 rfl) ?_
                        refine va_get (D := D) (ci := 4) (v := .ref (b 7)) (C := RX3) (T := TX3) (N := 20) hx hb hts iX3_step_X3 hown hK hP 0 rfl rfl 8 (by decide) (hts (.fieldLink RX3 43 "CellRows2Model" "limits" "[J") (by decide +kernel)) (fun _ h9 => h9) rfl dX3_step_163 ?_
                        refine lv_iconst (v := 5) hx hb dX3_step_166 (by decide) ?_
                        refine ra_l (f := (cm_lim M2b)) hx hb hK hP 7 6 rfl rfl 5 rfl (Nat.le_of_ble_eq_true rfl) (Nat.le_of_ble_eq_true rfl) dX3_step_167 ?_
                        refine lv_lstore (lv' := [(8, .long ((cm_lim M2b) 5)), (0, .ref (b 0)), (1, .int (nI j)), (2, .long cur), (4, .long vo), (6, .long wa)]) hx hb dX3_step_168 hl (by decide) rfl (fun ls hl => ?_)
                        refine lv_lload hx hb dX3_step_170 (lv_at hl 0 rfl) ?_
                        refine lv_lconst (v := 0) hx hb dX3_step_172 (by decide) ?_
                        refine W.join (P := fun v9 : UInt64 => v9 = sCnt (cm_es M2b j) cur (cm_lim M2b 5)) (g := fun v9 => F0 m 199 ls [.double v9]) (fun v24 hv24 => ?_) (fun J24 => ?_)
                        · subst hv24
                          refine vp_callSd (W.runS (As := [.double (sCnt (cm_es M2b j) cur (cm_lim M2b 5))]) (rest := []) ⟨hx, hb, hml, hown, hts⟩ (kX3_within l (sCnt (cm_es M2b j) cur (cm_lim M2b 5))) (va_cwS 1 hts gX3_step_X3_within rfl rfl rfl (by decide +kernel) ⟨Nat.le_of_ble_eq_true rfl, Nat.le_of_ble_eq_true rfl⟩) ⟨fun _ _ _ _ q => q, fun U hU hW => ⟨rfl, trivial⟩⟩ rfl rfl hl.1 rfl (lv_room (Nat.le_of_ble_eq_true rfl)) dX3_step_199 ⟨Nat.le_of_ble_eq_true rfl, Nat.le_of_ble_eq_true rfl⟩) (fun r26 hr26 => ?_)
                          obtain rfl : r26 = sWin (sCnt (cm_es M2b j) cur (cm_lim M2b 5)) := hr26
                          refine lv_dstore (lv' := [(10, .double (sWin (sCnt (cm_es M2b j) cur (cm_lim M2b 5)))), (8, .long ((cm_lim M2b) 5)), (0, .ref (b 0)), (1, .int (nI j)), (2, .long cur), (4, .long vo), (6, .long wa)]) hx hb dX3_step_202 hl (by decide) rfl (fun ls hl => ?_)
                          refine lv_lload hx hb dX3_step_204 (lv_at hl 5 rfl) ?_
                          refine lv_ldc2 hx hb hown (hts (.constantLong RX3 121 (3000)) (by decide +kernel)) dX3_step_206 ?_
                          refine lv_lsub hx hb dX3_step_209 ?_
                          refine lv_l2d hx hb dX3_step_210 ?_
                          refine lv_ldc2d hx hb hown (hts (.constantDouble RX3 123 (4652992471259676672)) (by decide +kernel)) dX3_step_211 ?_
                          refine lv_ddiv hx hb dX3_step_214 (okD_n64 (by omega) (okD_quo2 _)) ?_
                          refine vp_callSd (W.runS (As := [.double (FP.ddiv (FP.l2d (vo - 3000)) 4652992471259676672)]) (rest := []) ⟨hx, hb, hml, hown, hts⟩ (kX3_within l (FP.ddiv (FP.l2d (vo - 3000)) 4652992471259676672)) (va_cwS 1 hts gX3_step_X3_within rfl rfl rfl (by decide +kernel) ⟨Nat.le_of_ble_eq_true rfl, Nat.le_of_ble_eq_true rfl⟩) ⟨fun _ _ _ _ q => q, fun U hU hW => ⟨rfl, trivial⟩⟩ rfl rfl hl.1 rfl (lv_room (Nat.le_of_ble_eq_true rfl)) dX3_step_215 ⟨Nat.le_of_ble_eq_true rfl, Nat.le_of_ble_eq_true rfl⟩) (fun r27 hr27 => ?_)
                          obtain rfl : r27 = sTold vo := hr27
                          refine lv_dstore (lv' := [(12, .double (sTold vo)), (10, .double (sWin (sCnt (cm_es M2b j) cur (cm_lim M2b 5)))), (8, .long ((cm_lim M2b) 5)), (0, .ref (b 0)), (1, .int (nI j)), (2, .long cur), (4, .long vo), (6, .long wa)]) hx hb dX3_step_218 hl (by decide) rfl (fun ls hl => ?_)
                          refine lv_aload_n hx hb dX3_step_220 rfl (lv_at hl 3 rfl) ?_
                          refine va_get (D := D) (ci := 4) (v := .ref (b 2)) (C := RX3) (T := TX3) (N := 20) hx hb hts iX3_step_X3 hown hK hP 0 rfl rfl 3 (by decide) (hts (.fieldLink RX3 13 "CellRows2Model" "shares" "[D") (by decide +kernel)) (fun _ h9 => h9) rfl dX3_step_221 ?_
                          refine lv_iload_n hx hb dX3_step_224 rfl (lv_at hl 4 rfl) ?_
                          refine lv_dload hx hb dX3_step_225 (lv_at hl 1 rfl) ?_
                          refine lv_ldc2d hx hb hown (hts (.constantDouble RX3 125 (4589168020290535424)) (by decide +kernel)) dX3_step_227 ?_
                          refine lv_dload hx hb dX3_step_230 (lv_at hl 0 rfl) ?_
                          refine lv_dload hx hb dX3_step_232 (lv_at hl 1 rfl) ?_
                          refine lv_dsub hx hb dX3_step_234 (okD_n64 (by omega) (okD_dif (by rw [hb_es]; exact he) cur vo (cm_lim M2b 5))) ?_
                          refine lv_dmul hx hb dX3_step_235 (okD_n64 (by omega) (okD_mul (okD_dif (by rw [hb_es]; exact he) cur vo (cm_lim M2b 5)))) ?_
                          refine lv_dadd hx hb dX3_step_236 (okD_n64 (by omega) (okD_est (by rw [hb_es]; exact he) cur vo (cm_lim M2b 5))) ?_
                          refine rs_d (f := (cm_es M2b)) hx hb hK hP hD hS 2 1 rfl rfl j rfl (by omega) (Nat.le_of_ble_eq_true rfl) dX3_step_237 (fun H28 locs28 hP hD hS => ?_)
                          have hP : va_P D vwCl (wM cm b n (cm_set_es M2b (va_up (cm_es M2b) j (FP.dadd (sWin (sCnt (cm_es M2b j) cur (cm_lim M2b 5))) (FP.dmul 4589168020290535424 (FP.dsub (sTold vo) (sWin (sCnt (cm_es M2b j) cur (cm_lim M2b 5))))))))) H28 := hP
                          have hD : va_D A (wM cm b n (cm_set_es M2b (va_up (cm_es M2b) j (FP.dadd (sWin (sCnt (cm_es M2b j) cur (cm_lim M2b 5))) (FP.dmul 4589168020290535424 (FP.dsub (sTold vo) (sWin (sCnt (cm_es M2b j) cur (cm_lim M2b 5))))))))) := hD
                          refine W.join (P := fun v9 : Int32 => v9 = mBey M2b cur vo wa) (g := fun v9 => F0 m 293 ls [.int v9]) (fun v29 hv29 => ?_) (fun J29 => ?_)
                          · subst hv29
                            refine lv_istore (lv' := [(14, .int (mBey M2b cur vo wa)), (12, .double (sTold vo)), (10, .double (sWin (sCnt (cm_es M2b j) cur (cm_lim M2b 5)))), (8, .long ((cm_lim M2b) 5)), (0, .ref (b 0)), (1, .int (nI j)), (2, .long cur), (4, .long vo), (6, .long wa)]) hx hb dX3_step_293 hl (by decide) rfl (fun ls hl => ?_)
                            refine W.joinH (P := fun (v9 : MS) (H' : Heap) (locs' : List Loc) => v9 = (mUc M2b j cur vo wa) ∧ va_P D vwCl (wM cm b n v9) H' ∧ va_D A (wM cm b n v9) ∧ va_S A s.heap H' locs') (g := fun _ => F0 m 318 ls []) (fun M3 H35 locs35 hj35 => ?_) (fun J35 => ?_)
                            · obtain ⟨hs_M3, hP, hD, hS⟩ := hj35
                              obtain ⟨uc1, uc2, uc3, uc4, uc5, uc6, -⟩ := mUc_k M2b j cur vo wa
                              rw [← hs_M3] at uc1 uc2 uc3 uc4 uc5 uc6
                              have e3 : M3 = mS3 M j cur vo wa := by rw [hs_M3, e2b]; rfl
                              have c3 : cm_fc M3 = cm_fc M := by omega
                              refine lv_aload_n hx hb dX3_step_318 rfl (lv_at hl 4 rfl) ?_
                              refine va_get (D := D) (ci := 4) (v := .int (nI (cm_fc M3))) (C := RX3) (T := TX3) (N := 20) hx hb hts iX3_step_X3 hown hK hP 0 rfl rfl 14 (by decide) (hts (.fieldLink RX3 76 "CellRows2Model" "faultCount" "I") (by decide +kernel)) (fun _ h9 => h9) rfl dX3_step_319 ?_
                              refine lv_istore (lv' := [(15, .int (nI (cm_fc M3))), (14, .int (mBey M2b cur vo wa)), (12, .double (sTold vo)), (10, .double (sWin (sCnt (cm_es M2b j) cur (cm_lim M2b 5)))), (8, .long ((cm_lim M2b) 5)), (0, .ref (b 0)), (1, .int (nI j)), (2, .long cur), (4, .long vo), (6, .long wa)]) hx hb dX3_step_322 hl (by decide) rfl (fun ls hl => ?_)
                              refine W.joinH (P := fun (v9 : MS) (H' : Heap) (locs' : List Loc) => v9 = (mF1 M3 j (mBey M2b cur vo wa)) ∧ va_P D vwCl (wM cm b n v9) H' ∧ va_D A (wM cm b n v9) ∧ va_S A s.heap H' locs') (g := fun _ => F0 m 345 ls []) (fun M4 H39 locs39 hj39 => ?_) (fun J39 => ?_)
                              · obtain ⟨hs_M4, hP, hD, hS⟩ := hj39
                                obtain ⟨-, fa0, fa1, fa2, -⟩ := mF1_k M3 j (mBey M2b cur vo wa)
                                rw [← hs_M4] at fa0 fa1 fa2
                                have e4 : M4 = mS4 M j cur vo wa := by rw [hs_M4, e3, e2b]; rfl
                                refine W.joinH (P := fun (v9 : MS) (H' : Heap) (locs' : List Loc) => v9 = (mF2 M4 j (cm_lim M2b 5)) ∧ va_P D vwCl (wM cm b n v9) H' ∧ va_D A (wM cm b n v9) ∧ va_S A s.heap H' locs') (g := fun _ => F0 m 373 ls []) (fun M5 H43 locs43 hj43 => ?_) (fun J43 => ?_)
                                · obtain ⟨hs_M5, hP, hD, hS⟩ := hj43
                                  obtain ⟨-, fb0, fb1, fb2, -⟩ := mF2_k M4 j (cm_lim M2b 5)
                                  rw [← hs_M5] at fb0 fb1 fb2
                                  have e5 : M5 = mS5 M j cur vo wa := by rw [hs_M5, e4, e2b]; rfl
                                  refine W.joinH (P := fun (v9 : MS) (H' : Heap) (locs' : List Loc) => v9 = (mPost M5 j) ∧ va_P D vwCl (wM cm b n v9) H' ∧ va_D A (wM cm b n v9) ∧ va_S A s.heap H' locs') (g := fun _ => F0 m 387 ls []) (fun M6 H48 locs48 hj48 => ?_) (fun J48 => ?_)
                                  · obtain ⟨hs_M6, hP, hD, hS⟩ := hj48
                                    have e6 : M6 = mS6 M j cur vo wa := by rw [hs_M6, e5]; rfl
                                    refine lv_aload_n hx hb dX3_step_387 rfl (lv_at hl 5 rfl) ?_
                                    refine va_get (D := D) (ci := 4) (v := .int (nI (cm_fc M6))) (C := RX3) (T := TX3) (N := 20) hx hb hts iX3_step_X3 hown hK hP 0 rfl rfl 14 (by decide) (hts (.fieldLink RX3 76 "CellRows2Model" "faultCount" "I") (by decide +kernel)) (fun _ h9 => h9) rfl dX3_step_388 ?_
                                    refine lv_iload hx hb dX3_step_391 (lv_at hl 0 rfl) ?_
                                    refine ib_le (tgt := 400) hx hb dX3_step_393 (by decide) (fun h_51 => ?_) (fun h_51 => ?_)
                                    · refine lv_iload hx hb dX3_step_400 (lv_at hl 1 rfl) ?_
                                      refine iz_eq (tgt := 409) hx hb dX3_step_402 (by decide) (fun h_52 => ?_) (fun h_52 => ?_)
                                      · refine lv_iconst (v := 0) hx hb dX3_step_409 (by decide) ?_
                                        exact W.iret (v := 0) hx hb hr (fun t ht hW => ⟨⟨0, M6, rfl, ⟨(by first | (simp only [gmStep, if_pos hout, e_ix, Option.elim_some]; exact e6) | (simp only [rmStep, if_pos hout, e_ix, Option.elim_some, mR6]; rw [← e3, ← e6, ← e2b]; simp only [if_pos hout, if_pos h_9, e_ix, Option.elim_some, if_neg h_11, if_neg h_51, if_pos h_52])), (by first | (simp only [gmStep, if_pos hout, e_ix, Option.elim_some]; exact e6) | (simp only [rmStep, if_pos hout, e_ix, Option.elim_some, mR6]; rw [← e3, ← e6, ← e2b]; simp only [if_pos hout, if_pos h_9, e_ix, Option.elim_some, if_neg h_11, if_neg h_51, if_pos h_52]))⟩, by rw [ht]; exact hP, va_K.moved hW.alike hK, hD⟩, hS.F ht⟩) hS.2.2 dX3_step_410
                                      · refine lv_iconst (v := 1) hx hb dX3_step_405 (by decide) ?_
                                        refine lv_goto (tgt := 410) hx hb dX3_step_406 (by decide) ?_
                                        exact W.iret (v := 1) hx hb hr (fun t ht hW => ⟨⟨1, M6, rfl, ⟨(by first | (simp only [gmStep, if_pos hout, e_ix, Option.elim_some]; exact e6) | (simp only [rmStep, if_pos hout, e_ix, Option.elim_some, mR6]; rw [← e3, ← e6, ← e2b]; simp only [if_pos hout, if_pos h_9, e_ix, Option.elim_some, if_neg h_11, if_neg h_51, if_neg h_52])), (by first | (simp only [gmStep, if_pos hout, e_ix, Option.elim_some]; exact e6) | (simp only [rmStep, if_pos hout, e_ix, Option.elim_some, mR6]; rw [← e3, ← e6, ← e2b]; simp only [if_pos hout, if_pos h_9, e_ix, Option.elim_some, if_neg h_11, if_neg h_51, if_neg h_52]))⟩, by rw [ht]; exact hP, va_K.moved hW.alike hK, hD⟩, hS.F ht⟩) hS.2.2 dX3_step_410
                                    · refine lv_iconst (v := 2) hx hb dX3_step_396 (by decide) ?_
                                      refine lv_goto (tgt := 410) hx hb dX3_step_397 (by decide) ?_
                                      exact W.iret (v := 2) hx hb hr (fun t ht hW => ⟨⟨2, M6, rfl, ⟨(by first | (simp only [gmStep, if_pos hout, e_ix, Option.elim_some]; exact e6) | (simp only [rmStep, if_pos hout, e_ix, Option.elim_some, mR6]; rw [← e3, ← e6, ← e2b]; simp only [if_pos hout, if_pos h_9, e_ix, Option.elim_some, if_neg h_11, if_pos h_51])), (by first | (simp only [gmStep, if_pos hout, e_ix, Option.elim_some]; exact e6) | (simp only [rmStep, if_pos hout, e_ix, Option.elim_some, mR6]; rw [← e3, ← e6, ← e2b]; simp only [if_pos hout, if_pos h_9, e_ix, Option.elim_some, if_neg h_11, if_pos h_51]))⟩, by rw [ht]; exact hP, va_K.moved hW.alike hK, hD⟩, hS.F ht⟩) hS.2.2 dX3_step_410
                                  · refine lv_iload_n hx hb dX3_step_373 rfl (lv_at hl 6 rfl) ?_
                                    refine iz_ne (tgt := 387) hx hb dX3_step_374 (by decide) (fun h_49 => ?_) (fun h_49 => ?_)
                                    · exact J48 M5 _ _ ⟨by first | rfl | (simp only [mPost, if_pos hout, if_pos h_9, e_ix, Option.elim_some, if_neg h_11, if_neg h_49]), hP, hD, hS⟩
                                    · refine lv_aload_n hx hb dX3_step_377 rfl (lv_at hl 5 rfl) ?_
                                      refine lv_aload_n hx hb dX3_step_378 rfl (lv_at hl 5 rfl) ?_
                                      refine va_get (D := D) (ci := 4) (v := .ref (b 1)) (C := RX3) (T := TX3) (N := 20) hx hb hts iX3_step_X3 hown hK hP 0 rfl rfl 2 (by decide) (hts (.fieldLink RX3 7 "CellRows2Model" "charges" "[J") (by decide +kernel)) (fun _ h9 => h9) rfl dX3_step_379 ?_
                                      refine lv_iconst (v := 0) hx hb dX3_step_382 (by decide) ?_
                                      refine ra_l (f := (cm_ch M5)) hx hb hK hP 1 0 rfl rfl 0 rfl (Nat.le_of_ble_eq_true rfl) (Nat.le_of_ble_eq_true rfl) dX3_step_383 ?_
                                      have hSo := hS
                                      refine va_callv (va_runV (As := [.long ((cm_ch M5) 0)]) (rest := []) ⟨hx, hb, hml, hown, hts⟩ (kX3_point l D cm b n M5 H43.size ((cm_ch M5) 0) (by first | assumption | omega) (by first | assumption | omega)) (cwV 1 hts gX3_step_X3_point rfl rfl rfl (by decide +kernel) ⟨Nat.le_of_ble_eq_true rfl, Nat.le_of_ble_eq_true rfl⟩) ⟨pM_blind, va_recv hK hP (ci := 4) (q0 := 0) rfl rfl, fun U hU hW => ⟨rfl, pM_mk hP hK hD hU hW⟩⟩ rfl rfl hl.1 rfl (lv_room (Nat.le_of_ble_eq_true rfl)) dX3_step_384 ⟨Nat.le_of_ble_eq_true rfl, Nat.le_of_ble_eq_true rfl⟩) hS (fun q _ h => freeAll hD hS hA q h) (freeAll hD hS hA) (fun u50 t50 H50 locs50 ht hvm hw hB hz1 hk1 hS => ?_)
                                      obtain ⟨hP1, hK1, hD1⟩ := hB
                                      rw [ht] at hP1
                                      have hK := va_K.moved hvm.symm hK1
                                      obtain rfl : u50 = mPoint M5 ((cm_ch M5) 0) := hw
                                      have hD := hD1.weaken (fun _ q _ h => freeAll hD hSo hA q.1 h)
                                      have hP := hP1
                                      exact J48 (mPoint M5 ((cm_ch M5) 0)) _ _ ⟨by first | rfl | (simp only [mPost, if_pos hout, if_pos h_9, e_ix, Option.elim_some, if_neg h_11, if_pos h_49]), hP, hD, hS⟩
                                · refine lv_aload_n hx hb dX3_step_345 rfl (lv_at hl 5 rfl) ?_
                                  refine va_get (D := D) (ci := 4) (v := .ref (b 1)) (C := RX3) (T := TX3) (N := 20) hx hb hts iX3_step_X3 hown hK hP 0 rfl rfl 2 (by decide) (hts (.fieldLink RX3 7 "CellRows2Model" "charges" "[J") (by decide +kernel)) (fun _ h9 => h9) rfl dX3_step_346 ?_
                                  refine lv_iload_n hx hb dX3_step_349 rfl (lv_at hl 6 rfl) ?_
                                  refine ra_l (f := (cm_ch M4)) hx hb hK hP 1 0 rfl rfl j rfl (by omega) (Nat.le_of_ble_eq_true rfl) dX3_step_350 ?_
                                  refine lv_lconst (v := 0) hx hb dX3_step_351 (by decide) ?_
                                  refine il_lt (tgt := 368) hx hb dX3_step_352 dX3_step_353 (by decide) (fun h_44 => ?_) (fun h_44 => ?_)
                                  · refine lv_aload_n hx hb dX3_step_368 rfl (lv_at hl 5 rfl) ?_
                                    refine lv_iconst (v := 2) hx hb dX3_step_369 (by decide) ?_
                                    have hSo := hS
                                    refine va_callv (va_runV (As := [.int 2]) (rest := []) ⟨hx, hb, hml, hown, hts⟩ (kX3_fails l D cm b n M4 H39.size 2 (by first | assumption | omega)) (cwV 1 hts gX3_step_X3_fails rfl rfl rfl (by decide +kernel) ⟨Nat.le_of_ble_eq_true rfl, Nat.le_of_ble_eq_true rfl⟩) ⟨pM_blind, va_recv hK hP (ci := 4) (q0 := 0) rfl rfl, fun U hU hW => ⟨rfl, pM_mk hP hK hD hU hW⟩⟩ rfl rfl hl.1 rfl (lv_room (Nat.le_of_ble_eq_true rfl)) dX3_step_370 ⟨Nat.le_of_ble_eq_true rfl, Nat.le_of_ble_eq_true rfl⟩) hS (fun q _ h => freeAll hD hS hA q h) (freeAll hD hS hA) (fun u45 t45 H45 locs45 ht hvm hw hB hz1 hk1 hS => ?_)
                                    obtain ⟨hP1, hK1, hD1⟩ := hB
                                    rw [ht] at hP1
                                    have hK := va_K.moved hvm.symm hK1
                                    obtain rfl : u45 = mNote M4 2 := hw
                                    have hD := hD1.weaken (fun _ q _ h => freeAll hD hSo hA q.1 h)
                                    have hP := hP1
                                    exact J43 (mNote M4 2) _ _ ⟨by first | rfl | (simp only [mF2, if_pos hout, if_pos h_9, e_ix, Option.elim_some, if_neg h_11, if_pos h_44]), hP, hD, hS⟩
                                  · refine lv_aload_n hx hb dX3_step_356 rfl (lv_at hl 5 rfl) ?_
                                    refine va_get (D := D) (ci := 4) (v := .ref (b 1)) (C := RX3) (T := TX3) (N := 20) hx hb hts iX3_step_X3 hown hK hP 0 rfl rfl 2 (by decide) (hts (.fieldLink RX3 7 "CellRows2Model" "charges" "[J") (by decide +kernel)) (fun _ h9 => h9) rfl dX3_step_357 ?_
                                    refine lv_iload_n hx hb dX3_step_360 rfl (lv_at hl 6 rfl) ?_
                                    refine ra_l (f := (cm_ch M4)) hx hb hK hP 1 0 rfl rfl j rfl (by omega) (Nat.le_of_ble_eq_true rfl) dX3_step_361 ?_
                                    refine lv_lload hx hb dX3_step_362 (lv_at hl 4 rfl) ?_
                                    refine il_le (tgt := 373) hx hb dX3_step_364 dX3_step_365 (by decide) (fun h_46 => ?_) (fun h_46 => ?_)
                                    · exact J43 M4 _ _ ⟨by first | rfl | (simp only [mF2, if_pos hout, if_pos h_9, e_ix, Option.elim_some, if_neg h_11, if_neg h_44, if_neg h_46]), hP, hD, hS⟩
                                    · refine lv_aload_n hx hb dX3_step_368 rfl (lv_at hl 5 rfl) ?_
                                      refine lv_iconst (v := 2) hx hb dX3_step_369 (by decide) ?_
                                      have hSo := hS
                                      refine va_callv (va_runV (As := [.int 2]) (rest := []) ⟨hx, hb, hml, hown, hts⟩ (kX3_fails l D cm b n M4 H39.size 2 (by first | assumption | omega)) (cwV 1 hts gX3_step_X3_fails rfl rfl rfl (by decide +kernel) ⟨Nat.le_of_ble_eq_true rfl, Nat.le_of_ble_eq_true rfl⟩) ⟨pM_blind, va_recv hK hP (ci := 4) (q0 := 0) rfl rfl, fun U hU hW => ⟨rfl, pM_mk hP hK hD hU hW⟩⟩ rfl rfl hl.1 rfl (lv_room (Nat.le_of_ble_eq_true rfl)) dX3_step_370 ⟨Nat.le_of_ble_eq_true rfl, Nat.le_of_ble_eq_true rfl⟩) hS (fun q _ h => freeAll hD hS hA q h) (freeAll hD hS hA) (fun u47 t47 H47 locs47 ht hvm hw hB hz1 hk1 hS => ?_)
                                      obtain ⟨hP1, hK1, hD1⟩ := hB
                                      rw [ht] at hP1
                                      have hK := va_K.moved hvm.symm hK1
                                      obtain rfl : u47 = mNote M4 2 := hw
                                      have hD := hD1.weaken (fun _ q _ h => freeAll hD hSo hA q.1 h)
                                      have hP := hP1
                                      exact J43 (mNote M4 2) _ _ ⟨by first | rfl | (simp only [mF2, if_pos hout, if_pos h_9, e_ix, Option.elim_some, if_neg h_11, if_neg h_44, if_pos h_46]), hP, hD, hS⟩
                              · refine lv_iload hx hb dX3_step_324 (lv_at hl 1 rfl) ?_
                                refine iz_eq (tgt := 345) hx hb dX3_step_326 (by decide) (fun h_40 => ?_) (fun h_40 => ?_)
                                · exact J39 M3 _ _ ⟨by first | rfl | (simp only [mF1, if_pos hout, if_pos h_9, e_ix, Option.elim_some, if_neg h_11, if_pos h_40]), hP, hD, hS⟩
                                · refine lv_aload_n hx hb dX3_step_329 rfl (lv_at hl 5 rfl) ?_
                                  refine va_get (D := D) (ci := 4) (v := .ref (b 5)) (C := RX3) (T := TX3) (N := 20) hx hb hts iX3_step_X3 hown hK hP 0 rfl rfl 6 (by decide) (hts (.fieldLink RX3 23 "CellRows2Model" "beyonds" "[I") (by decide +kernel)) (fun _ h9 => h9) rfl dX3_step_330 ?_
                                  refine lv_iload_n hx hb dX3_step_333 rfl (lv_at hl 6 rfl) ?_
                                  refine ra_i (f := (cm_be M3)) hx hb hK hP 5 4 rfl rfl j rfl (by omega) (Nat.le_of_ble_eq_true rfl) dX3_step_334 ?_
                                  refine lv_iconst (v := 2) hx hb dX3_step_335 (by decide) ?_
                                  refine lv_irem hx hb dX3_step_336 (by decide) ?_
                                  refine iz_ne (tgt := 345) hx hb dX3_step_337 (by decide) (fun h_41 => ?_) (fun h_41 => ?_)
                                  · exact J39 M3 _ _ ⟨by first | rfl | (simp only [mF1, if_pos hout, if_pos h_9, e_ix, Option.elim_some, if_neg h_11, if_neg h_40, if_neg h_41]), hP, hD, hS⟩
                                  · refine lv_aload_n hx hb dX3_step_340 rfl (lv_at hl 5 rfl) ?_
                                    refine lv_iconst (v := 1) hx hb dX3_step_341 (by decide) ?_
                                    have hSo := hS
                                    refine va_callv (va_runV (As := [.int 1]) (rest := []) ⟨hx, hb, hml, hown, hts⟩ (kX3_fails l D cm b n M3 H35.size 1 (by first | assumption | omega)) (cwV 1 hts gX3_step_X3_fails rfl rfl rfl (by decide +kernel) ⟨Nat.le_of_ble_eq_true rfl, Nat.le_of_ble_eq_true rfl⟩) ⟨pM_blind, va_recv hK hP (ci := 4) (q0 := 0) rfl rfl, fun U hU hW => ⟨rfl, pM_mk hP hK hD hU hW⟩⟩ rfl rfl hl.1 rfl (lv_room (Nat.le_of_ble_eq_true rfl)) dX3_step_342 ⟨Nat.le_of_ble_eq_true rfl, Nat.le_of_ble_eq_true rfl⟩) hS (fun q _ h => freeAll hD hS hA q h) (freeAll hD hS hA) (fun u42 t42 H42 locs42 ht hvm hw hB hz1 hk1 hS => ?_)
                                    obtain ⟨hP1, hK1, hD1⟩ := hB
                                    rw [ht] at hP1
                                    have hK := va_K.moved hvm.symm hK1
                                    obtain rfl : u42 = mNote M3 1 := hw
                                    have hD := hD1.weaken (fun _ q _ h => freeAll hD hSo hA q.1 h)
                                    have hP := hP1
                                    exact J39 (mNote M3 1) _ _ ⟨by first | rfl | (simp only [mF1, if_pos hout, if_pos h_9, e_ix, Option.elim_some, if_neg h_11, if_neg h_40, if_pos h_41]), hP, hD, hS⟩
                            · refine lv_aload_n hx hb dX3_step_295 rfl (lv_at hl 4 rfl) ?_
                              refine va_get (D := D) (ci := 4) (v := .ref (b 5)) (C := RX3) (T := TX3) (N := 20) hx hb hts iX3_step_X3 hown hK hP 0 rfl rfl 6 (by decide) (hts (.fieldLink RX3 23 "CellRows2Model" "beyonds" "[I") (by decide +kernel)) (fun _ h9 => h9) rfl dX3_step_296 ?_
                              refine lv_iload_n hx hb dX3_step_299 rfl (lv_at hl 5 rfl) ?_
                              refine lv_iload hx hb dX3_step_300 (lv_at hl 0 rfl) ?_
                              refine W.join (P := fun v9 : Int32 => v9 = if mBey M2b cur vo wa = 0 then 0 else ((cm_be M2b) j) + 1) (g := fun v9 => F0 m 317 ls [.int v9, .int (nI j), .ref (b 5)]) (fun v36 hv36 => ?_) (fun J36 => ?_)
                              · subst hv36
                                refine rs_i (f := (cm_be M2b)) hx hb hK hP hD hS 5 4 rfl rfl j rfl (by omega) (Nat.le_of_ble_eq_true rfl) dX3_step_317 (fun H38 locs38 hP hD hS => ?_)
                                have hP : va_P D vwCl (wM cm b n (cm_set_be (cm_set_es M2b (va_up (cm_es M2b) j (FP.dadd (sWin (sCnt (cm_es M2b j) cur (cm_lim M2b 5))) (FP.dmul 4589168020290535424 (FP.dsub (sTold vo) (sWin (sCnt (cm_es M2b j) cur (cm_lim M2b 5)))))))) (va_up (cm_be M2b) j (if mBey M2b cur vo wa = 0 then 0 else ((cm_be M2b) j) + 1)))) H38 := hP
                                have hD : va_D A (wM cm b n (cm_set_be (cm_set_es M2b (va_up (cm_es M2b) j (FP.dadd (sWin (sCnt (cm_es M2b j) cur (cm_lim M2b 5))) (FP.dmul 4589168020290535424 (FP.dsub (sTold vo) (sWin (sCnt (cm_es M2b j) cur (cm_lim M2b 5)))))))) (va_up (cm_be M2b) j (if mBey M2b cur vo wa = 0 then 0 else ((cm_be M2b) j) + 1)))) := hD
                                exact J35 (cm_set_be (cm_set_es M2b (va_up (cm_es M2b) j (FP.dadd (sWin (sCnt (cm_es M2b j) cur (cm_lim M2b 5))) (FP.dmul 4589168020290535424 (FP.dsub (sTold vo) (sWin (sCnt (cm_es M2b j) cur (cm_lim M2b 5)))))))) (va_up (cm_be M2b) j (if mBey M2b cur vo wa = 0 then 0 else ((cm_be M2b) j) + 1))) _ _ ⟨by first | rfl | (simp only [mUc, sEst, if_pos hout, if_pos h_9, e_ix, Option.elim_some, if_neg h_11]), hP, hD, hS⟩
                              · refine iz_eq (tgt := 316) hx hb dX3_step_302 (by decide) (fun h_37 => ?_) (fun h_37 => ?_)
                                · refine lv_iconst (v := 0) hx hb dX3_step_316 (by decide) ?_
                                  exact J36 _ (by simp only [if_pos h_37])
                                · refine lv_aload_n hx hb dX3_step_305 rfl (lv_at hl 4 rfl) ?_
                                  refine va_get (D := D) (ci := 4) (v := .ref (b 5)) (C := RX3) (T := TX3) (N := 20) hx hb hts iX3_step_X3 hown hK hP 0 rfl rfl 6 (by decide) (hts (.fieldLink RX3 23 "CellRows2Model" "beyonds" "[I") (by decide +kernel)) (fun _ h9 => h9) rfl dX3_step_306 ?_
                                  refine lv_iload_n hx hb dX3_step_309 rfl (lv_at hl 5 rfl) ?_
                                  refine ra_i (f := (cm_be M2b)) hx hb hK hP 5 4 rfl rfl j rfl (by omega) (Nat.le_of_ble_eq_true rfl) dX3_step_310 ?_
                                  refine lv_iconst (v := 1) hx hb dX3_step_311 (by decide) ?_
                                  refine lv_iadd hx hb dX3_step_312 ?_
                                  refine lv_goto (tgt := 317) hx hb dX3_step_313 (by decide) ?_
                                  exact J36 _ (by simp only [if_neg h_37])
                          · refine lv_lload hx hb dX3_step_238 (lv_at hl 6 rfl) ?_
                            refine lv_aload_n hx hb dX3_step_240 rfl (lv_at hl 3 rfl) ?_
                            refine va_get (D := D) (ci := 4) (v := .ref (b 7)) (C := RX3) (T := TX3) (N := 20) hx hb hts iX3_step_X3 hown hK hP 0 rfl rfl 8 (by decide) (hts (.fieldLink RX3 43 "CellRows2Model" "limits" "[J") (by decide +kernel)) (fun _ h9 => h9) rfl dX3_step_241 ?_
                            refine lv_iconst (v := 0) hx hb dX3_step_244 (by decide) ?_
                            refine ra_l (f := (cm_lim M2b)) hx hb hK hP 7 6 rfl rfl 0 rfl (Nat.le_of_ble_eq_true rfl) (Nat.le_of_ble_eq_true rfl) dX3_step_245 ?_
                            refine il_lt (tgt := 288) hx hb dX3_step_246 dX3_step_247 (by decide) (fun h_30 => ?_) (fun h_30 => ?_)
                            · refine lv_iconst (v := 1) hx hb dX3_step_288 (by decide) ?_
                              refine lv_goto (tgt := 293) hx hb dX3_step_289 (by decide) ?_
                              exact J29 _ (by simp only [mBey, if_pos h_30])
                            · refine lv_lload hx hb dX3_step_250 (lv_at hl 6 rfl) ?_
                              refine lv_aload_n hx hb dX3_step_252 rfl (lv_at hl 3 rfl) ?_
                              refine va_get (D := D) (ci := 4) (v := .ref (b 7)) (C := RX3) (T := TX3) (N := 20) hx hb hts iX3_step_X3 hown hK hP 0 rfl rfl 8 (by decide) (hts (.fieldLink RX3 43 "CellRows2Model" "limits" "[J") (by decide +kernel)) (fun _ h9 => h9) rfl dX3_step_253 ?_
                              refine lv_iconst (v := 1) hx hb dX3_step_256 (by decide) ?_
                              refine ra_l (f := (cm_lim M2b)) hx hb hK hP 7 6 rfl rfl 1 rfl (Nat.le_of_ble_eq_true rfl) (Nat.le_of_ble_eq_true rfl) dX3_step_257 ?_
                              refine il_gt (tgt := 288) hx hb dX3_step_258 dX3_step_259 (by decide) (fun h_31 => ?_) (fun h_31 => ?_)
                              · refine lv_iconst (v := 1) hx hb dX3_step_288 (by decide) ?_
                                refine lv_goto (tgt := 293) hx hb dX3_step_289 (by decide) ?_
                                exact J29 _ (by simp only [mBey, if_neg h_30, if_pos h_31])
                              · refine lv_lload hx hb dX3_step_262 (lv_at hl 7 rfl) ?_
                                refine lv_aload_n hx hb dX3_step_264 rfl (lv_at hl 3 rfl) ?_
                                refine va_get (D := D) (ci := 4) (v := .ref (b 7)) (C := RX3) (T := TX3) (N := 20) hx hb hts iX3_step_X3 hown hK hP 0 rfl rfl 8 (by decide) (hts (.fieldLink RX3 43 "CellRows2Model" "limits" "[J") (by decide +kernel)) (fun _ h9 => h9) rfl dX3_step_265 ?_
                                refine lv_iconst (v := 2) hx hb dX3_step_268 (by decide) ?_
                                refine ra_l (f := (cm_lim M2b)) hx hb hK hP 7 6 rfl rfl 2 rfl (Nat.le_of_ble_eq_true rfl) (Nat.le_of_ble_eq_true rfl) dX3_step_269 ?_
                                refine il_gt (tgt := 288) hx hb dX3_step_270 dX3_step_271 (by decide) (fun h_32 => ?_) (fun h_32 => ?_)
                                · refine lv_iconst (v := 1) hx hb dX3_step_288 (by decide) ?_
                                  refine lv_goto (tgt := 293) hx hb dX3_step_289 (by decide) ?_
                                  exact J29 _ (by simp only [mBey, if_neg h_30, if_neg h_31, if_pos h_32])
                                · refine lv_lload_n hx hb dX3_step_274 rfl (lv_at hl 5 rfl) ?_
                                  refine vp_callSl (W.runS (As := [.long cur]) (rest := []) ⟨hx, hb, hml, hown, hts⟩ (kX3_size l cur) (va_cwS 1 hts gX3_step_X3_size rfl rfl rfl (by decide +kernel) ⟨Nat.le_of_ble_eq_true rfl, Nat.le_of_ble_eq_true rfl⟩) ⟨fun _ _ _ _ q => q, fun U hU hW => ⟨rfl, trivial⟩⟩ rfl rfl hl.1 rfl (lv_room (Nat.le_of_ble_eq_true rfl)) dX3_step_275 ⟨Nat.le_of_ble_eq_true rfl, Nat.le_of_ble_eq_true rfl⟩) (fun r33 hr33 => ?_)
                                  obtain rfl : r33 = mSz cur := hr33
                                  refine lv_aload_n hx hb dX3_step_278 rfl (lv_at hl 3 rfl) ?_
                                  refine va_get (D := D) (ci := 4) (v := .ref (b 7)) (C := RX3) (T := TX3) (N := 20) hx hb hts iX3_step_X3 hown hK hP 0 rfl rfl 8 (by decide) (hts (.fieldLink RX3 43 "CellRows2Model" "limits" "[J") (by decide +kernel)) (fun _ h9 => h9) rfl dX3_step_279 ?_
                                  refine lv_iconst (v := 3) hx hb dX3_step_282 (by decide) ?_
                                  refine ra_l (f := (cm_lim M2b)) hx hb hK hP 7 6 rfl rfl 3 rfl (Nat.le_of_ble_eq_true rfl) (Nat.le_of_ble_eq_true rfl) dX3_step_283 ?_
                                  refine il_le (tgt := 292) hx hb dX3_step_284 dX3_step_285 (by decide) (fun h_34 => ?_) (fun h_34 => ?_)
                                  · refine lv_iconst (v := 0) hx hb dX3_step_292 (by decide) ?_
                                    exact J29 _ (by simp only [mBey, if_neg h_30, if_neg h_31, if_neg h_32, if_neg h_34])
                                  · refine lv_iconst (v := 1) hx hb dX3_step_288 (by decide) ?_
                                    refine lv_goto (tgt := 293) hx hb dX3_step_289 (by decide) ?_
                                    exact J29 _ (by simp only [mBey, if_neg h_30, if_neg h_31, if_neg h_32, if_pos h_34])
                        · refine il_ne (tgt := 186) hx hb dX3_step_173 dX3_step_174 (by decide) (fun h_25 => ?_) (fun h_25 => ?_)
                          · have h_cap : ¬ cm_lim M2b 5 = 0 := h_25
                            refine lv_aload_n hx hb dX3_step_186 rfl (lv_at hl 1 rfl) ?_
                            refine va_get (D := D) (ci := 4) (v := .ref (b 2)) (C := RX3) (T := TX3) (N := 20) hx hb hts iX3_step_X3 hown hK hP 0 rfl rfl 3 (by decide) (hts (.fieldLink RX3 13 "CellRows2Model" "shares" "[D") (by decide +kernel)) (fun _ h9 => h9) rfl dX3_step_187 ?_
                            refine lv_iload_n hx hb dX3_step_190 rfl (lv_at hl 2 rfl) ?_
                            refine ra_d (f := (cm_es M2b)) hx hb hK hP 2 1 rfl rfl j rfl (by omega) (Nat.le_of_ble_eq_true rfl) dX3_step_191 ?_
                            refine lv_lload_n hx hb dX3_step_192 rfl (lv_at hl 3 rfl) ?_
                            refine lv_l2d hx hb dX3_step_193 ?_
                            refine lv_lload hx hb dX3_step_194 (lv_at hl 0 rfl) ?_
                            refine lv_l2d hx hb dX3_step_196 ?_
                            refine lv_ddiv hx hb dX3_step_197 (okD_n64 (by omega) (okD_quo h_cap)) ?_
                            refine lv_dadd hx hb dX3_step_198 (okD_n64 (by omega) (okD_add (K := 1089) (by omega) (okD_mono (by rw [hb_es]; exact he) (by omega)) (okD_quo h_cap))) ?_
                            exact J24 _ (by simp only [sCnt, if_neg h_25])
                          · refine lv_aload_n hx hb dX3_step_177 rfl (lv_at hl 1 rfl) ?_
                            refine va_get (D := D) (ci := 4) (v := .ref (b 2)) (C := RX3) (T := TX3) (N := 20) hx hb hts iX3_step_X3 hown hK hP 0 rfl rfl 3 (by decide) (hts (.fieldLink RX3 13 "CellRows2Model" "shares" "[D") (by decide +kernel)) (fun _ h9 => h9) rfl dX3_step_178 ?_
                            refine lv_iload_n hx hb dX3_step_181 rfl (lv_at hl 2 rfl) ?_
                            refine ra_d (f := (cm_es M2b)) hx hb hK hP 2 1 rfl rfl j rfl (by omega) (Nat.le_of_ble_eq_true rfl) dX3_step_182 ?_
                            refine lv_goto (tgt := 199) hx hb dX3_step_183 (by decide) ?_
                            exact J24 _ (by simp only [sCnt, if_pos h_25])
                      · refine lv_aload_n hx hb dX3_step_123 rfl (lv_at hl 0 rfl) ?_
                        refine va_get (D := D) (ci := 4) (v := .ref (b 4)) (C := RX3) (T := TX3) (N := 20) hx hb hts iX3_step_X3 hown hK hP 0 rfl rfl 5 (by decide) (hts (.fieldLink RX3 20 "CellRows2Model" "warms" "[J") (by decide +kernel)) (fun _ h9 => h9) rfl dX3_step_124 ?_
                        refine lv_iload_n hx hb dX3_step_127 rfl (lv_at hl 1 rfl) ?_
                        refine lv_lload hx hb dX3_step_128 (lv_at hl 4 rfl) ?_
                        refine rs_l (f := (cm_wa M2a)) hx hb hK hP hD hS 4 3 rfl rfl j rfl (by omega) (Nat.le_of_ble_eq_true rfl) dX3_step_130 (fun H20 locs20 hP hD hS => ?_)
                        have hP : va_P D vwCl (wM cm b n (cm_set_wa M2a (va_up (cm_wa M2a) j wa))) H20 := hP
                        have hD : va_D A (wM cm b n (cm_set_wa M2a (va_up (cm_wa M2a) j wa))) := hD
                        refine lv_aload_n hx hb dX3_step_131 rfl (lv_at hl 0 rfl) ?_
                        refine va_get (D := D) (ci := 4) (v := .ref (b 1)) (C := RX3) (T := TX3) (N := 20) hx hb hts iX3_step_X3 hown hK hP 0 rfl rfl 2 (by decide) (hts (.fieldLink RX3 7 "CellRows2Model" "charges" "[J") (by decide +kernel)) (fun _ h9 => h9) rfl dX3_step_132 ?_
                        refine lv_iload_n hx hb dX3_step_135 rfl (lv_at hl 1 rfl) ?_
                        refine lv_aload_n hx hb dX3_step_136 rfl (lv_at hl 0 rfl) ?_
                        refine va_get (D := D) (ci := 4) (v := .ref (b 1)) (C := RX3) (T := TX3) (N := 20) hx hb hts iX3_step_X3 hown hK hP 0 rfl rfl 2 (by decide) (hts (.fieldLink RX3 7 "CellRows2Model" "charges" "[J") (by decide +kernel)) (fun _ h9 => h9) rfl dX3_step_137 ?_
                        refine lv_iload_n hx hb dX3_step_140 rfl (lv_at hl 1 rfl) ?_
                        refine ra_l (f := (cm_ch M2a)) hx hb hK hP 1 0 rfl rfl j rfl (by omega) (Nat.le_of_ble_eq_true rfl) dX3_step_141 ?_
                        refine lv_lload_n hx hb dX3_step_142 rfl (lv_at hl 2 rfl) ?_
                        refine lv_ladd hx hb dX3_step_143 ?_
                        refine lv_aload_n hx hb dX3_step_144 rfl (lv_at hl 0 rfl) ?_
                        refine va_get (D := D) (ci := 4) (v := .ref (b 6)) (C := RX3) (T := TX3) (N := 20) hx hb hts iX3_step_X3 hown hK hP 0 rfl rfl 7 (by decide) (hts (.fieldLink RX3 27 "CellRows2Model" "bleeds" "[Z") (by decide +kernel)) (fun _ h9 => h9) rfl dX3_step_145 ?_
                        refine lv_iload_n hx hb dX3_step_148 rfl (lv_at hl 1 rfl) ?_
                        refine ra_z (f := (cm_bl M2a)) hx hb hK hP 6 5 rfl rfl j rfl (by omega) (Nat.le_of_ble_eq_true rfl) dX3_step_149 ?_
                        refine W.join (P := fun v9 : Int64 => v9 = if (cm_bl M2a) j = 0 then 0 else 5) (g := fun v9 => F0 m 160 ls [.long v9, .long (((cm_ch M2a) j) + cur), .int (nI j), .ref (b 1)]) (fun v21 hv21 => ?_) (fun J21 => ?_)
                        · subst hv21
                          refine lv_lsub hx hb dX3_step_160 ?_
                          refine rs_l (f := (cm_ch M2a)) hx hb hK hP hD hS 1 0 rfl rfl j rfl (by omega) (Nat.le_of_ble_eq_true rfl) dX3_step_161 (fun H23 locs23 hP hD hS => ?_)
                          have hP : va_P D vwCl (wM cm b n (cm_set_ch (cm_set_wa M2a (va_up (cm_wa M2a) j wa)) (va_up (cm_ch M2a) j ((((cm_ch M2a) j) + cur) - (if (cm_bl M2a) j = 0 then 0 else 5))))) H23 := hP
                          have hD : va_D A (wM cm b n (cm_set_ch (cm_set_wa M2a (va_up (cm_wa M2a) j wa)) (va_up (cm_ch M2a) j ((((cm_ch M2a) j) + cur) - (if (cm_bl M2a) j = 0 then 0 else 5))))) := hD
                          exact J19 (cm_set_ch (cm_set_wa M2a (va_up (cm_wa M2a) j wa)) (va_up (cm_ch M2a) j ((((cm_ch M2a) j) + cur) - (if (cm_bl M2a) j = 0 then 0 else 5)))) _ _ ⟨by first | rfl | (simp only [mUb, if_pos hout, if_pos h_9, e_ix, Option.elim_some, if_neg h_11]), hP, hD, hS⟩
                        · refine iz_eq (tgt := 159) hx hb dX3_step_150 (by decide) (fun h_22 => ?_) (fun h_22 => ?_)
                          · refine lv_lconst (v := 0) hx hb dX3_step_159 (by decide) ?_
                            exact J21 _ (by simp only [if_pos h_22])
                          · refine lv_ldc2 hx hb hown (hts (.constantLong RX3 115 (5)) (by decide +kernel)) dX3_step_153 ?_
                            refine lv_goto (tgt := 160) hx hb dX3_step_156 (by decide) ?_
                            exact J21 _ (by simp only [if_neg h_22])
                    · refine lv_aload_n hx hb dX3_step_105 rfl (lv_at hl 0 rfl) ?_
                      refine lv_dup hx hb dX3_step_106 rfl ?_
                      refine va_get (D := D) (ci := 4) (v := .int (cm_steps M2)) (C := RX3) (T := TX3) (N := 20) hx hb hts iX3_step_X3 hown hK hP 0 rfl rfl 10 (by decide) (hts (.fieldLink RX3 112 "CellRows2Model" "steps" "I") (by decide +kernel)) (fun _ h9 => h9) rfl dX3_step_107 ?_
                      refine lv_iconst (v := 1) hx hb dX3_step_110 (by decide) ?_
                      refine lv_iadd hx hb dX3_step_111 ?_
                      refine va_put (D := D) (ci := 4) (v := .int ((cm_steps M2) + 1)) (ty := .int) (C := RX3) (T := TX3) (N := 20) hx hb hts iX3_step_X3 tyX3 tyX3_ok nmX3 hown hK hP hD hS 0 rfl rfl 10 (by decide) (hts (.fieldLink RX3 112 "CellRows2Model" "steps" "I") (by decide +kernel)) (fun _ h9 => h9) rfl (by decide +kernel) rfl rfl (Nat.le_of_ble_eq_true rfl) dX3_step_112 (fun H17 locs17 hP hD hS => ?_)
                      have hP : va_P D vwCl (wM cm b n (cm_set_steps M2 ((cm_steps M2) + 1))) H17 := hP
                      have hD : va_D A (wM cm b n (cm_set_steps M2 ((cm_steps M2) + 1))) := hD
                      refine lv_aload_n hx hb dX3_step_115 rfl (lv_at hl 0 rfl) ?_
                      refine va_get (D := D) (ci := 4) (v := .ref (b 3)) (C := RX3) (T := TX3) (N := 20) hx hb hts iX3_step_X3 hown hK hP 0 rfl rfl 4 (by decide) (hts (.fieldLink RX3 17 "CellRows2Model" "volts" "[J") (by decide +kernel)) (fun _ h9 => h9) rfl dX3_step_116 ?_
                      refine lv_iload_n hx hb dX3_step_119 rfl (lv_at hl 1 rfl) ?_
                      refine lv_lload hx hb dX3_step_120 (lv_at hl 3 rfl) ?_
                      refine rs_l (f := (cm_vo M2)) hx hb hK hP hD hS 3 2 rfl rfl j rfl (by omega) (Nat.le_of_ble_eq_true rfl) dX3_step_122 (fun H18 locs18 hP hD hS => ?_)
                      have hP : va_P D vwCl (wM cm b n (cm_set_vo (cm_set_steps M2 ((cm_steps M2) + 1)) (va_up (cm_vo M2) j vo))) H18 := hP
                      have hD : va_D A (wM cm b n (cm_set_vo (cm_set_steps M2 ((cm_steps M2) + 1)) (va_up (cm_vo M2) j vo))) := hD
                      exact J16 (cm_set_vo (cm_set_steps M2 ((cm_steps M2) + 1)) (va_up (cm_vo M2) j vo)) _ _ ⟨by first | rfl | (simp only [mUa, if_pos hout, if_pos h_9, e_ix, Option.elim_some, if_neg h_11]), hP, hD, hS⟩
                  · refine lv_iload_n hx hb dX3_step_84 rfl (lv_at hl 1 rfl) ?_
                    refine iz_ne (tgt := 105) hx hb dX3_step_85 (by decide) (fun h_13 => ?_) (fun h_13 => ?_)
                    · exact J12 (cm_set_th M 0) _ _ ⟨by first | rfl | (simp only [if_pos hout, if_pos h_9, e_ix, Option.elim_some, if_neg h_11, if_neg h_13]), hP, hD, hS⟩
                    · refine lv_aload_n hx hb dX3_step_88 rfl (lv_at hl 0 rfl) ?_
                      refine va_get (D := D) (ci := 4) (v := .int (nI (cm_many M))) (C := RX3) (T := TX3) (N := 20) hx hb hts iX3_step_X3 hown hK hP 0 rfl rfl 16 (by decide) (hts (.fieldLink RX3 82 "CellRows2Model" "many" "I") (by decide +kernel)) (fun _ h9 => h9) rfl dX3_step_89 ?_
                      refine iz_ne (tgt := 105) hx hb dX3_step_92 (by decide) (fun h_14 => ?_) (fun h_14 => ?_)
                      · exact J12 (cm_set_th M 0) _ _ ⟨by first | rfl | (simp only [if_pos hout, if_pos h_9, e_ix, Option.elim_some, if_neg h_11, if_pos h_13, if_neg h_14]), hP, hD, hS⟩
                      · refine lv_aload_n hx hb dX3_step_95 rfl (lv_at hl 0 rfl) ?_
                        refine lv_aload_n hx hb dX3_step_96 rfl (lv_at hl 0 rfl) ?_
                        refine va_get (D := D) (ci := 4) (v := .ref (b 1)) (C := RX3) (T := TX3) (N := 20) hx hb hts iX3_step_X3 hown hK hP 0 rfl rfl 2 (by decide) (hts (.fieldLink RX3 7 "CellRows2Model" "charges" "[J") (by decide +kernel)) (fun _ h9 => h9) rfl dX3_step_97 ?_
                        refine lv_iconst (v := 0) hx hb dX3_step_100 (by decide) ?_
                        refine ra_l (f := (cm_ch M)) hx hb hK hP 1 0 rfl rfl 0 rfl (Nat.le_of_ble_eq_true rfl) (Nat.le_of_ble_eq_true rfl) dX3_step_101 ?_
                        have hSo := hS
                        refine va_callv (va_runV (As := [.long ((cm_ch M) 0)]) (rest := []) ⟨hx, hb, hml, hown, hts⟩ (kX3_point l D cm b n (cm_set_th M 0) H10.size ((cm_ch M) 0) (by first | assumption | omega) (by first | assumption | omega)) (cwV 1 hts gX3_step_X3_point rfl rfl rfl (by decide +kernel) ⟨Nat.le_of_ble_eq_true rfl, Nat.le_of_ble_eq_true rfl⟩) ⟨pM_blind, va_recv hK hP (ci := 4) (q0 := 0) rfl rfl, fun U hU hW => ⟨rfl, pM_mk hP hK hD hU hW⟩⟩ rfl rfl hl.1 rfl (lv_room (Nat.le_of_ble_eq_true rfl)) dX3_step_102 ⟨Nat.le_of_ble_eq_true rfl, Nat.le_of_ble_eq_true rfl⟩) hS (fun q _ h => freeAll hD hS hA q h) (freeAll hD hS hA) (fun u15 t15 H15 locs15 ht hvm hw hB hz1 hk1 hS => ?_)
                        obtain ⟨hP1, hK1, hD1⟩ := hB
                        rw [ht] at hP1
                        have hK := va_K.moved hvm.symm hK1
                        obtain rfl : u15 = mPoint (cm_set_th M 0) ((cm_ch M) 0) := hw
                        have hD := hD1.weaken (fun _ q _ h => freeAll hD hSo hA q.1 h)
                        have hP := hP1
                        exact J12 (mPoint (cm_set_th M 0) ((cm_ch M) 0)) _ _ ⟨by first | rfl | (simp only [if_pos hout, if_pos h_9, e_ix, Option.elim_some, if_neg h_11, if_pos h_13, if_pos h_14]), hP, hD, hS⟩
                · exact absurd h_11 (by decide)
              · have e_ixn := mNo_1 h_9
                refine lv_iconst (v := 1) hx hb dX3_step_67 (by decide) ?_
                refine lv_goto (tgt := 72) hx hb dX3_step_68 (by decide) ?_
                refine va_put (D := D) (ci := 4) (v := .int 1) (ty := .int) (C := RX3) (T := TX3) (N := 20) hx hb hts iX3_step_X3 tyX3 tyX3_ok nmX3 hown hK hP hD hS 0 rfl rfl 0 (by decide) (hts (.fieldLink RX3 73 "CellRows2Model" "thrown" "I") (by decide +kernel)) (fun _ h9 => h9) rfl (by decide +kernel) rfl rfl (Nat.le_of_ble_eq_true rfl) dX3_step_72 (fun H53 locs53 hP hD hS => ?_)
                have hP : va_P D vwCl (wM cm b n (cm_set_th M 1)) H53 := hP
                have hD : va_D A (wM cm b n (cm_set_th M 1)) := hD
                refine lv_aload_n hx hb dX3_step_75 rfl (lv_at hl 0 rfl) ?_
                refine va_get (D := D) (ci := 4) (v := .int 1) (C := RX3) (T := TX3) (N := 20) hx hb hts iX3_step_X3 hown hK hP 0 rfl rfl 0 (by decide) (hts (.fieldLink RX3 73 "CellRows2Model" "thrown" "I") (by decide +kernel)) (fun _ h9 => h9) rfl dX3_step_76 ?_
                refine iz_le (tgt := 84) hx hb dX3_step_79 (by decide) (fun h_54 => ?_) (fun h_54 => ?_)
                · exact absurd (by decide) h_54
                · refine lv_iconst (v := 0) hx hb dX3_step_82 (by decide) ?_
                  exact W.iret (v := 0) hx hb hr (fun t ht hW => ⟨⟨0, (cm_set_th M 1), rfl, ⟨(by simp only [rmStep, gmStep, if_pos hout, if_neg h_9, e_ixn, Option.elim_none, if_pos h_54]), (by simp only [rmStep, gmStep, if_pos hout, if_neg h_9, e_ixn, Option.elim_none, if_pos h_54])⟩, by rw [ht]; exact hP, va_K.moved hW.alike hK, hD⟩, hS.F ht⟩) hS.2.2 dX3_step_83
            · have hout : ¬ mOutR cur vo wa = 0 := by simp only [mOutR, if_neg h_2, if_neg h_3, if_neg h_4, if_neg h_5, if_neg h_6, if_pos h_7]; decide
              refine lv_bipush (v := (-2)) hx hb dX3_step_55 (by decide) ?_
              exact W.iret (v := (-2)) hx hb hr (fun t ht hW => ⟨⟨(-2), (cm_set_th M 0), rfl, ⟨(by simp only [rmStep, gmStep, if_neg hout]), (by simp only [rmStep, gmStep, if_neg hout])⟩, by rw [ht]; exact hP, va_K.moved hW.alike hK, hD⟩, hS.F ht⟩) hS.2.2 dX3_step_57
