set_option maxRecDepth 20000 in
theorem iX2_step_X0 : ∀ w ∈ wsX00, w ∈ wsX2_step := by decide +kernel
set_option maxRecDepth 20000 in
theorem iX2_step_X2 : ∀ w ∈ wsX20, w ∈ wsX2_step := by decide +kernel
set_option maxHeartbeats 1000000 in
set_option maxRecDepth 100000 in
theorem kX2_step (l : Launch) (D : va_G) (cy : Nat → ClassId) (a : Nat → Nat) (n : Nat) (S : CS) (sz : Nat) (hst : l.stackTraces = false) (sa : Nat) (p0 : Int32) (cur vo wa : Int64) (hn : n ≤ 24) (hf : cs_fc S + 1 < 1024) (hp : cs_pc S ≤ 500) (hc : cs_pc S + 2 * cs_cyc S ≤ 513) (he0 : ∀ j, j < n → okD 1026 (cs_es S j)) : vx_Met l yX2_step wsX2_step ({ frames := 7, cells := 1, slots := 6, locals := 103 }) (va_Pc [.ref (a 0), .int p0, .long cur, .long vo, .long wa] (pXx D cy a n S sz xA 69 "there is no such cell" sa)) (va_Qi (fun r (u : CS) => r = rSx S n p0 cur vo wa ∧ u = gSx S n p0 cur vo wa ∧ ¬ (thSx n p0 cur vo wa)) (eX D cy a n (va_A (wX cy a n S) sz)) (va_A (wX cy a n S) sz)) (vx_X (fun u : CS => u = S ∧ (thSx n p0 cur vo wa)) (fun E u t => E = RJx00060 ∧ eX D cy a n (va_A (wX cy a n S) sz) u t) (va_A (wX cy a n S) sz)) 1 6 (va_A (wX cy a n S) sz) := by
  refine vx_ofW (cc := cX2_step) (maxL := 10) (ret := (some .int)) (by decide) rfl ?_
  intro p e s m args below meth c s₁ B hml hnt hv
  obtain ⟨rfl, ⟨hsz, hP, hK, hD0, hN⟩, hXA, hXR, hXU, hXZ⟩ := hv
  have hx := B.exec
  have hb := B.bytes
  have hr := B.returns
  have hts := atoms_spec (ws := wsX2_step) B.pre
  have hown : s.vm.findClass RX2 = some m.cls := findClass_of_methodNamed B.named
  have hlocks := B.notSynchronized
  subst hsz
  have hD := hD0.self (sz := s.heap.size)
  generalize hAe : va_A (wX cy a n S) s.heap.size = A at hD hXU hXZ ⊢
  have hA : ∀ q : Nat, s.heap.size ≤ q → A q := fun q h => by rw [← hAe]; exact Or.inr h
  have hS : va_S A s.heap s.heap [] := va_S.rf
  have hl := lv_entry ([.ref (a 0), .int p0, .long cur, .long vo, .long wa]) (n := 10) (Nat.le_of_ble_eq_true rfl)
  rw [lg_entry_eq]
  generalize (lg_sl ([.ref (a 0), .int p0, .long cur, .long vo, .long wa]) ++ List.replicate (10 - (lg_sl ([.ref (a 0), .int p0, .long cur, .long vo, .long wa])).length) Slot.unset).toArray = ls at hl ⊢
  have hl : lv_has ls 10 [(0, .ref (a 0)), (1, .int p0), (2, .long cur), (4, .long vo), (6, .long wa)] := hl
  refine lv_lload_n hx hb dX2_step_0 rfl (lv_at hl 2 rfl) ?_
  refine lv_ldc2 hx hb hown (hts (.constantLong RX2 49 (-100000)) (by decide +kernel)) dX2_step_1 ?_
  refine lv_ldc2 hx hb hown (hts (.constantLong RX2 51 (100000)) (by decide +kernel)) dX2_step_4 ?_
  refine vp_callSi (W.runS (As := [.long cur, .long (-100000), .long 100000]) (rest := []) ⟨hx, hb, hml, hown, hts⟩ (kX2_isOutside l cur (-100000) 100000) (va_cwS 3 hts gX2_step_X2_isOutside rfl rfl rfl (by decide +kernel) ⟨Nat.le_of_ble_eq_true rfl, Nat.le_of_ble_eq_true rfl⟩) ⟨fun _ _ _ _ q => q, fun U hU hW => ⟨rfl, trivial⟩⟩ rfl rfl hl.1 rfl (lv_room (Nat.le_of_ble_eq_true rfl)) dX2_step_7 ⟨Nat.le_of_ble_eq_true rfl, Nat.le_of_ble_eq_true rfl⟩) (fun r1 hr1 => ?_)
  obtain rfl : r1 = sOut cur (-100000) 100000 := hr1
  refine iz_ne (tgt := 39) hx hb dX2_step_10 (by decide) (fun h_2 => ?_) (fun h_2 => ?_)
  · have hout : ¬ sOuts cur vo wa = 0 := by simp only [sOuts, if_neg h_2]; decide
    refine lv_bipush (v := (-2)) hx hb dX2_step_39 (by decide) ?_
    refine W.widen (k := 1) (n := 6) (Nat.zero_le _) (Nat.zero_le _) ?_
    refine vx_ret ?_
    exact W.iret (v := (-2)) hx hb hr (fun t ht hW => ⟨⟨(-2), S, rfl, ⟨(by simp only [rSx, gSx, if_neg hout]), (by simp only [rSx, gSx, if_neg hout]), (fun h9 => absurd h9.1 hout)⟩, by rw [ht]; exact hP, va_K.moved hW.alike hK, hD⟩, hS.F ht⟩) hS.2.2 dX2_step_41
  · refine lv_lload hx hb dX2_step_13 (lv_at hl 3 rfl) ?_
    refine lv_lconst (v := 0) hx hb dX2_step_15 (by decide) ?_
    refine lv_ldc2 hx hb hown (hts (.constantLong RX2 57 (10000)) (by decide +kernel)) dX2_step_16 ?_
    refine vp_callSi (W.runS (As := [.long vo, .long 0, .long 10000]) (rest := []) ⟨hx, hb, hml, hown, hts⟩ (kX2_isOutside l vo 0 10000) (va_cwS 3 hts gX2_step_X2_isOutside rfl rfl rfl (by decide +kernel) ⟨Nat.le_of_ble_eq_true rfl, Nat.le_of_ble_eq_true rfl⟩) ⟨fun _ _ _ _ q => q, fun U hU hW => ⟨rfl, trivial⟩⟩ rfl rfl hl.1 rfl (lv_room (Nat.le_of_ble_eq_true rfl)) dX2_step_19 ⟨Nat.le_of_ble_eq_true rfl, Nat.le_of_ble_eq_true rfl⟩) (fun r3 hr3 => ?_)
    obtain rfl : r3 = sOut vo 0 10000 := hr3
    refine iz_ne (tgt := 39) hx hb dX2_step_22 (by decide) (fun h_4 => ?_) (fun h_4 => ?_)
    · have hout : ¬ sOuts cur vo wa = 0 := by simp only [sOuts, if_pos h_2, if_neg h_4]; decide
      refine lv_bipush (v := (-2)) hx hb dX2_step_39 (by decide) ?_
      refine W.widen (k := 1) (n := 6) (Nat.zero_le _) (Nat.zero_le _) ?_
      refine vx_ret ?_
      exact W.iret (v := (-2)) hx hb hr (fun t ht hW => ⟨⟨(-2), S, rfl, ⟨(by simp only [rSx, gSx, if_neg hout]), (by simp only [rSx, gSx, if_neg hout]), (fun h9 => absurd h9.1 hout)⟩, by rw [ht]; exact hP, va_K.moved hW.alike hK, hD⟩, hS.F ht⟩) hS.2.2 dX2_step_41
    · refine lv_lload hx hb dX2_step_25 (lv_at hl 4 rfl) ?_
      refine lv_ldc2 hx hb hown (hts (.constantLong RX2 59 (-1000)) (by decide +kernel)) dX2_step_27 ?_
      refine lv_ldc2 hx hb hown (hts (.constantLong RX2 61 (2000)) (by decide +kernel)) dX2_step_30 ?_
      refine vp_callSi (W.runS (As := [.long wa, .long (-1000), .long 2000]) (rest := []) ⟨hx, hb, hml, hown, hts⟩ (kX2_isOutside l wa (-1000) 2000) (va_cwS 3 hts gX2_step_X2_isOutside rfl rfl rfl (by decide +kernel) ⟨Nat.le_of_ble_eq_true rfl, Nat.le_of_ble_eq_true rfl⟩) ⟨fun _ _ _ _ q => q, fun U hU hW => ⟨rfl, trivial⟩⟩ rfl rfl hl.1 rfl (lv_room (Nat.le_of_ble_eq_true rfl)) dX2_step_33 ⟨Nat.le_of_ble_eq_true rfl, Nat.le_of_ble_eq_true rfl⟩) (fun r5 hr5 => ?_)
      obtain rfl : r5 = sOut wa (-1000) 2000 := hr5
      refine iz_eq (tgt := 42) hx hb dX2_step_36 (by decide) (fun h_6 => ?_) (fun h_6 => ?_)
      · have hout : sOuts cur vo wa = 0 := by simp only [sOuts, if_pos h_2, if_pos h_4, if_pos h_6]
        refine lv_aload_n hx hb dX2_step_42 rfl (lv_at hl 0 rfl) ?_
        refine lv_iload_n hx hb dX2_step_43 rfl (lv_at hl 1 rfl) ?_
        refine va_csq (W.runV (As := [.int p0]) (rest := []) ⟨hx, hb, hml, hown, hts⟩ (kX2_cellOf l D cy a n S s.heap.size p0 hn) (cwV 1 hts gX2_step_X2_cellOf rfl rfl rfl (by decide +kernel) ⟨Nat.le_of_ble_eq_true rfl, Nat.le_of_ble_eq_true rfl⟩) ⟨pX_blind, va_recv hK hP (ci := 3) (q0 := 0) rfl rfl, fun U hU hW => ⟨rfl, pX_mk hP hK hD hN hU hW⟩⟩ rfl rfl hl.1 rfl (lv_room (Nat.le_of_ble_eq_true rfl)) dX2_step_44 ⟨Nat.le_of_ble_eq_true rfl, Nat.le_of_ble_eq_true rfl⟩) (fun r7 hr7 => ?_)
        obtain rfl : r7 = (ix n p0).map (fun j => a (9 + j)) := hr7
        rcases hix : ix n p0 with _ | j
        · refine W.eqs (st2 := [.null]) rfl ?_
          refine lv_astoreN (lv' := [(8, .null), (0, .ref (a 0)), (1, .int p0), (2, .long cur), (4, .long vo), (6, .long wa)]) hx hb dX2_step_47 hl (by decide) rfl (fun ls hl => ?_)
          refine lv_aloadN hx hb dX2_step_49 (lv_at hl 0 rfl) ?_
          refine lv_ifnonnullN hx hb dX2_step_51 ?_
          exact vx_throwS (own := RX2) (cls := RJx00060) (text := "there is no such cell") (names := ["java/lang/IndexOutOfBoundsException", "java/lang/RuntimeException", "java/lang/Exception"]) (ik := 67) (is := 69) (ic := 71) (sa := sa) (A := A) hx hb hst hown (by decide +kernel) (by decide +kernel) (hts (.classLink RX2 67 RJx00060) (by decide +kernel)) (hts (.initialized RJx00060) (by decide +kernel)) hXR (hat_warm xA_ok (State.WarmedH.refl s) hXA) (fun w h9 => List.all_eq_true.mp (by decide +kernel : (Cond.classLink RX2 67 RJx00060 :: Cond.initialized RJx00060 :: xA).all vx_ot = true) w h9) hXU hXZ hS (hl.1.trans hml.symm) dX2_step_54 dX2_step_57 dX2_step_58 dX2_step_60 dX2_step_63 (fun x h9 => (hnt x h9).elim) (Nat.le_of_ble_eq_true rfl) (Nat.le_of_ble_eq_true rfl) (Nat.le_of_ble_eq_true rfl) (Nat.le_of_ble_eq_true rfl) hlocks (fun t ha hz hk9 => ⟨S, ⟨rfl, ⟨hout, hix⟩⟩, ⟨rfl, hP.kept (fun k q hk => hk9 q.1 (vx_lt hP hk)), va_K.moved ha hK, hD⟩, hz, fun q h1 _ => hk9 q h1⟩) hS.2.2 (Nat.le_refl _) (Nat.le_refl _)
        · obtain ⟨hj, rfl⟩ := ix_some hix
          refine W.eqs (st2 := [.ref (a (9 + j))]) rfl ?_
          refine lv_astore (lv' := [(8, .ref (a (9 + j))), (0, .ref (a 0)), (1, .int (nI j)), (2, .long cur), (4, .long vo), (6, .long wa)]) hx hb dX2_step_47 hl (by decide) rfl (fun ls hl => ?_)
          refine lv_aload hx hb dX2_step_49 (lv_at hl 0 rfl) ?_
          refine lv_ifnonnull (tgt := 64) hx hb dX2_step_51 (by decide) ?_
          refine lv_aload hx hb dX2_step_64 (lv_at hl 0 rfl) ?_
          refine lv_lload_n hx hb dX2_step_66 rfl (lv_at hl 3 rfl) ?_
          refine lv_lload hx hb dX2_step_67 (lv_at hl 4 rfl) ?_
          refine lv_lload hx hb dX2_step_69 (lv_at hl 5 rfl) ?_
          refine lv_aload_n hx hb dX2_step_71 rfl (lv_at hl 1 rfl) ?_
          refine va_get (D := D) (ci := 3) (v := .ref (a 2)) (C := RX2) (T := TX2) (N := 8) hx hb hts iX2_step_X2 hown hK hP 0 rfl rfl 1 (by decide) (hts (.fieldLink RX2 25 "CellRows2" "limits" "[J") (by decide +kernel)) (fun _ h9 => h9) rfl dX2_step_72 ?_
          refine lv_iconst (v := 5) hx hb dX2_step_75 (by decide) ?_
          refine ra_l (f := (cs_lim S)) hx hb hK hP 2 1 rfl rfl 5 rfl (Nat.le_of_ble_eq_true rfl) (Nat.le_of_ble_eq_true rfl) dX2_step_76 ?_
          have hSo := hS
          refine va_callv (va_runVN (As := [.long cur, .long vo, .long wa, .long ((cs_lim S) 5)]) (rest := []) ⟨hx, hb, hml, hown, hts⟩ (kX0_take l D cy a n S s.heap.size j hj cur vo wa ((cs_lim S) 5) (he0 j hj)) ⟨va_cnB 4 hts ggX2_step_X0_take rfl rfl rfl (hN _ (List.mem_of_getElem? (i := 12) rfl)) (hts (.initialized RX0) (by decide +kernel)) (by decide +kernel) ⟨Nat.le_of_ble_eq_true rfl, Nat.le_of_ble_eq_true rfl⟩, hts (.instanceMethod yX0_take) (by decide +kernel), hts (.selects RX0 yX0_take yX0_take) (by decide +kernel)⟩ ⟨pX_blind, va_recv hK hP (ci := 1) (q0 := (9 + j)) rfl (wX_c hj), fun U hU hW => ⟨rfl, pX_mk hP hK hD hN hU hW⟩⟩ rfl rfl hl.1 rfl (lv_room (Nat.le_of_ble_eq_true rfl)) dX2_step_77 ⟨Nat.le_of_ble_eq_true rfl, Nat.le_of_ble_eq_true rfl⟩) hS (fun q _ h => freeAll hD hS hA q h) (freeAll hD hS hA) (fun u8 t8 H8 locs8 ht hvm hw hB hz1 hk1 hS => ?_)
          obtain ⟨hP1, hK1, hD1⟩ := hB
          rw [ht] at hP1
          have hK := va_K.moved hvm.symm hK1
          obtain rfl : u8 = sTake S j cur vo wa ((cs_lim S) 5) := hw
          have hD := hD1.weaken (fun _ q _ h => freeAll hD hSo hA q.1 h)
          have hP := hP1
          refine W.joinH (P := fun (v9 : CS) (H' : Heap) (locs' : List Loc) => v9 = (cs_set_pre (sTake S j cur vo wa (cs_lim S 5)) (cs_pre (sTake S j cur vo wa (cs_lim S 5)) + 1)) ∧ va_P D vwCl (wX cy a n v9) H' ∧ va_D A (wX cy a n v9) ∧ va_S A s.heap H' locs') (g := fun _ => F0 m 90 ls []) (fun S1 H9 locs9 hj9 => ?_) (fun J9 => ?_)
          · obtain ⟨hs_S1, hP, hD, hS⟩ := hj9
            have e1 : S1 = sS1 S j cur vo wa := hs_S1
            obtain ⟨k1, k2, k3, -⟩ := sTake_k S j cur vo wa (cs_lim S 5)
            have S1_fc : cs_fc S1 = cs_fc S := by rw [hs_S1, cg_fc_pre]; exact k1
            have S1_pc : cs_pc S1 = cs_pc S := by rw [hs_S1, cg_pc_pre]; exact k2
            have S1_cyc : cs_cyc S1 = cs_cyc S := by rw [hs_S1, cg_cyc_pre]; exact k3
            refine W.joinH (P := fun (v9 : CS) (H' : Heap) (locs' : List Loc) => v9 = (sFo S1 j) ∧ va_P D vwCl (wX cy a n v9) H' ∧ va_D A (wX cy a n v9) ∧ va_S A s.heap H' locs') (g := fun _ => F0 m 106 ls []) (fun S2 H11 locs11 hj11 => ?_) (fun J11 => ?_)
            · obtain ⟨hs_S2, hP, hD, hS⟩ := hj11
              have e2 : S2 = sS2 S j cur vo wa := by rw [hs_S2, e1]; rfl
              have S2_fc : cs_fc S2 = cs_fc S := by rw [hs_S2, (sFo_k S1 j).1, S1_fc]
              refine lv_aload_n hx hb dX2_step_106 rfl (lv_at hl 1 rfl) ?_
              refine lv_aload hx hb dX2_step_107 (lv_at hl 0 rfl) ?_
              refine lv_lload_n hx hb dX2_step_109 rfl (lv_at hl 3 rfl) ?_
              refine vp_callSi (W.runV (As := [.ref (a (9 + j)), .long cur]) (rest := []) ⟨hx, hb, hml, hown, hts⟩ (kX2_isBeyond l D cy a n S2 H11.size j hj cur) (cwV 2 hts gX2_step_X2_isBeyond rfl rfl rfl (by decide +kernel) ⟨Nat.le_of_ble_eq_true rfl, Nat.le_of_ble_eq_true rfl⟩) ⟨pX_blind, va_recv hK hP (ci := 3) (q0 := 0) rfl rfl, fun U hU hW => ⟨rfl, pX_mk hP hK hD hN hU hW⟩⟩ rfl rfl hl.1 rfl (lv_room (Nat.le_of_ble_eq_true rfl)) dX2_step_110 ⟨Nat.le_of_ble_eq_true rfl, Nat.le_of_ble_eq_true rfl⟩) (fun r14 hr14 => ?_)
              obtain rfl : r14 = sBey S2 j cur := hr14
              refine lv_istore (lv' := [(9, .int (sBey S2 j cur)), (8, .ref (a (9 + j))), (0, .ref (a 0)), (1, .int (nI j)), (2, .long cur), (4, .long vo), (6, .long wa)]) hx hb dX2_step_113 hl (by decide) rfl (fun ls hl => ?_)
              refine W.joinH (P := fun (v9 : CS) (H' : Heap) (locs' : List Loc) => v9 = (sBe S2 j cur) ∧ va_P D vwCl (wX cy a n v9) H' ∧ va_D A (wX cy a n v9) ∧ va_S A s.heap H' locs') (g := fun _ => F0 m 136 ls []) (fun S3 H15 locs15 hj15 => ?_) (fun J15 => ?_)
              · obtain ⟨hs_S3, hP, hD, hS⟩ := hj15
                have e3 : S3 = sS3 S j cur vo wa := by rw [hs_S3, e2]; rfl
                have S3_fc : cs_fc S3 = cs_fc S := by rw [hs_S3]; unfold sBe; rw [cg_fc_be, S2_fc]
                refine lv_aload_n hx hb dX2_step_136 rfl (lv_at hl 2 rfl) ?_
                refine lv_aload hx hb dX2_step_137 (lv_at hl 1 rfl) ?_
                have hSo := hS
                refine va_calli (va_runV (As := [.ref (a (9 + j))]) (rest := []) ⟨hx, hb, hml, hown, hts⟩ (kX2_noteFaultsOfStep l D cy a n S3 H15.size j hj (by omega)) (cwV 1 hts gX2_step_X2_noteFaultsOfStep rfl rfl rfl (by decide +kernel) ⟨Nat.le_of_ble_eq_true rfl, Nat.le_of_ble_eq_true rfl⟩) ⟨pX_blind, va_recv hK hP (ci := 3) (q0 := 0) rfl rfl, fun U hU hW => ⟨rfl, pX_mk hP hK hD hN hU hW⟩⟩ rfl rfl hl.1 rfl (lv_room (Nat.le_of_ble_eq_true rfl)) dX2_step_139 ⟨Nat.le_of_ble_eq_true rfl, Nat.le_of_ble_eq_true rfl⟩) hS (fun q _ h => freeAll hD hS hA q h) (freeAll hD hS hA) (fun r19 u19 t19 H19 locs19 ht hvm hw hB hz1 hk1 hS => ?_)
                obtain ⟨hP1, hK1, hD1⟩ := hB
                rw [ht] at hP1
                have hK := va_K.moved hvm.symm hK1
                obtain ⟨hw1, hw2⟩ := hw
                obtain rfl : r19 = rNfs S3 j := hw1
                obtain rfl : u19 = gNfs S3 j := hw2
                have hD := hD1.weaken (fun _ q _ h => freeAll hD hSo hA q.1 h)
                have hP := hP1
                refine iz_eq (tgt := 147) hx hb dX2_step_142 (by decide) (fun h_20 => ?_) (fun h_20 => ?_)
                · refine lv_iload hx hb dX2_step_147 (lv_at hl 0 rfl) ?_
                  refine iz_eq (tgt := 156) hx hb dX2_step_149 (by decide) (fun h_21 => ?_) (fun h_21 => ?_)
                  · refine lv_iconst (v := 0) hx hb dX2_step_156 (by decide) ?_
                    refine W.widen (k := 1) (n := 6) (Nat.zero_le _) (Nat.zero_le _) ?_
                    refine vx_ret ?_
                    exact W.iret (v := 0) hx hb hr (fun t ht hW => ⟨⟨0, gNfs S3 j, rfl, ⟨(by first | (simp only [gSx, if_pos hout, hix, Option.elim_some]; rw [← e3]) | (simp only [rSx, if_pos hout, hix, Option.elim_some]; rw [← e3, ← e2]; simp only [if_pos hout, hix, if_pos h_20, if_pos h_21])), (by first | (simp only [gSx, if_pos hout, hix, Option.elim_some]; rw [← e3]) | (simp only [rSx, if_pos hout, hix, Option.elim_some]; rw [← e3, ← e2]; simp only [if_pos hout, hix, if_pos h_20, if_pos h_21])), (fun h9 => Option.some_ne_none _ (hix.symm.trans h9.2))⟩, by rw [ht]; exact hP, va_K.moved hW.alike hK, hD⟩, hS.F ht⟩) hS.2.2 dX2_step_157
                  · refine lv_iconst (v := 1) hx hb dX2_step_152 (by decide) ?_
                    refine lv_goto (tgt := 157) hx hb dX2_step_153 (by decide) ?_
                    refine W.widen (k := 1) (n := 6) (Nat.zero_le _) (Nat.zero_le _) ?_
                    refine vx_ret ?_
                    exact W.iret (v := 1) hx hb hr (fun t ht hW => ⟨⟨1, gNfs S3 j, rfl, ⟨(by first | (simp only [gSx, if_pos hout, hix, Option.elim_some]; rw [← e3]) | (simp only [rSx, if_pos hout, hix, Option.elim_some]; rw [← e3, ← e2]; simp only [if_pos hout, hix, if_pos h_20, if_neg h_21])), (by first | (simp only [gSx, if_pos hout, hix, Option.elim_some]; rw [← e3]) | (simp only [rSx, if_pos hout, hix, Option.elim_some]; rw [← e3, ← e2]; simp only [if_pos hout, hix, if_pos h_20, if_neg h_21])), (fun h9 => Option.some_ne_none _ (hix.symm.trans h9.2))⟩, by rw [ht]; exact hP, va_K.moved hW.alike hK, hD⟩, hS.F ht⟩) hS.2.2 dX2_step_157
                · refine lv_iconst (v := 2) hx hb dX2_step_145 (by decide) ?_
                  refine W.widen (k := 1) (n := 6) (Nat.zero_le _) (Nat.zero_le _) ?_
                  refine vx_ret ?_
                  exact W.iret (v := 2) hx hb hr (fun t ht hW => ⟨⟨2, gNfs S3 j, rfl, ⟨(by first | (simp only [gSx, if_pos hout, hix, Option.elim_some]; rw [← e3]) | (simp only [rSx, if_pos hout, hix, Option.elim_some]; rw [← e3, ← e2]; simp only [if_pos hout, hix, if_neg h_20])), (by first | (simp only [gSx, if_pos hout, hix, Option.elim_some]; rw [← e3]) | (simp only [rSx, if_pos hout, hix, Option.elim_some]; rw [← e3, ← e2]; simp only [if_pos hout, hix, if_neg h_20])), (fun h9 => Option.some_ne_none _ (hix.symm.trans h9.2))⟩, by rw [ht]; exact hP, va_K.moved hW.alike hK, hD⟩, hS.F ht⟩) hS.2.2 dX2_step_146
              · refine lv_aload hx hb dX2_step_115 (lv_at hl 1 rfl) ?_
                refine lv_iload hx hb dX2_step_117 (lv_at hl 0 rfl) ?_
                refine W.join (P := fun v9 : Int32 => v9 = if sBey S2 j cur = 0 then 0 else ((cs_be S2) j) + 1) (g := fun v9 => F0 m 133 ls [.int v9, .ref (a (9 + j))]) (fun v16 hv16 => ?_) (fun J16 => ?_)
                · subst hv16
                  refine va_putN (D := D) (ci := 1) (v := .int (if sBey S2 j cur = 0 then 0 else ((cs_be S2) j) + 1)) (ty := .int) (C := RX0) (T := TX0) (N := 6) hx hb hts iX2_step_X0 tyX0 tyX0_ok nmX0 hown hK hP hD hS (9 + j) (wX_c hj) rfl 4 (by decide) (va_Nw.use rfl (hN _ (List.mem_of_getElem? (i := 7) rfl))) (fun _ h9 => h9) rfl (by decide +kernel) rfl rfl (Nat.le_of_ble_eq_true rfl) dX2_step_133 (fun H18 locs18 hP hD hS => ?_)
                  have hP : va_P D vwCl (wX cy a n (cs_set_be S2 (va_up (cs_be S2) j (if sBey S2 j cur = 0 then 0 else ((cs_be S2) j) + 1)))) H18 := by show va_P D vwCl (wX cy a n (cs_set_be S2 (va_up (cs_be S2) j (if sBey S2 j cur = 0 then 0 else ((cs_be S2) j) + 1)))) H18; rw [← wX_set_be S2 j (if sBey S2 j cur = 0 then 0 else ((cs_be S2) j) + 1)]; exact hP
                  have hD : va_D A (wX cy a n (cs_set_be S2 (va_up (cs_be S2) j (if sBey S2 j cur = 0 then 0 else ((cs_be S2) j) + 1)))) := by show va_D A (wX cy a n (cs_set_be S2 (va_up (cs_be S2) j (if sBey S2 j cur = 0 then 0 else ((cs_be S2) j) + 1)))); rw [← wX_set_be S2 j (if sBey S2 j cur = 0 then 0 else ((cs_be S2) j) + 1)]; exact hD
                  exact J15 (cs_set_be S2 (va_up (cs_be S2) j (if sBey S2 j cur = 0 then 0 else ((cs_be S2) j) + 1))) _ _ ⟨by first | rfl | (simp only [sBe, if_pos hout, hix]), hP, hD, hS⟩
                · refine iz_eq (tgt := 132) hx hb dX2_step_119 (by decide) (fun h_17 => ?_) (fun h_17 => ?_)
                  · refine lv_iconst (v := 0) hx hb dX2_step_132 (by decide) ?_
                    exact J16 _ (by simp only [if_pos h_17])
                  · refine lv_aload hx hb dX2_step_122 (lv_at hl 1 rfl) ?_
                    refine va_getN (D := D) (ci := 1) (v := .int ((cs_be S2) j)) (C := RX0) (T := TX0) (N := 6) hx hb hts iX2_step_X0 hown hK hP (9 + j) (wX_c hj) rfl 4 (by decide) (va_Nw.use rfl (hN _ (List.mem_of_getElem? (i := 7) rfl))) (fun _ h9 => h9) rfl dX2_step_124 ?_
                    refine lv_iconst (v := 1) hx hb dX2_step_127 (by decide) ?_
                    refine lv_iadd hx hb dX2_step_128 ?_
                    refine lv_goto (tgt := 133) hx hb dX2_step_129 (by decide) ?_
                    exact J16 _ (by simp only [if_neg h_17])
            · refine lv_iload_n hx hb dX2_step_90 rfl (lv_at hl 2 rfl) ?_
              refine iz_ne (tgt := 106) hx hb dX2_step_91 (by decide) (fun h_12 => ?_) (fun h_12 => ?_)
              · exact J11 S1 _ _ ⟨by first | rfl | (simp only [sFo, if_pos hout, hix, if_neg h_12]), hP, hD, hS⟩
              · refine lv_aload_n hx hb dX2_step_94 rfl (lv_at hl 1 rfl) ?_
                refine va_get (D := D) (ci := 3) (v := .ref (a 5)) (C := RX2) (T := TX2) (N := 8) hx hb hts iX2_step_X2 hown hK hP 0 rfl rfl 4 (by decide) (hts (.fieldLink RX2 39 "CellRows2" "turns" "LCellRows2$Turns;") (by decide +kernel)) (fun _ h9 => h9) rfl dX2_step_95 ?_
                refine lv_aload hx hb dX2_step_98 (lv_at hl 0 rfl) ?_
                refine va_getN (D := D) (ci := 1) (v := .long ((cs_ch S1) j)) (C := RX0) (T := TX0) (N := 6) hx hb hts iX2_step_X0 hown hK hP (9 + j) (wX_c hj) rfl 0 (by decide) (va_Nw.use rfl (hN _ (List.mem_of_getElem? (i := 6) rfl))) (fun _ h9 => h9) rfl dX2_step_100 ?_
                have hSo := hS
                refine va_callv (va_runVN (As := [.long ((cs_ch S1) j)]) (rest := []) ⟨hx, hb, hml, hown, hts⟩ (kX1_follow l D cy a n S1 H9.size ((cs_ch S1) j) (by first | assumption | omega) (by first | assumption | omega)) ⟨va_cnB 1 hts ggX2_step_X1_follow rfl rfl rfl (hN _ (List.mem_of_getElem? (i := 11) rfl)) (hts (.initialized RX1) (by decide +kernel)) (by decide +kernel) ⟨Nat.le_of_ble_eq_true rfl, Nat.le_of_ble_eq_true rfl⟩, hts (.instanceMethod yX1_follow) (by decide +kernel), hts (.selects RX1 yX1_follow yX1_follow) (by decide +kernel)⟩ ⟨pX_blind, va_recv hK hP (ci := 2) (q0 := 5) rfl rfl, fun U hU hW => ⟨rfl, pX_mk hP hK hD hN hU hW⟩⟩ rfl rfl hl.1 rfl (lv_room (Nat.le_of_ble_eq_true rfl)) dX2_step_103 ⟨Nat.le_of_ble_eq_true rfl, Nat.le_of_ble_eq_true rfl⟩) hS (fun q _ h => freeAll hD hS hA q h) (freeAll hD hS hA) (fun u13 t13 H13 locs13 ht hvm hw hB hz1 hk1 hS => ?_)
                obtain ⟨hP1, hK1, hD1⟩ := hB
                rw [ht] at hP1
                have hK := va_K.moved hvm.symm hK1
                obtain rfl : u13 = sFol S1 ((cs_ch S1) j) := hw
                have hD := hD1.weaken (fun _ q _ h => freeAll hD hSo hA q.1 h)
                have hP := hP1
                exact J11 (sFol S1 ((cs_ch S1) j)) _ _ ⟨by first | rfl | (simp only [sFo, if_pos hout, hix, if_pos h_12]), hP, hD, hS⟩
          · refine lv_aload_n hx hb dX2_step_80 rfl (lv_at hl 1 rfl) ?_
            refine lv_dup hx hb dX2_step_81 rfl ?_
            refine va_get (D := D) (ci := 3) (v := .int (cs_pre (sTake S j cur vo wa ((cs_lim S) 5)))) (C := RX2) (T := TX2) (N := 8) hx hb hts iX2_step_X2 hown hK hP 0 rfl rfl 6 (by decide) (hts (.fieldLink RX2 78 "CellRows2" "stepsOfPreCharge" "I") (by decide +kernel)) (fun _ h9 => h9) rfl dX2_step_82 ?_
            refine lv_iconst (v := 1) hx hb dX2_step_85 (by decide) ?_
            refine lv_iadd hx hb dX2_step_86 ?_
            refine va_put (D := D) (ci := 3) (v := .int ((cs_pre (sTake S j cur vo wa ((cs_lim S) 5))) + 1)) (ty := .int) (C := RX2) (T := TX2) (N := 8) hx hb hts iX2_step_X2 tyX2 tyX2_ok nmX2 hown hK hP hD hS 0 rfl rfl 6 (by decide) (hts (.fieldLink RX2 78 "CellRows2" "stepsOfPreCharge" "I") (by decide +kernel)) (fun _ h9 => h9) rfl (by decide +kernel) rfl rfl (Nat.le_of_ble_eq_true rfl) dX2_step_87 (fun H10 locs10 hP hD hS => ?_)
            have hP : va_P D vwCl (wX cy a n (cs_set_pre (sTake S j cur vo wa ((cs_lim S) 5)) ((cs_pre (sTake S j cur vo wa ((cs_lim S) 5))) + 1))) H10 := hP
            have hD : va_D A (wX cy a n (cs_set_pre (sTake S j cur vo wa ((cs_lim S) 5)) ((cs_pre (sTake S j cur vo wa ((cs_lim S) 5))) + 1))) := hD
            exact J9 (cs_set_pre (sTake S j cur vo wa ((cs_lim S) 5)) ((cs_pre (sTake S j cur vo wa ((cs_lim S) 5))) + 1)) _ _ ⟨by first | rfl | (simp only [if_pos hout, hix]), hP, hD, hS⟩
      · have hout : ¬ sOuts cur vo wa = 0 := by simp only [sOuts, if_pos h_2, if_pos h_4, if_neg h_6]; decide
        refine lv_bipush (v := (-2)) hx hb dX2_step_39 (by decide) ?_
        refine W.widen (k := 1) (n := 6) (Nat.zero_le _) (Nat.zero_le _) ?_
        refine vx_ret ?_
        exact W.iret (v := (-2)) hx hb hr (fun t ht hW => ⟨⟨(-2), S, rfl, ⟨(by simp only [rSx, gSx, if_neg hout]), (by simp only [rSx, gSx, if_neg hout]), (fun h9 => absurd h9.1 hout)⟩, by rw [ht]; exact hP, va_K.moved hW.alike hK, hD⟩, hS.F ht⟩) hS.2.2 dX2_step_41
set_option maxRecDepth 20000 in
theorem iX2_whole_X0 : ∀ w ∈ wsX00, w ∈ wsX2_whole := by decide +kernel
set_option maxRecDepth 20000 in
theorem iX2_whole_X2 : ∀ w ∈ wsX20, w ∈ wsX2_whole := by decide +kernel
set_option maxHeartbeats 1000000 in
set_option maxRecDepth 100000 in
theorem kX2_whole (l : Launch) (D : va_G) (cy : Nat → ClassId) (a : Nat → Nat) (n : Nat) (S : CS) (sz : Nat) (hst : l.stackTraces = false) (sa : Nat) (p0 p1 : Int32) (hn : n ≤ 24) : vx_Met l yX2_whole wsX2_whole ({ frames := 7, cells := 1, slots := 6, locals := 103 }) (va_Pc [.ref (a 0), .int p0, .int p1] (pXx D cy a n S sz xD 103 "the capacity is 0" sa)) (va_Ql (fun r (u : CS) => r = rWx S n p0 p1 ∧ u = S ∧ ¬ (thWx S n p0)) (eX D cy a n (va_A (wX cy a n S) sz)) (va_A (wX cy a n S) sz)) (vx_X (fun u : CS => u = S ∧ (thWx S n p0)) (fun E u t => E = "java/lang/ArithmeticException" ∧ eX D cy a n (va_A (wX cy a n S) sz) u t) (va_A (wX cy a n S) sz)) 1 6 (va_A (wX cy a n S) sz) := by
  refine vx_ofW (cc := cX2_whole) (maxL := 8) (ret := (some .long)) (by decide) rfl ?_
  intro p e s m args below meth c s₁ B hml hnt hv
  obtain ⟨rfl, ⟨hsz, hP, hK, hD0, hN⟩, hXA, hXR, hXU, hXZ⟩ := hv
  have hx := B.exec
  have hb := B.bytes
  have hr := B.returns
  have hts := atoms_spec (ws := wsX2_whole) B.pre
  have hown : s.vm.findClass RX2 = some m.cls := findClass_of_methodNamed B.named
  have hlocks := B.notSynchronized
  subst hsz
  have hD := hD0.self (sz := s.heap.size)
  generalize hAe : va_A (wX cy a n S) s.heap.size = A at hD hXU hXZ ⊢
  have hA : ∀ q : Nat, s.heap.size ≤ q → A q := fun q h => by rw [← hAe]; exact Or.inr h
  have hS : va_S A s.heap s.heap [] := va_S.rf
  have hl := lv_entry ([.ref (a 0), .int p0, .int p1]) (n := 8) (Nat.le_of_ble_eq_true rfl)
  rw [lg_entry_eq]
  generalize (lg_sl ([.ref (a 0), .int p0, .int p1]) ++ List.replicate (8 - (lg_sl ([.ref (a 0), .int p0, .int p1])).length) Slot.unset).toArray = ls at hl ⊢
  have hl : lv_has ls 8 [(0, .ref (a 0)), (1, .int p0), (2, .int p1)] := hl
  refine lv_aload_n hx hb dX2_whole_0 rfl (lv_at hl 0 rfl) ?_
  refine lv_iload_n hx hb dX2_whole_1 rfl (lv_at hl 1 rfl) ?_
  refine va_csq (W.runV (As := [.int p0]) (rest := []) ⟨hx, hb, hml, hown, hts⟩ (kX2_cellOf l D cy a n S s.heap.size p0 hn) (cwV 1 hts gX2_whole_X2_cellOf rfl rfl rfl (by decide +kernel) ⟨Nat.le_of_ble_eq_true rfl, Nat.le_of_ble_eq_true rfl⟩) ⟨pX_blind, va_recv hK hP (ci := 3) (q0 := 0) rfl rfl, fun U hU hW => ⟨rfl, pX_mk hP hK hD hN hU hW⟩⟩ rfl rfl hl.1 rfl (lv_room (Nat.le_of_ble_eq_true rfl)) dX2_whole_2 ⟨Nat.le_of_ble_eq_true rfl, Nat.le_of_ble_eq_true rfl⟩) (fun r1 hr1 => ?_)
  obtain rfl : r1 = (ix n p0).map (fun j => a (9 + j)) := hr1
  rcases hix : ix n p0 with _ | j
  · refine W.eqs (st2 := [.null]) rfl ?_
    refine lv_astore_nN (lv' := [(3, .null), (0, .ref (a 0)), (1, .int p0), (2, .int p1)]) hx hb dX2_whole_5 rfl hl (by decide) rfl (fun ls hl => ?_)
    refine lv_aload_nN hx hb dX2_whole_6 rfl (lv_at hl 0 rfl) ?_
    refine lv_ifnonnullN hx hb dX2_whole_7 ?_
    refine lv_lconst (v := 0) hx hb dX2_whole_10 (by decide) ?_
    refine W.widen (k := 1) (n := 6) (Nat.zero_le _) (Nat.zero_le _) ?_
    refine vx_ret ?_
    exact W.lret (v := 0) hx hb hr (fun t ht hW => ⟨⟨0, S, rfl, ⟨(by first | rfl | (simp only [rWx, Option.elim_none, Option.elim_some, hix])), (by first | rfl | (simp only [rWx, Option.elim_none, Option.elim_some, hix])), (fun h9 => absurd h9.1 (by rw [hix]; decide))⟩, by rw [ht]; exact hP, va_K.moved hW.alike hK, hD⟩, hS.F ht⟩) hS.2.2 dX2_whole_11
  · obtain ⟨hj, rfl⟩ := ix_some hix
    refine W.eqs (st2 := [.ref (a (9 + j))]) rfl ?_
    refine lv_astore_n (lv' := [(3, .ref (a (9 + j))), (0, .ref (a 0)), (1, .int (nI j)), (2, .int p1)]) hx hb dX2_whole_5 rfl hl (by decide) rfl (fun ls hl => ?_)
    refine lv_aload_n hx hb dX2_whole_6 rfl (lv_at hl 0 rfl) ?_
    refine lv_ifnonnull (tgt := 12) hx hb dX2_whole_7 (by decide) ?_
    refine lv_aload_n hx hb dX2_whole_12 rfl (lv_at hl 1 rfl) ?_
    refine va_get (D := D) (ci := 3) (v := .ref (a 2)) (C := RX2) (T := TX2) (N := 8) hx hb hts iX2_whole_X2 hown hK hP 0 rfl rfl 1 (by decide) (hts (.fieldLink RX2 25 "CellRows2" "limits" "[J") (by decide +kernel)) (fun _ h9 => h9) rfl dX2_whole_13 ?_
    refine lv_iconst (v := 5) hx hb dX2_whole_16 (by decide) ?_
    refine ra_l (f := (cs_lim S)) hx hb hK hP 2 1 rfl rfl 5 rfl (Nat.le_of_ble_eq_true rfl) (Nat.le_of_ble_eq_true rfl) dX2_whole_17 ?_
    refine lv_lstore (lv' := [(4, .long ((cs_lim S) 5)), (3, .ref (a (9 + j))), (0, .ref (a 0)), (1, .int (nI j)), (2, .int p1)]) hx hb dX2_whole_18 hl (by decide) rfl (fun ls hl => ?_)
    refine lv_lload hx hb dX2_whole_20 (lv_at hl 0 rfl) ?_
    refine lv_lconst (v := 0) hx hb dX2_whole_22 (by decide) ?_
    refine il_ne (tgt := 37) hx hb dX2_whole_23 dX2_whole_24 (by decide) (fun h_2 => ?_) (fun h_2 => ?_)
    · refine lv_aload_n hx hb dX2_whole_37 rfl (lv_at hl 1 rfl) ?_
      refine va_getN (D := D) (ci := 1) (v := .long ((cs_ch S) j)) (C := RX0) (T := TX0) (N := 6) hx hb hts iX2_whole_X0 hown hK hP (9 + j) (wX_c hj) rfl 0 (by decide) (va_Nw.use rfl (hN _ (List.mem_of_getElem? (i := 6) rfl))) (fun _ h9 => h9) rfl dX2_whole_38 ?_
      refine lv_lload hx hb dX2_whole_41 (lv_at hl 0 rfl) ?_
      refine vp_callSl (W.runS (As := [.long ((cs_ch S) j), .long ((cs_lim S) 5)]) (rest := []) ⟨hx, hb, hml, hown, hts⟩ (kX2_greatestCommonDivisor l ((cs_ch S) j) ((cs_lim S) 5)) (va_cwS 2 hts gX2_whole_X2_greatestCommonDivisor rfl rfl rfl (by decide +kernel) ⟨Nat.le_of_ble_eq_true rfl, Nat.le_of_ble_eq_true rfl⟩) ⟨fun _ _ _ _ q => q, fun U hU hW => ⟨rfl, trivial⟩⟩ rfl rfl hl.1 rfl (lv_room (Nat.le_of_ble_eq_true rfl)) dX2_whole_43 ⟨Nat.le_of_ble_eq_true rfl, Nat.le_of_ble_eq_true rfl⟩) (fun r3 hr3 => ?_)
      obtain rfl : r3 = sGc S j := hr3
      refine lv_lstore (lv' := [(6, .long (sGc S j)), (4, .long ((cs_lim S) 5)), (3, .ref (a (9 + j))), (0, .ref (a 0)), (1, .int (nI j)), (2, .int p1)]) hx hb dX2_whole_46 hl (by decide) rfl (fun ls hl => ?_)
      refine lv_lload hx hb dX2_whole_48 (lv_at hl 0 rfl) ?_
      refine lv_lconst (v := 0) hx hb dX2_whole_50 (by decide) ?_
      refine il_ne (tgt := 57) hx hb dX2_whole_51 dX2_whole_52 (by decide) (fun h_4 => ?_) (fun h_4 => ?_)
      · have h_g := h_4
        refine lv_iload_n hx hb dX2_whole_57 rfl (lv_at hl 5 rfl) ?_
        refine iz_ne (tgt := 68) hx hb dX2_whole_58 (by decide) (fun h_5 => ?_) (fun h_5 => ?_)
        · refine lv_lload hx hb dX2_whole_68 (lv_at hl 1 rfl) ?_
          refine lv_lload hx hb dX2_whole_70 (lv_at hl 0 rfl) ?_
          refine lv_ldiv hx hb dX2_whole_72 h_g ?_
          refine W.widen (k := 1) (n := 6) (Nat.zero_le _) (Nat.zero_le _) ?_
          refine vx_ret ?_
          exact W.lret (v := ((cs_lim S) 5) / (sGc S j)) hx hb hr (fun t ht hW => ⟨⟨((cs_lim S) 5) / (sGc S j), S, rfl, ⟨(by first | rfl | (simp only [rWx, Option.elim_none, Option.elim_some, hix, if_neg h_2, if_neg h_4, if_neg h_5])), (by first | rfl | (simp only [rWx, Option.elim_none, Option.elim_some, hix, if_neg h_2, if_neg h_4, if_neg h_5])), (fun h9 => h_2 h9.2)⟩, by rw [ht]; exact hP, va_K.moved hW.alike hK, hD⟩, hS.F ht⟩) hS.2.2 dX2_whole_73
        · refine lv_aload_n hx hb dX2_whole_61 rfl (lv_at hl 2 rfl) ?_
          refine va_getN (D := D) (ci := 1) (v := .long ((cs_ch S) j)) (C := RX0) (T := TX0) (N := 6) hx hb hts iX2_whole_X0 hown hK hP (9 + j) (wX_c hj) rfl 0 (by decide) (va_Nw.use rfl (hN _ (List.mem_of_getElem? (i := 6) rfl))) (fun _ h9 => h9) rfl dX2_whole_62 ?_
          refine lv_goto (tgt := 70) hx hb dX2_whole_65 (by decide) ?_
          refine lv_lload hx hb dX2_whole_70 (lv_at hl 0 rfl) ?_
          refine lv_ldiv hx hb dX2_whole_72 h_g ?_
          refine W.widen (k := 1) (n := 6) (Nat.zero_le _) (Nat.zero_le _) ?_
          refine vx_ret ?_
          exact W.lret (v := ((cs_ch S) j) / (sGc S j)) hx hb hr (fun t ht hW => ⟨⟨((cs_ch S) j) / (sGc S j), S, rfl, ⟨(by first | rfl | (simp only [rWx, Option.elim_none, Option.elim_some, hix, if_neg h_2, if_neg h_4, if_pos h_5])), (by first | rfl | (simp only [rWx, Option.elim_none, Option.elim_some, hix, if_neg h_2, if_neg h_4, if_pos h_5])), (fun h9 => h_2 h9.2)⟩, by rw [ht]; exact hP, va_K.moved hW.alike hK, hD⟩, hS.F ht⟩) hS.2.2 dX2_whole_73
      · refine lv_lconst (v := 0) hx hb dX2_whole_55 (by decide) ?_
        refine W.widen (k := 1) (n := 6) (Nat.zero_le _) (Nat.zero_le _) ?_
        refine vx_ret ?_
        exact W.lret (v := 0) hx hb hr (fun t ht hW => ⟨⟨0, S, rfl, ⟨(by first | rfl | (simp only [rWx, Option.elim_none, Option.elim_some, hix, if_neg h_2, if_pos h_4])), (by first | rfl | (simp only [rWx, Option.elim_none, Option.elim_some, hix, if_neg h_2, if_pos h_4])), (fun h9 => h_2 h9.2)⟩, by rw [ht]; exact hP, va_K.moved hW.alike hK, hD⟩, hS.F ht⟩) hS.2.2 dX2_whole_56
    · exact vx_throwS (own := RX2) (cls := "java/lang/ArithmeticException") (text := "the capacity is 0") (names := ["java/lang/RuntimeException", "java/lang/Exception"]) (ik := 101) (is := 103) (ic := 105) (sa := sa) (A := A) hx hb hst hown (by decide +kernel) (by decide +kernel) (hts (.classLink RX2 101 "java/lang/ArithmeticException") (by decide +kernel)) (hts (.initialized "java/lang/ArithmeticException") (by decide +kernel)) hXR (hat_warm xD_ok (State.WarmedH.refl s) hXA) (fun w h9 => List.all_eq_true.mp (by decide +kernel : (Cond.classLink RX2 101 "java/lang/ArithmeticException" :: Cond.initialized "java/lang/ArithmeticException" :: xD).all vx_ot = true) w h9) hXU hXZ hS (hl.1.trans hml.symm) dX2_whole_27 dX2_whole_30 dX2_whole_31 dX2_whole_33 dX2_whole_36 (fun x h9 => (hnt x h9).elim) (Nat.le_of_ble_eq_true rfl) (Nat.le_of_ble_eq_true rfl) (Nat.le_of_ble_eq_true rfl) (Nat.le_of_ble_eq_true rfl) hlocks (fun t ha hz hk9 => ⟨S, ⟨rfl, ⟨by rw [hix]; rfl, h_2⟩⟩, ⟨rfl, hP.kept (fun k q hk => hk9 q.1 (vx_lt hP hk)), va_K.moved ha hK, hD⟩, hz, fun q h1 _ => hk9 q h1⟩) hS.2.2 (Nat.le_refl _) (Nat.le_refl _)
