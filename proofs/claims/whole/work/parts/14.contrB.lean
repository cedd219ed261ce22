set_option maxHeartbeats 4000000 in
set_option maxRecDepth 100000 in
theorem kX0_withinShare (l : Launch) (x : UInt64) : Met l yX0_withinShare wsX0_withinShare ({ frames := 0, cells := 0, slots := 0, locals := 0 }) (va_Pc [.double x] (fun _ => True)) (vp_Sd (fun r => r = sWin x)) 0 0 (fun _ => False) := by
  refine Met.ofW (cc := cX0_withinShare) (maxL := 2) (ret := (some .double)) (by decide) rfl ?_
  intro p e s m args below meth c s₁ B hml hv
  obtain ⟨rfl, -⟩ := hv
  have hx := B.exec
  have hb := B.bytes
  have hr := B.returns
  have hts := atoms_spec (ws := wsX0_withinShare) B.pre
  have hown : s.vm.findClass RX0 = some m.cls := findClass_of_methodNamed B.named
  have hlocks := B.notSynchronized
  have hl := lv_entry ([.double x]) (n := 2) (Nat.le_of_ble_eq_true rfl)
  rw [lg_entry_eq]
  generalize (lg_sl ([.double x]) ++ List.replicate (2 - (lg_sl ([.double x])).length) Slot.unset).toArray = ls at hl ⊢
  have hl : lv_has ls 2 [(0, .double x)] := hl
  refine lv_dload_n hx hb dX0_withinShare_0 rfl (lv_at hl 0 rfl) ?_
  refine lv_dconst0 hx hb dX0_withinShare_1 ?_
  refine lv_dcmp hx hb dX0_withinShare_2 ?_
  refine iz_ge (tgt := 8) hx hb dX0_withinShare_3 (by decide) (fun h_1 => ?_) (fun h_1 => ?_)
  · refine lv_dload_n hx hb dX0_withinShare_8 rfl (lv_at hl 0 rfl) ?_
    refine lv_dconst1 hx hb dX0_withinShare_9 ?_
    refine lv_dcmp hx hb dX0_withinShare_10 ?_
    refine iz_le (tgt := 18) hx hb dX0_withinShare_11 (by decide) (fun h_2 => ?_) (fun h_2 => ?_)
    · refine lv_dload_n hx hb dX0_withinShare_18 rfl (lv_at hl 0 rfl) ?_
      exact W.dret (v := x) hx hb hr (fun t ht hW => ⟨x, rfl, (by simp only [sWin, if_neg h_1, if_neg h_2]), ht⟩) (fun q hq => absurd hq List.not_mem_nil) dX0_withinShare_19
    · refine lv_dconst1 hx hb dX0_withinShare_14 ?_
      refine lv_goto (tgt := 19) hx hb dX0_withinShare_15 (by decide) ?_
      exact W.dret (v := FP.dconst1) hx hb hr (fun t ht hW => ⟨FP.dconst1, rfl, (by simp only [sWin, if_neg h_1, if_pos h_2]), ht⟩) (fun q hq => absurd hq List.not_mem_nil) dX0_withinShare_19
  · refine lv_dconst0 hx hb dX0_withinShare_6 ?_
    exact W.dret (v := FP.dconst0) hx hb hr (fun t ht hW => ⟨FP.dconst0, rfl, (by simp only [sWin, if_pos h_1]), ht⟩) (fun q hq => absurd hq List.not_mem_nil) dX0_withinShare_7
set_option maxRecDepth 20000 in
theorem iX2_leastVoltage_X0 : ∀ w ∈ wsX00, w ∈ wsX2_leastVoltage := by decide +kernel
set_option maxRecDepth 20000 in
theorem iX2_leastVoltage_X2 : ∀ w ∈ wsX20, w ∈ wsX2_leastVoltage := by decide +kernel
set_option maxHeartbeats 4000000 in
set_option maxRecDepth 100000 in
theorem kX2_leastVoltage (l : Launch) (D : va_G) (cy : Nat → ClassId) (a : Nat → Nat) (n : Nat) (S : CS) (sz : Nat) (hn : n ≤ 24) : Met l yX2_leastVoltage wsX2_leastVoltage ({ frames := 1, cells := 0, slots := 0, locals := 24 }) (va_Pc [.ref (a 0)] (pX D cy a n S sz)) (vp_Sl (fun r => r = sLv (cs_vo S) n)) 0 0 (fun _ => False) := by
  refine Met.ofW (cc := cX2_leastVoltage) (maxL := 7) (ret := (some .long)) (by decide) rfl ?_
  intro p e s m args below meth c s₁ B hml hv
  obtain ⟨rfl, hsz, hP, hK, hD0, hN⟩ := hv
  have hx := B.exec
  have hb := B.bytes
  have hr := B.returns
  have hts := atoms_spec (ws := wsX2_leastVoltage) B.pre
  have hown : s.vm.findClass RX2 = some m.cls := findClass_of_methodNamed B.named
  have hlocks := B.notSynchronized
  have hD := hD0
  have hl := lv_entry ([.ref (a 0)]) (n := 7) (Nat.le_of_ble_eq_true rfl)
  rw [lg_entry_eq]
  generalize (lg_sl ([.ref (a 0)]) ++ List.replicate (7 - (lg_sl ([.ref (a 0)])).length) Slot.unset).toArray = ls at hl ⊢
  have hl : lv_has ls 7 [(0, .ref (a 0))] := hl
  refine lv_ldc2 hx hb hown (hts (.constantLong RX2 131 (9223372036854775807)) (by decide +kernel)) dX2_leastVoltage_0 ?_
  refine lv_lstore_n (lv' := [(1, .long 9223372036854775807), (0, .ref (a 0))]) hx hb dX2_leastVoltage_3 rfl hl (by decide) rfl (fun ls hl => ?_)
  refine lv_aload_n hx hb dX2_leastVoltage_4 rfl (lv_at hl 1 rfl) ?_
  refine va_get (D := D) (ci := 3) (v := .ref (a 1)) (C := RX2) (T := TX2) (N := 8) hx hb hts iX2_leastVoltage_X2 hown hK hP 0 rfl rfl 0 (by decide) (hts (.fieldLink RX2 11 "CellRows2" "cells" "[LCellRows2$Cell;") (by decide +kernel)) (fun _ h9 => h9) rfl dX2_leastVoltage_5 ?_
  refine lv_astore_n (lv' := [(3, .ref (a 1)), (1, .long 9223372036854775807), (0, .ref (a 0))]) hx hb dX2_leastVoltage_8 rfl hl (by decide) rfl (fun ls hl => ?_)
  refine lv_aload_n hx hb dX2_leastVoltage_9 rfl (lv_at hl 0 rfl) ?_
  refine va_alen (v := nI n) hx hb hK hP 1 0 rfl rfl rfl dX2_leastVoltage_10 ?_
  refine lv_istore (lv' := [(4, .int (nI n)), (3, .ref (a 1)), (1, .long 9223372036854775807), (0, .ref (a 0))]) hx hb dX2_leastVoltage_11 hl (by decide) rfl (fun ls hl => ?_)
  refine lv_iconst (v := 0) hx hb dX2_leastVoltage_13 (by decide) ?_
  refine lv_istore (lv' := [(5, .int 0), (4, .int (nI n)), (3, .ref (a 1)), (1, .long 9223372036854775807), (0, .ref (a 0))]) hx hb dX2_leastVoltage_14 hl (by decide) rfl (fun ls hl => ?_)
  refine W.loop (α := Nat × Array Slot) (g := fun v9 => F0 m 16 v9.2 []) (fun k9 v9 => v9.1 + k9 = n ∧ lv_has v9.2 7 [(1, .long (sLv (cs_vo S) v9.1)), (3, .ref (a 1)), (4, .int (nI n)), (5, .int (nI v9.1))]) ?_ ?_ n (0, ls) ⟨by omega, lv_sub hl [3, 2, 1, 0] rfl⟩
  · rintro ⟨i, ls⟩ ⟨h9, hl⟩
    have h9 : i + 0 = n := h9
    have e9 : i = n := by omega
    have hl : lv_has ls 7 [(1, .long (sLv (cs_vo S) i)), (3, .ref (a 1)), (4, .int (nI n)), (5, .int (nI i))] := hl
    rw [e9] at hl
    have hl : lv_has ls 7 [(1, .long (sLv (cs_vo S) n)), (3, .ref (a 1)), (4, .int (nI n)), (5, .int (nI n))] := hl
    refine lv_iload hx hb dX2_leastVoltage_16 (lv_at hl 3 rfl) ?_
    refine lv_iload hx hb dX2_leastVoltage_18 (lv_at hl 2 rfl) ?_
    refine ib_ge (tgt := 45) hx hb dX2_leastVoltage_20 (by decide) (fun h_2 => ?_) (fun h_2 => ?_)
    · refine lv_lload_n hx hb dX2_leastVoltage_45 rfl (lv_at hl 0 rfl) ?_
      exact W.lret (v := sLv (cs_vo S) n) hx hb hr (fun t ht hW => ⟨sLv (cs_vo S) n, rfl, rfl, ht⟩) (fun q hq => absurd hq List.not_mem_nil) dX2_leastVoltage_46
    · exact absurd h_2 (nI_nlt (a := n) (b := n) (Nat.le_refl _) (by omega))
  · rintro k9 ih ⟨i, ls⟩ ⟨h9, hl⟩
    have h9 : i + (k9 + 1) = n := h9
    have hi : i < n := by omega
    have hl : lv_has ls 7 [(1, .long (sLv (cs_vo S) i)), (3, .ref (a 1)), (4, .int (nI n)), (5, .int (nI i))] := hl
    refine lv_iload hx hb dX2_leastVoltage_16 (lv_at hl 3 rfl) ?_
    refine lv_iload hx hb dX2_leastVoltage_18 (lv_at hl 2 rfl) ?_
    refine ib_ge (tgt := 45) hx hb dX2_leastVoltage_20 (by decide) (fun h_3 => ?_) (fun h_3 => ?_)
    · exact absurd (nI_lt (a := i) (b := n) (by omega) (by omega)) h_3
    · refine lv_aload_n hx hb dX2_leastVoltage_23 rfl (lv_at hl 1 rfl) ?_
      refine lv_iload hx hb dX2_leastVoltage_24 (lv_at hl 3 rfl) ?_
      refine ra_q hx hb hK hP 1 0 rfl rfl i rfl (by omega) (by omega) dX2_leastVoltage_26 ?_
      refine W.eqs (st2 := [.ref (a (9 + i))]) rfl ?_
      refine lv_astore (lv' := [(6, .ref (a (9 + i))), (1, .long (sLv (cs_vo S) i)), (3, .ref (a 1)), (4, .int (nI n)), (5, .int (nI i))]) hx hb dX2_leastVoltage_27 hl (by decide) rfl (fun ls hl => ?_)
      refine lv_lload_n hx hb dX2_leastVoltage_29 rfl (lv_at hl 1 rfl) ?_
      refine lv_aload hx hb dX2_leastVoltage_30 (lv_at hl 0 rfl) ?_
      refine va_getN (D := D) (ci := 1) (v := .long ((cs_vo S) i)) (C := RX0) (T := TX0) (N := 6) hx hb hts iX2_leastVoltage_X0 hown hK hP (9 + i) (wX_c hi) rfl 2 (by decide) (va_Nw.use rfl (hN _ (List.mem_of_getElem? (i := 4) rfl))) (fun _ h9 => h9) rfl dX2_leastVoltage_32 ?_
      refine va_mmin_long hx hb (hml.trans hl.1.symm) hown (hts (.methodLink RX2 182 Lib.MathLoose.min_long.x) (by decide +kernel)) (hts (.static Lib.MathLoose.min_long.x) (by decide +kernel)) (hts (.initialized "java/lang/Math") (by decide +kernel)) (hts (.code Lib.MathLoose.min_long.x Lib.MathLoose.min_long.code 4 (some .long)) (by decide +kernel)) (Nat.le_of_ble_eq_true rfl) (Nat.le_of_ble_eq_true rfl) (Nat.le_of_ble_eq_true rfl) (Nat.le_of_ble_eq_true rfl) dX2_leastVoltage_35 ?_
      refine lv_lstore_n (lv' := [(1, .long (if (cs_vo S) i < sLv (cs_vo S) i then (cs_vo S) i else sLv (cs_vo S) i)), (6, .ref (a (9 + i))), (3, .ref (a 1)), (4, .int (nI n)), (5, .int (nI i))]) hx hb dX2_leastVoltage_38 rfl hl (by decide) rfl (fun ls hl => ?_)
      refine lv_iinc (v := nI (i + 1)) (lv' := [(5, .int (nI (i + 1))), (1, .long (if (cs_vo S) i < sLv (cs_vo S) i then (cs_vo S) i else sLv (cs_vo S) i)), (6, .ref (a (9 + i))), (3, .ref (a 1)), (4, .int (nI n))]) hx hb dX2_leastVoltage_39 hl (k := 4) rfl (nI_1 i) (by decide) rfl (fun ls hl => ?_)
      refine lv_goto (tgt := 16) hx hb dX2_leastVoltage_42 (by decide) ?_
      exact ih ((i + 1), ls) ⟨by show i + 1 + k9 = n; omega, lv_sub hl [1, 3, 4, 0] rfl⟩
set_option maxRecDepth 20000 in
theorem iX2_greatestWarmth_X0 : ∀ w ∈ wsX00, w ∈ wsX2_greatestWarmth := by decide +kernel
set_option maxRecDepth 20000 in
theorem iX2_greatestWarmth_X2 : ∀ w ∈ wsX20, w ∈ wsX2_greatestWarmth := by decide +kernel
set_option maxHeartbeats 4000000 in
set_option maxRecDepth 100000 in
theorem kX2_greatestWarmth (l : Launch) (D : va_G) (cy : Nat → ClassId) (a : Nat → Nat) (n : Nat) (S : CS) (sz : Nat) (hn : n ≤ 24) : Met l yX2_greatestWarmth wsX2_greatestWarmth ({ frames := 1, cells := 0, slots := 0, locals := 24 }) (va_Pc [.ref (a 0)] (pX D cy a n S sz)) (vp_Sl (fun r => r = sGw (cs_wa S) n)) 0 0 (fun _ => False) := by
  refine Met.ofW (cc := cX2_greatestWarmth) (maxL := 7) (ret := (some .long)) (by decide) rfl ?_
  intro p e s m args below meth c s₁ B hml hv
  obtain ⟨rfl, hsz, hP, hK, hD0, hN⟩ := hv
  have hx := B.exec
  have hb := B.bytes
  have hr := B.returns
  have hts := atoms_spec (ws := wsX2_greatestWarmth) B.pre
  have hown : s.vm.findClass RX2 = some m.cls := findClass_of_methodNamed B.named
  have hlocks := B.notSynchronized
  have hD := hD0
  have hl := lv_entry ([.ref (a 0)]) (n := 7) (Nat.le_of_ble_eq_true rfl)
  rw [lg_entry_eq]
  generalize (lg_sl ([.ref (a 0)]) ++ List.replicate (7 - (lg_sl ([.ref (a 0)])).length) Slot.unset).toArray = ls at hl ⊢
  have hl : lv_has ls 7 [(0, .ref (a 0))] := hl
  refine lv_ldc2 hx hb hown (hts (.constantLong RX2 185 (-9223372036854775808)) (by decide +kernel)) dX2_greatestWarmth_0 ?_
  refine lv_lstore_n (lv' := [(1, .long (-9223372036854775808)), (0, .ref (a 0))]) hx hb dX2_greatestWarmth_3 rfl hl (by decide) rfl (fun ls hl => ?_)
  refine lv_aload_n hx hb dX2_greatestWarmth_4 rfl (lv_at hl 1 rfl) ?_
  refine va_get (D := D) (ci := 3) (v := .ref (a 1)) (C := RX2) (T := TX2) (N := 8) hx hb hts iX2_greatestWarmth_X2 hown hK hP 0 rfl rfl 0 (by decide) (hts (.fieldLink RX2 11 "CellRows2" "cells" "[LCellRows2$Cell;") (by decide +kernel)) (fun _ h9 => h9) rfl dX2_greatestWarmth_5 ?_
  refine lv_astore_n (lv' := [(3, .ref (a 1)), (1, .long (-9223372036854775808)), (0, .ref (a 0))]) hx hb dX2_greatestWarmth_8 rfl hl (by decide) rfl (fun ls hl => ?_)
  refine lv_aload_n hx hb dX2_greatestWarmth_9 rfl (lv_at hl 0 rfl) ?_
  refine va_alen (v := nI n) hx hb hK hP 1 0 rfl rfl rfl dX2_greatestWarmth_10 ?_
  refine lv_istore (lv' := [(4, .int (nI n)), (3, .ref (a 1)), (1, .long (-9223372036854775808)), (0, .ref (a 0))]) hx hb dX2_greatestWarmth_11 hl (by decide) rfl (fun ls hl => ?_)
  refine lv_iconst (v := 0) hx hb dX2_greatestWarmth_13 (by decide) ?_
  refine lv_istore (lv' := [(5, .int 0), (4, .int (nI n)), (3, .ref (a 1)), (1, .long (-9223372036854775808)), (0, .ref (a 0))]) hx hb dX2_greatestWarmth_14 hl (by decide) rfl (fun ls hl => ?_)
  refine W.loop (α := Nat × Array Slot) (g := fun v9 => F0 m 16 v9.2 []) (fun k9 v9 => v9.1 + k9 = n ∧ lv_has v9.2 7 [(1, .long (sGw (cs_wa S) v9.1)), (3, .ref (a 1)), (4, .int (nI n)), (5, .int (nI v9.1))]) ?_ ?_ n (0, ls) ⟨by omega, lv_sub hl [3, 2, 1, 0] rfl⟩
  · rintro ⟨i, ls⟩ ⟨h9, hl⟩
    have h9 : i + 0 = n := h9
    have e9 : i = n := by omega
    have hl : lv_has ls 7 [(1, .long (sGw (cs_wa S) i)), (3, .ref (a 1)), (4, .int (nI n)), (5, .int (nI i))] := hl
    rw [e9] at hl
    have hl : lv_has ls 7 [(1, .long (sGw (cs_wa S) n)), (3, .ref (a 1)), (4, .int (nI n)), (5, .int (nI n))] := hl
    refine lv_iload hx hb dX2_greatestWarmth_16 (lv_at hl 3 rfl) ?_
    refine lv_iload hx hb dX2_greatestWarmth_18 (lv_at hl 2 rfl) ?_
    refine ib_ge (tgt := 45) hx hb dX2_greatestWarmth_20 (by decide) (fun h_2 => ?_) (fun h_2 => ?_)
    · refine lv_lload_n hx hb dX2_greatestWarmth_45 rfl (lv_at hl 0 rfl) ?_
      exact W.lret (v := sGw (cs_wa S) n) hx hb hr (fun t ht hW => ⟨sGw (cs_wa S) n, rfl, rfl, ht⟩) (fun q hq => absurd hq List.not_mem_nil) dX2_greatestWarmth_46
    · exact absurd h_2 (nI_nlt (a := n) (b := n) (Nat.le_refl _) (by omega))
  · rintro k9 ih ⟨i, ls⟩ ⟨h9, hl⟩
    have h9 : i + (k9 + 1) = n := h9
    have hi : i < n := by omega
    have hl : lv_has ls 7 [(1, .long (sGw (cs_wa S) i)), (3, .ref (a 1)), (4, .int (nI n)), (5, .int (nI i))] := hl
    refine lv_iload hx hb dX2_greatestWarmth_16 (lv_at hl 3 rfl) ?_
    refine lv_iload hx hb dX2_greatestWarmth_18 (lv_at hl 2 rfl) ?_
    refine ib_ge (tgt := 45) hx hb dX2_greatestWarmth_20 (by decide) (fun h_3 => ?_) (fun h_3 => ?_)
    · exact absurd (nI_lt (a := i) (b := n) (by omega) (by omega)) h_3
    · refine lv_aload_n hx hb dX2_greatestWarmth_23 rfl (lv_at hl 1 rfl) ?_
      refine lv_iload hx hb dX2_greatestWarmth_24 (lv_at hl 3 rfl) ?_
      refine ra_q hx hb hK hP 1 0 rfl rfl i rfl (by omega) (by omega) dX2_greatestWarmth_26 ?_
      refine W.eqs (st2 := [.ref (a (9 + i))]) rfl ?_
      refine lv_astore (lv' := [(6, .ref (a (9 + i))), (1, .long (sGw (cs_wa S) i)), (3, .ref (a 1)), (4, .int (nI n)), (5, .int (nI i))]) hx hb dX2_greatestWarmth_27 hl (by decide) rfl (fun ls hl => ?_)
      refine lv_lload_n hx hb dX2_greatestWarmth_29 rfl (lv_at hl 1 rfl) ?_
      refine lv_aload hx hb dX2_greatestWarmth_30 (lv_at hl 0 rfl) ?_
      refine va_getN (D := D) (ci := 1) (v := .long ((cs_wa S) i)) (C := RX0) (T := TX0) (N := 6) hx hb hts iX2_greatestWarmth_X0 hown hK hP (9 + i) (wX_c hi) rfl 3 (by decide) (va_Nw.use rfl (hN _ (List.mem_of_getElem? (i := 5) rfl))) (fun _ h9 => h9) rfl dX2_greatestWarmth_32 ?_
      refine va_mmax_long hx hb (hml.trans hl.1.symm) hown (hts (.methodLink RX2 187 Lib.MathLoose.max_long.x) (by decide +kernel)) (hts (.static Lib.MathLoose.max_long.x) (by decide +kernel)) (hts (.initialized "java/lang/Math") (by decide +kernel)) (hts (.code Lib.MathLoose.max_long.x Lib.MathLoose.max_long.code 4 (some .long)) (by decide +kernel)) (Nat.le_of_ble_eq_true rfl) (Nat.le_of_ble_eq_true rfl) (Nat.le_of_ble_eq_true rfl) (Nat.le_of_ble_eq_true rfl) dX2_greatestWarmth_35 ?_
      refine lv_lstore_n (lv' := [(1, .long (if (cs_wa S) i < sGw (cs_wa S) i then sGw (cs_wa S) i else (cs_wa S) i)), (6, .ref (a (9 + i))), (3, .ref (a 1)), (4, .int (nI n)), (5, .int (nI i))]) hx hb dX2_greatestWarmth_38 rfl hl (by decide) rfl (fun ls hl => ?_)
      refine lv_iinc (v := nI (i + 1)) (lv' := [(5, .int (nI (i + 1))), (1, .long (if (cs_wa S) i < sGw (cs_wa S) i then sGw (cs_wa S) i else (cs_wa S) i)), (6, .ref (a (9 + i))), (3, .ref (a 1)), (4, .int (nI n))]) hx hb dX2_greatestWarmth_39 hl (k := 4) rfl (nI_1 i) (by decide) rfl (fun ls hl => ?_)
      refine lv_goto (tgt := 16) hx hb dX2_greatestWarmth_42 (by decide) ?_
      exact ih ((i + 1), ls) ⟨by show i + 1 + k9 = n; omega, lv_sub hl [1, 3, 4, 0] rfl⟩
set_option maxRecDepth 20000 in
theorem iX2_bleedingCells_X0 : ∀ w ∈ wsX00, w ∈ wsX2_bleedingCells := by decide +kernel
set_option maxRecDepth 20000 in
theorem iX2_bleedingCells_X2 : ∀ w ∈ wsX20, w ∈ wsX2_bleedingCells := by decide +kernel
set_option maxHeartbeats 4000000 in
set_option maxRecDepth 100000 in
theorem kX2_bleedingCells (l : Launch) (D : va_G) (cy : Nat → ClassId) (a : Nat → Nat) (n : Nat) (S : CS) (sz : Nat) (hn : n ≤ 24) : Met l yX2_bleedingCells wsX2_bleedingCells ({ frames := 0, cells := 0, slots := 0, locals := 0 }) (va_Pc [.ref (a 0)] (pX D cy a n S sz)) (vp_Si (fun r => r = sBc (cs_bl S) n)) 0 0 (fun _ => False) := by
  refine Met.ofW (cc := cX2_bleedingCells) (maxL := 6) (ret := (some .int)) (by decide) rfl ?_
  intro p e s m args below meth c s₁ B hml hv
  obtain ⟨rfl, hsz, hP, hK, hD0, hN⟩ := hv
  have hx := B.exec
  have hb := B.bytes
  have hr := B.returns
  have hts := atoms_spec (ws := wsX2_bleedingCells) B.pre
  have hown : s.vm.findClass RX2 = some m.cls := findClass_of_methodNamed B.named
  have hlocks := B.notSynchronized
  have hD := hD0
  have hl := lv_entry ([.ref (a 0)]) (n := 6) (Nat.le_of_ble_eq_true rfl)
  rw [lg_entry_eq]
  generalize (lg_sl ([.ref (a 0)]) ++ List.replicate (6 - (lg_sl ([.ref (a 0)])).length) Slot.unset).toArray = ls at hl ⊢
  have hl : lv_has ls 6 [(0, .ref (a 0))] := hl
  refine lv_iconst (v := 0) hx hb dX2_bleedingCells_0 (by decide) ?_
  refine lv_istore_n (lv' := [(1, .int 0), (0, .ref (a 0))]) hx hb dX2_bleedingCells_1 rfl hl (by decide) rfl (fun ls hl => ?_)
  refine lv_aload_n hx hb dX2_bleedingCells_2 rfl (lv_at hl 1 rfl) ?_
  refine va_get (D := D) (ci := 3) (v := .ref (a 1)) (C := RX2) (T := TX2) (N := 8) hx hb hts iX2_bleedingCells_X2 hown hK hP 0 rfl rfl 0 (by decide) (hts (.fieldLink RX2 11 "CellRows2" "cells" "[LCellRows2$Cell;") (by decide +kernel)) (fun _ h9 => h9) rfl dX2_bleedingCells_3 ?_
  refine lv_astore_n (lv' := [(2, .ref (a 1)), (1, .int 0), (0, .ref (a 0))]) hx hb dX2_bleedingCells_6 rfl hl (by decide) rfl (fun ls hl => ?_)
  refine lv_aload_n hx hb dX2_bleedingCells_7 rfl (lv_at hl 0 rfl) ?_
  refine va_alen (v := nI n) hx hb hK hP 1 0 rfl rfl rfl dX2_bleedingCells_8 ?_
  refine lv_istore_n (lv' := [(3, .int (nI n)), (2, .ref (a 1)), (1, .int 0), (0, .ref (a 0))]) hx hb dX2_bleedingCells_9 rfl hl (by decide) rfl (fun ls hl => ?_)
  refine lv_iconst (v := 0) hx hb dX2_bleedingCells_10 (by decide) ?_
  refine lv_istore (lv' := [(4, .int 0), (3, .int (nI n)), (2, .ref (a 1)), (1, .int 0), (0, .ref (a 0))]) hx hb dX2_bleedingCells_11 hl (by decide) rfl (fun ls hl => ?_)
  refine W.loop (α := Nat × Array Slot) (g := fun v9 => F0 m 13 v9.2 []) (fun k9 v9 => v9.1 + k9 = n ∧ lv_has v9.2 6 [(1, .int (sBc (cs_bl S) v9.1)), (2, .ref (a 1)), (3, .int (nI n)), (4, .int (nI v9.1))]) ?_ ?_ n (0, ls) ⟨by omega, lv_sub hl [3, 2, 1, 0] rfl⟩
  · rintro ⟨i, ls⟩ ⟨h9, hl⟩
    have h9 : i + 0 = n := h9
    have e9 : i = n := by omega
    have hl : lv_has ls 6 [(1, .int (sBc (cs_bl S) i)), (2, .ref (a 1)), (3, .int (nI n)), (4, .int (nI i))] := hl
    rw [e9] at hl
    have hl : lv_has ls 6 [(1, .int (sBc (cs_bl S) n)), (2, .ref (a 1)), (3, .int (nI n)), (4, .int (nI n))] := hl
    refine lv_iload hx hb dX2_bleedingCells_13 (lv_at hl 3 rfl) ?_
    refine lv_iload_n hx hb dX2_bleedingCells_15 rfl (lv_at hl 2 rfl) ?_
    refine ib_ge (tgt := 42) hx hb dX2_bleedingCells_16 (by decide) (fun h_2 => ?_) (fun h_2 => ?_)
    · refine lv_iload_n hx hb dX2_bleedingCells_42 rfl (lv_at hl 0 rfl) ?_
      exact W.iret (v := sBc (cs_bl S) n) hx hb hr (fun t ht hW => ⟨sBc (cs_bl S) n, rfl, rfl, ht⟩) (fun q hq => absurd hq List.not_mem_nil) dX2_bleedingCells_43
    · exact absurd h_2 (nI_nlt (a := n) (b := n) (Nat.le_refl _) (by omega))
  · rintro k9 ih ⟨i, ls⟩ ⟨h9, hl⟩
    have h9 : i + (k9 + 1) = n := h9
    have hi : i < n := by omega
    have hl : lv_has ls 6 [(1, .int (sBc (cs_bl S) i)), (2, .ref (a 1)), (3, .int (nI n)), (4, .int (nI i))] := hl
    refine lv_iload hx hb dX2_bleedingCells_13 (lv_at hl 3 rfl) ?_
    refine lv_iload_n hx hb dX2_bleedingCells_15 rfl (lv_at hl 2 rfl) ?_
    refine ib_ge (tgt := 42) hx hb dX2_bleedingCells_16 (by decide) (fun h_3 => ?_) (fun h_3 => ?_)
    · exact absurd (nI_lt (a := i) (b := n) (by omega) (by omega)) h_3
    · refine lv_aload_n hx hb dX2_bleedingCells_19 rfl (lv_at hl 1 rfl) ?_
      refine lv_iload hx hb dX2_bleedingCells_20 (lv_at hl 3 rfl) ?_
      refine ra_q hx hb hK hP 1 0 rfl rfl i rfl (by omega) (by omega) dX2_bleedingCells_22 ?_
      refine W.eqs (st2 := [.ref (a (9 + i))]) rfl ?_
      refine lv_astore (lv' := [(5, .ref (a (9 + i))), (1, .int (sBc (cs_bl S) i)), (2, .ref (a 1)), (3, .int (nI n)), (4, .int (nI i))]) hx hb dX2_bleedingCells_23 hl (by decide) rfl (fun ls hl => ?_)
      refine lv_aload hx hb dX2_bleedingCells_25 (lv_at hl 0 rfl) ?_
      refine va_getN (D := D) (ci := 1) (v := .int ((cs_bl S) i)) (C := RX0) (T := TX0) (N := 6) hx hb hts iX2_bleedingCells_X0 hown hK hP (9 + i) (wX_c hi) rfl 5 (by decide) (va_Nw.use rfl (hN _ (List.mem_of_getElem? (i := 0) rfl))) (fun _ h9 => h9) rfl dX2_bleedingCells_27 ?_
      refine iz_eq (tgt := 36) hx hb dX2_bleedingCells_30 (by decide) (fun h_4 => ?_) (fun h_4 => ?_)
      · refine lv_iinc (v := nI (i + 1)) (lv' := [(4, .int (nI (i + 1))), (5, .ref (a (9 + i))), (1, .int (sBc (cs_bl S) i)), (2, .ref (a 1)), (3, .int (nI n))]) hx hb dX2_bleedingCells_36 hl (k := 4) rfl (nI_1 i) (by decide) rfl (fun ls hl => ?_)
        refine lv_goto (tgt := 13) hx hb dX2_bleedingCells_39 (by decide) ?_
        exact ih ((i + 1), ls) ⟨by show i + 1 + k9 = n; omega, (by show lv_has ls 6 [(1, .int (sBc (cs_bl S) (i + 1))), (2, .ref (a 1)), (3, .int (nI n)), (4, .int (nI (i + 1)))]; rw [(show sBc (cs_bl S) (i + 1) = sBc (cs_bl S) i from by simp only [sBc, if_pos h_3, if_pos h_4])]; exact lv_sub hl [2, 3, 4, 0] rfl)⟩
      · refine lv_iinc (v := (sBc (cs_bl S) i) + 1) (lv' := [(1, .int ((sBc (cs_bl S) i) + 1)), (5, .ref (a (9 + i))), (2, .ref (a 1)), (3, .int (nI n)), (4, .int (nI i))]) hx hb dX2_bleedingCells_33 hl (k := 1) rfl rfl (by decide) rfl (fun ls hl => ?_)
        refine lv_iinc (v := nI (i + 1)) (lv' := [(4, .int (nI (i + 1))), (1, .int ((sBc (cs_bl S) i) + 1)), (5, .ref (a (9 + i))), (2, .ref (a 1)), (3, .int (nI n))]) hx hb dX2_bleedingCells_36 hl (k := 4) rfl (nI_1 i) (by decide) rfl (fun ls hl => ?_)
        refine lv_goto (tgt := 13) hx hb dX2_bleedingCells_39 (by decide) ?_
        exact ih ((i + 1), ls) ⟨by show i + 1 + k9 = n; omega, (by show lv_has ls 6 [(1, .int (sBc (cs_bl S) (i + 1))), (2, .ref (a 1)), (3, .int (nI n)), (4, .int (nI (i + 1)))]; rw [(show sBc (cs_bl S) (i + 1) = (sBc (cs_bl S) i) + 1 from by simp only [sBc, if_pos h_3, if_neg h_4])]; exact lv_sub hl [1, 3, 4, 0] rfl)⟩
set_option maxRecDepth 20000 in
theorem iX2_weakest_X0 : ∀ w ∈ wsX00, w ∈ wsX2_weakest := by decide +kernel
set_option maxRecDepth 20000 in
theorem iX2_weakest_X2 : ∀ w ∈ wsX20, w ∈ wsX2_weakest := by decide +kernel
set_option maxHeartbeats 4000000 in
set_option maxRecDepth 100000 in
theorem kX2_weakest (l : Launch) (D : va_G) (cy : Nat → ClassId) (a : Nat → Nat) (n : Nat) (S : CS) (sz : Nat) (hn : n ≤ 24) : Met l yX2_weakest wsX2_weakest ({ frames := 0, cells := 0, slots := 0, locals := 0 }) (va_Pc [.ref (a 0)] (pX D cy a n S sz)) (vp_Si (fun r => r = nI (sWk (cs_ch S) n))) 0 0 (fun _ => False) := by
  refine Met.ofW (cc := cX2_weakest) (maxL := 5) (ret := (some .int)) (by decide) rfl ?_
  intro p e s m args below meth c s₁ B hml hv
  obtain ⟨rfl, hsz, hP, hK, hD0, hN⟩ := hv
  have hx := B.exec
  have hb := B.bytes
  have hr := B.returns
  have hts := atoms_spec (ws := wsX2_weakest) B.pre
  have hown : s.vm.findClass RX2 = some m.cls := findClass_of_methodNamed B.named
  have hlocks := B.notSynchronized
  have hD := hD0
  have hl := lv_entry ([.ref (a 0)]) (n := 5) (Nat.le_of_ble_eq_true rfl)
  rw [lg_entry_eq]
  generalize (lg_sl ([.ref (a 0)]) ++ List.replicate (5 - (lg_sl ([.ref (a 0)])).length) Slot.unset).toArray = ls at hl ⊢
  have hl : lv_has ls 5 [(0, .ref (a 0))] := hl
  refine lv_iconst (v := 0) hx hb dX2_weakest_0 (by decide) ?_
  refine lv_istore_n (lv' := [(1, .int 0), (0, .ref (a 0))]) hx hb dX2_weakest_1 rfl hl (by decide) rfl (fun ls hl => ?_)
  refine lv_ldc2 hx hb hown (hts (.constantLong RX2 131 (9223372036854775807)) (by decide +kernel)) dX2_weakest_2 ?_
  refine lv_lstore_n (lv' := [(2, .long 9223372036854775807), (1, .int 0), (0, .ref (a 0))]) hx hb dX2_weakest_5 rfl hl (by decide) rfl (fun ls hl => ?_)
  refine lv_iconst (v := 0) hx hb dX2_weakest_6 (by decide) ?_
  refine lv_istore (lv' := [(4, .int 0), (2, .long 9223372036854775807), (1, .int 0), (0, .ref (a 0))]) hx hb dX2_weakest_7 hl (by decide) rfl (fun ls hl => ?_)
  refine W.loop (α := Nat × Array Slot) (g := fun v9 => F0 m 9 v9.2 []) (fun k9 v9 => v9.1 + k9 = n ∧ lv_has v9.2 5 [(0, .ref (a 0)), (1, .int (nI (sWk (cs_ch S) v9.1))), (2, .long (sLv (cs_ch S) v9.1)), (4, .int (nI v9.1))]) ?_ ?_ n (0, ls) ⟨by omega, lv_sub hl [3, 2, 1, 0] rfl⟩
  · rintro ⟨i, ls⟩ ⟨h9, hl⟩
    have h9 : i + 0 = n := h9
    have e9 : i = n := by omega
    have hl : lv_has ls 5 [(0, .ref (a 0)), (1, .int (nI (sWk (cs_ch S) i))), (2, .long (sLv (cs_ch S) i)), (4, .int (nI i))] := hl
    rw [e9] at hl
    have hl : lv_has ls 5 [(0, .ref (a 0)), (1, .int (nI (sWk (cs_ch S) n))), (2, .long (sLv (cs_ch S) n)), (4, .int (nI n))] := hl
    refine lv_iload hx hb dX2_weakest_9 (lv_at hl 3 rfl) ?_
    refine lv_aload_n hx hb dX2_weakest_11 rfl (lv_at hl 0 rfl) ?_
    refine va_get (D := D) (ci := 3) (v := .ref (a 1)) (C := RX2) (T := TX2) (N := 8) hx hb hts iX2_weakest_X2 hown hK hP 0 rfl rfl 0 (by decide) (hts (.fieldLink RX2 11 "CellRows2" "cells" "[LCellRows2$Cell;") (by decide +kernel)) (fun _ h9 => h9) rfl dX2_weakest_12 ?_
    refine va_alen (v := nI n) hx hb hK hP 1 0 rfl rfl rfl dX2_weakest_15 ?_
    refine ib_ge (tgt := 54) hx hb dX2_weakest_16 (by decide) (fun h_2 => ?_) (fun h_2 => ?_)
    · refine lv_iload_n hx hb dX2_weakest_54 rfl (lv_at hl 1 rfl) ?_
      exact W.iret (v := nI (sWk (cs_ch S) n)) hx hb hr (fun t ht hW => ⟨nI (sWk (cs_ch S) n), rfl, rfl, ht⟩) (fun q hq => absurd hq List.not_mem_nil) dX2_weakest_55
    · exact absurd h_2 (nI_nlt (a := n) (b := n) (Nat.le_refl _) (by omega))
  · rintro k9 ih ⟨i, ls⟩ ⟨h9, hl⟩
    have h9 : i + (k9 + 1) = n := h9
    have hi : i < n := by omega
    have hl : lv_has ls 5 [(0, .ref (a 0)), (1, .int (nI (sWk (cs_ch S) i))), (2, .long (sLv (cs_ch S) i)), (4, .int (nI i))] := hl
    refine lv_iload hx hb dX2_weakest_9 (lv_at hl 3 rfl) ?_
    refine lv_aload_n hx hb dX2_weakest_11 rfl (lv_at hl 0 rfl) ?_
    refine va_get (D := D) (ci := 3) (v := .ref (a 1)) (C := RX2) (T := TX2) (N := 8) hx hb hts iX2_weakest_X2 hown hK hP 0 rfl rfl 0 (by decide) (hts (.fieldLink RX2 11 "CellRows2" "cells" "[LCellRows2$Cell;") (by decide +kernel)) (fun _ h9 => h9) rfl dX2_weakest_12 ?_
    refine va_alen (v := nI n) hx hb hK hP 1 0 rfl rfl rfl dX2_weakest_15 ?_
    refine ib_ge (tgt := 54) hx hb dX2_weakest_16 (by decide) (fun h_3 => ?_) (fun h_3 => ?_)
    · exact absurd (nI_lt (a := i) (b := n) (by omega) (by omega)) h_3
    · refine lv_aload_n hx hb dX2_weakest_19 rfl (lv_at hl 0 rfl) ?_
      refine va_get (D := D) (ci := 3) (v := .ref (a 1)) (C := RX2) (T := TX2) (N := 8) hx hb hts iX2_weakest_X2 hown hK hP 0 rfl rfl 0 (by decide) (hts (.fieldLink RX2 11 "CellRows2" "cells" "[LCellRows2$Cell;") (by decide +kernel)) (fun _ h9 => h9) rfl dX2_weakest_20 ?_
      refine lv_iload hx hb dX2_weakest_23 (lv_at hl 3 rfl) ?_
      refine ra_q hx hb hK hP 1 0 rfl rfl i rfl (by omega) (by omega) dX2_weakest_25 ?_
      refine W.eqs (st2 := [.ref (a (9 + i))]) rfl ?_
      refine va_getN (D := D) (ci := 1) (v := .long ((cs_ch S) i)) (C := RX0) (T := TX0) (N := 6) hx hb hts iX2_weakest_X0 hown hK hP (9 + i) (wX_c hi) rfl 0 (by decide) (va_Nw.use rfl (hN _ (List.mem_of_getElem? (i := 6) rfl))) (fun _ h9 => h9) rfl dX2_weakest_26 ?_
      refine lv_lload_n hx hb dX2_weakest_29 rfl (lv_at hl 2 rfl) ?_
      refine il_ge (tgt := 48) hx hb dX2_weakest_30 dX2_weakest_31 (by decide) (fun h_4 => ?_) (fun h_4 => ?_)
      · refine lv_iinc (v := nI (i + 1)) (lv' := [(4, .int (nI (i + 1))), (0, .ref (a 0)), (1, .int (nI (sWk (cs_ch S) i))), (2, .long (sLv (cs_ch S) i))]) hx hb dX2_weakest_48 hl (k := 3) rfl (nI_1 i) (by decide) rfl (fun ls hl => ?_)
        refine lv_goto (tgt := 9) hx hb dX2_weakest_51 (by decide) ?_
        exact ih ((i + 1), ls) ⟨by show i + 1 + k9 = n; omega, (by show lv_has ls 5 [(0, .ref (a 0)), (1, .int (nI (sWk (cs_ch S) (i + 1)))), (2, .long (sLv (cs_ch S) (i + 1))), (4, .int (nI (i + 1)))]; rw [(show nI (sWk (cs_ch S) (i + 1)) = nI (sWk (cs_ch S) i) from by simp only [sWk, sLv, if_pos h_3, if_neg h_4]), (show sLv (cs_ch S) (i + 1) = sLv (cs_ch S) i from by simp only [sWk, sLv, if_pos h_3, if_neg h_4])]; exact lv_sub hl [1, 2, 3, 0] rfl)⟩
      · refine lv_aload_n hx hb dX2_weakest_34 rfl (lv_at hl 0 rfl) ?_
        refine va_get (D := D) (ci := 3) (v := .ref (a 1)) (C := RX2) (T := TX2) (N := 8) hx hb hts iX2_weakest_X2 hown hK hP 0 rfl rfl 0 (by decide) (hts (.fieldLink RX2 11 "CellRows2" "cells" "[LCellRows2$Cell;") (by decide +kernel)) (fun _ h9 => h9) rfl dX2_weakest_35 ?_
        refine lv_iload hx hb dX2_weakest_38 (lv_at hl 3 rfl) ?_
        refine ra_q hx hb hK hP 1 0 rfl rfl i rfl (by omega) (by omega) dX2_weakest_40 ?_
        refine W.eqs (st2 := [.ref (a (9 + i))]) rfl ?_
        refine va_getN (D := D) (ci := 1) (v := .long ((cs_ch S) i)) (C := RX0) (T := TX0) (N := 6) hx hb hts iX2_weakest_X0 hown hK hP (9 + i) (wX_c hi) rfl 0 (by decide) (va_Nw.use rfl (hN _ (List.mem_of_getElem? (i := 6) rfl))) (fun _ h9 => h9) rfl dX2_weakest_41 ?_
        refine lv_lstore_n (lv' := [(2, .long ((cs_ch S) i)), (0, .ref (a 0)), (1, .int (nI (sWk (cs_ch S) i))), (4, .int (nI i))]) hx hb dX2_weakest_44 rfl hl (by decide) rfl (fun ls hl => ?_)
        refine lv_iload hx hb dX2_weakest_45 (lv_at hl 3 rfl) ?_
        refine lv_istore_n (lv' := [(1, .int (nI i)), (2, .long ((cs_ch S) i)), (0, .ref (a 0)), (4, .int (nI i))]) hx hb dX2_weakest_47 rfl hl (by decide) rfl (fun ls hl => ?_)
        refine lv_iinc (v := nI (i + 1)) (lv' := [(4, .int (nI (i + 1))), (1, .int (nI i)), (2, .long ((cs_ch S) i)), (0, .ref (a 0))]) hx hb dX2_weakest_48 hl (k := 3) rfl (nI_1 i) (by decide) rfl (fun ls hl => ?_)
        refine lv_goto (tgt := 9) hx hb dX2_weakest_51 (by decide) ?_
        exact ih ((i + 1), ls) ⟨by show i + 1 + k9 = n; omega, (by show lv_has ls 5 [(0, .ref (a 0)), (1, .int (nI (sWk (cs_ch S) (i + 1)))), (2, .long (sLv (cs_ch S) (i + 1))), (4, .int (nI (i + 1)))]; rw [(show nI (sWk (cs_ch S) (i + 1)) = nI i from by simp only [sWk, sLv, if_pos h_3, if_pos h_4]), (show sLv (cs_ch S) (i + 1) = (cs_ch S) i from by simp only [sWk, sLv, if_pos h_3, if_pos h_4])]; exact lv_sub hl [3, 1, 2, 0] rfl)⟩
set_option maxRecDepth 20000 in
theorem iX2_mayBleed_X0 : ∀ w ∈ wsX00, w ∈ wsX2_mayBleed := by decide +kernel
set_option maxRecDepth 20000 in
theorem iX2_mayBleed_X2 : ∀ w ∈ wsX20, w ∈ wsX2_mayBleed := by decide +kernel
set_option maxHeartbeats 4000000 in
set_option maxRecDepth 100000 in
theorem kX2_mayBleed (l : Launch) (D : va_G) (cy : Nat → ClassId) (a : Nat → Nat) (n : Nat) (S : CS) (sz : Nat) (j : Nat) (hj : j < n) (hn : n ≤ 24) : Met l yX2_mayBleed wsX2_mayBleed ({ frames := 2, cells := 0, slots := 0, locals := 50 }) (va_Pc [.ref (a 0), .ref (a (9 + j))] (pX D cy a n S sz)) (vp_Si (fun r => r = sMay S n j)) 0 0 (fun _ => False) := by
  refine Met.ofW (cc := cX2_mayBleed) (maxL := 2) (ret := (some .boolean)) (by decide) rfl ?_
  intro p e s m args below meth c s₁ B hml hv
  obtain ⟨rfl, hsz, hP, hK, hD0, hN⟩ := hv
  have hx := B.exec
  have hb := B.bytes
  have hr := B.returns
  have hts := atoms_spec (ws := wsX2_mayBleed) B.pre
  have hown : s.vm.findClass RX2 = some m.cls := findClass_of_methodNamed B.named
  have hlocks := B.notSynchronized
  have hD := hD0
  have hl := lv_entry ([.ref (a 0), .ref (a (9 + j))]) (n := 2) (Nat.le_of_ble_eq_true rfl)
  rw [lg_entry_eq]
  generalize (lg_sl ([.ref (a 0), .ref (a (9 + j))]) ++ List.replicate (2 - (lg_sl ([.ref (a 0), .ref (a (9 + j))])).length) Slot.unset).toArray = ls at hl ⊢
  have hl : lv_has ls 2 [(0, .ref (a 0)), (1, .ref (a (9 + j)))] := hl
  refine lv_aload_n hx hb dX2_mayBleed_0 rfl (lv_at hl 1 rfl) ?_
  refine va_getN (D := D) (ci := 1) (v := .long ((cs_ch S) j)) (C := RX0) (T := TX0) (N := 6) hx hb hts iX2_mayBleed_X0 hown hK hP (9 + j) (wX_c hj) rfl 0 (by decide) (va_Nw.use rfl (hN _ (List.mem_of_getElem? (i := 6) rfl))) (fun _ h9 => h9) rfl dX2_mayBleed_1 ?_
  refine lv_aload_n hx hb dX2_mayBleed_4 rfl (lv_at hl 0 rfl) ?_
  refine va_get (D := D) (ci := 3) (v := .ref (a 2)) (C := RX2) (T := TX2) (N := 8) hx hb hts iX2_mayBleed_X2 hown hK hP 0 rfl rfl 1 (by decide) (hts (.fieldLink RX2 25 "CellRows2" "limits" "[J") (by decide +kernel)) (fun _ h9 => h9) rfl dX2_mayBleed_5 ?_
  refine lv_iconst (v := 4) hx hb dX2_mayBleed_8 (by decide) ?_
  refine ra_l (f := (cs_lim S)) hx hb hK hP 2 1 rfl rfl 4 rfl (Nat.le_of_ble_eq_true rfl) (Nat.le_of_ble_eq_true rfl) dX2_mayBleed_9 ?_
  refine il_lt (tgt := 34) hx hb dX2_mayBleed_10 dX2_mayBleed_11 (by decide) (fun h_1 => ?_) (fun h_1 => ?_)
  · refine lv_iconst (v := 0) hx hb dX2_mayBleed_34 (by decide) ?_
    exact W.zret (v := 0) hx hb hr rfl (fun t ht hW => ⟨0, rfl, (by simp only [sMay, if_pos h_1]), ht⟩) (fun q hq => absurd hq List.not_mem_nil) dX2_mayBleed_35
  · refine lv_aload_n hx hb dX2_mayBleed_14 rfl (lv_at hl 1 rfl) ?_
    refine va_getN (D := D) (ci := 1) (v := .long ((cs_vo S) j)) (C := RX0) (T := TX0) (N := 6) hx hb hts iX2_mayBleed_X0 hown hK hP (9 + j) (wX_c hj) rfl 2 (by decide) (va_Nw.use rfl (hN _ (List.mem_of_getElem? (i := 4) rfl))) (fun _ h9 => h9) rfl dX2_mayBleed_15 ?_
    refine lv_aload_n hx hb dX2_mayBleed_18 rfl (lv_at hl 0 rfl) ?_
    refine vp_callSl (W.runV (As := []) (rest := [.long ((cs_vo S) j)]) ⟨hx, hb, hml, hown, hts⟩ (kX2_leastVoltage l D cy a n S s.heap.size hn) (cwV 0 hts gX2_mayBleed_X2_leastVoltage rfl rfl rfl (by decide +kernel) ⟨Nat.le_of_ble_eq_true rfl, Nat.le_of_ble_eq_true rfl⟩) ⟨pX_blind, va_recv hK hP (ci := 3) (q0 := 0) rfl rfl, fun U hU hW => ⟨rfl, pX_mk hP hK hD hN hU hW⟩⟩ rfl rfl hl.1 rfl (lv_room (Nat.le_of_ble_eq_true rfl)) dX2_mayBleed_19 ⟨Nat.le_of_ble_eq_true rfl, Nat.le_of_ble_eq_true rfl⟩) (fun r2 hr2 => ?_)
    obtain rfl : r2 = sLv (cs_vo S) n := hr2
    refine lv_ldc2 hx hb hown (hts (.constantLong RX2 180 (10)) (by decide +kernel)) dX2_mayBleed_22 ?_
    refine lv_ladd hx hb dX2_mayBleed_25 ?_
    refine il_lt (tgt := 34) hx hb dX2_mayBleed_26 dX2_mayBleed_27 (by decide) (fun h_3 => ?_) (fun h_3 => ?_)
    · refine lv_iconst (v := 0) hx hb dX2_mayBleed_34 (by decide) ?_
      exact W.zret (v := 0) hx hb hr rfl (fun t ht hW => ⟨0, rfl, (by simp only [sMay, if_neg h_1, if_pos h_3]), ht⟩) (fun q hq => absurd hq List.not_mem_nil) dX2_mayBleed_35
    · refine lv_iconst (v := 1) hx hb dX2_mayBleed_30 (by decide) ?_
      refine lv_goto (tgt := 35) hx hb dX2_mayBleed_31 (by decide) ?_
      exact W.zret (v := 1) hx hb hr rfl (fun t ht hW => ⟨1, rfl, (by simp only [sMay, if_neg h_1, if_neg h_3]), ht⟩) (fun q hq => absurd hq List.not_mem_nil) dX2_mayBleed_35
set_option maxHeartbeats 4000000 in
set_option maxRecDepth 100000 in
theorem kX2_cool (l : Launch) (D : va_G) (cy : Nat → ClassId) (a : Nat → Nat) (n : Nat) (S : CS) (sz : Nat) (hn : n ≤ 24) : Met l yX2_cool wsX2_cool ({ frames := 2, cells := 0, slots := 0, locals := 50 }) (va_Pc [.ref (a 0)] (pX D cy a n S sz)) (vp_Si (fun r => r = rCool S n)) 0 0 (fun _ => False) := by
  refine Met.ofW (cc := cX2_cool) (maxL := 3) (ret := (some .int)) (by decide) rfl ?_
  intro p e s m args below meth c s₁ B hml hv
  obtain ⟨rfl, hsz, hP, hK, hD0, hN⟩ := hv
  have hx := B.exec
  have hb := B.bytes
  have hr := B.returns
  have hts := atoms_spec (ws := wsX2_cool) B.pre
  have hown : s.vm.findClass RX2 = some m.cls := findClass_of_methodNamed B.named
  have hlocks := B.notSynchronized
  have hD := hD0
  have hl := lv_entry ([.ref (a 0)]) (n := 3) (Nat.le_of_ble_eq_true rfl)
  rw [lg_entry_eq]
  generalize (lg_sl ([.ref (a 0)]) ++ List.replicate (3 - (lg_sl ([.ref (a 0)])).length) Slot.unset).toArray = ls at hl ⊢
  have hl : lv_has ls 3 [(0, .ref (a 0))] := hl
  refine lv_aload_n hx hb dX2_cool_0 rfl (lv_at hl 0 rfl) ?_
  refine vp_callSl (W.runV (As := []) (rest := []) ⟨hx, hb, hml, hown, hts⟩ (kX2_greatestWarmth l D cy a n S s.heap.size hn) (cwV 0 hts gX2_cool_X2_greatestWarmth rfl rfl rfl (by decide +kernel) ⟨Nat.le_of_ble_eq_true rfl, Nat.le_of_ble_eq_true rfl⟩) ⟨pX_blind, va_recv hK hP (ci := 3) (q0 := 0) rfl rfl, fun U hU hW => ⟨rfl, pX_mk hP hK hD hN hU hW⟩⟩ rfl rfl hl.1 rfl (lv_room (Nat.le_of_ble_eq_true rfl)) dX2_cool_1 ⟨Nat.le_of_ble_eq_true rfl, Nat.le_of_ble_eq_true rfl⟩) (fun r1 hr1 => ?_)
  obtain rfl : r1 = sGw (cs_wa S) n := hr1
  refine lv_lstore_n (lv' := [(1, .long (sGw (cs_wa S) n)), (0, .ref (a 0))]) hx hb dX2_cool_4 rfl hl (by decide) rfl (fun ls hl => ?_)
  refine lv_lload_n hx hb dX2_cool_5 rfl (lv_at hl 0 rfl) ?_
  refine lv_ldc2 hx hb hown (hts (.constantLong RX2 152 (550)) (by decide +kernel)) dX2_cool_6 ?_
  refine il_le (tgt := 15) hx hb dX2_cool_9 dX2_cool_10 (by decide) (fun h_2 => ?_) (fun h_2 => ?_)
  · refine lv_lload_n hx hb dX2_cool_15 rfl (lv_at hl 0 rfl) ?_
    refine lv_ldc2 hx hb hown (hts (.constantLong RX2 154 (450)) (by decide +kernel)) dX2_cool_16 ?_
    refine il_le (tgt := 25) hx hb dX2_cool_19 dX2_cool_20 (by decide) (fun h_3 => ?_) (fun h_3 => ?_)
    · refine lv_lload_n hx hb dX2_cool_25 rfl (lv_at hl 0 rfl) ?_
      refine lv_ldc2 hx hb hown (hts (.constantLong RX2 156 (350)) (by decide +kernel)) dX2_cool_26 ?_
      refine il_le (tgt := 37) hx hb dX2_cool_29 dX2_cool_30 (by decide) (fun h_4 => ?_) (fun h_4 => ?_)
      · refine lv_iconst (v := 0) hx hb dX2_cool_37 (by decide) ?_
        exact W.iret (v := 0) hx hb hr (fun t ht hW => ⟨0, rfl, (by simp only [rCool, if_neg h_2, if_neg h_3, if_neg h_4]), ht⟩) (fun q hq => absurd hq List.not_mem_nil) dX2_cool_38
      · refine lv_iconst (v := 1) hx hb dX2_cool_33 (by decide) ?_
        refine lv_goto (tgt := 38) hx hb dX2_cool_34 (by decide) ?_
        exact W.iret (v := 1) hx hb hr (fun t ht hW => ⟨1, rfl, (by simp only [rCool, if_neg h_2, if_neg h_3, if_pos h_4]), ht⟩) (fun q hq => absurd hq List.not_mem_nil) dX2_cool_38
    · refine lv_iconst (v := 2) hx hb dX2_cool_23 (by decide) ?_
      exact W.iret (v := 2) hx hb hr (fun t ht hW => ⟨2, rfl, (by simp only [rCool, if_neg h_2, if_pos h_3]), ht⟩) (fun q hq => absurd hq List.not_mem_nil) dX2_cool_24
  · refine lv_iconst (v := 3) hx hb dX2_cool_13 (by decide) ?_
    exact W.iret (v := 3) hx hb hr (fun t ht hW => ⟨3, rfl, (by simp only [rCool, if_pos h_2]), ht⟩) (fun q hq => absurd hq List.not_mem_nil) dX2_cool_14
set_option maxRecDepth 20000 in
theorem iX2_bleed_X0 : ∀ w ∈ wsX00, w ∈ wsX2_bleed := by decide +kernel
set_option maxHeartbeats 4000000 in
set_option maxRecDepth 100000 in
theorem kX2_bleed (l : Launch) (D : va_G) (cy : Nat → ClassId) (a : Nat → Nat) (n : Nat) (S : CS) (sz : Nat) (p0 : Int32) (hn : n ≤ 24) : Met l yX2_bleed wsX2_bleed ({ frames := 3, cells := 0, slots := 0, locals := 71 }) (va_Pc [.ref (a 0), .int p0] (pX D cy a n S sz)) (va_Qi (fun r (u : CS) => r = rBle S n p0 ∧ u = gBle S n p0) (eX D cy a n (va_A (wX cy a n S) sz)) (va_A (wX cy a n S) sz)) 0 0 (va_A (wX cy a n S) sz) := by
  refine Met.ofW (cc := cX2_bleed) (maxL := 3) (ret := (some .int)) (by decide) rfl ?_
  intro p e s m args below meth c s₁ B hml hv
  obtain ⟨rfl, hsz, hP, hK, hD0, hN⟩ := hv
  have hx := B.exec
  have hb := B.bytes
  have hr := B.returns
  have hts := atoms_spec (ws := wsX2_bleed) B.pre
  have hown : s.vm.findClass RX2 = some m.cls := findClass_of_methodNamed B.named
  have hlocks := B.notSynchronized
  subst hsz
  have hD := hD0.self (sz := s.heap.size)
  generalize hAe : va_A (wX cy a n S) s.heap.size = A at hD ⊢
  have hA : ∀ q : Nat, s.heap.size ≤ q → A q := fun q h => by rw [← hAe]; exact Or.inr h
  have hS : va_S A s.heap s.heap [] := va_S.rf
  have hl := lv_entry ([.ref (a 0), .int p0]) (n := 3) (Nat.le_of_ble_eq_true rfl)
  rw [lg_entry_eq]
  generalize (lg_sl ([.ref (a 0), .int p0]) ++ List.replicate (3 - (lg_sl ([.ref (a 0), .int p0])).length) Slot.unset).toArray = ls at hl ⊢
  have hl : lv_has ls 3 [(0, .ref (a 0)), (1, .int p0)] := hl
  refine lv_aload_n hx hb dX2_bleed_0 rfl (lv_at hl 0 rfl) ?_
  refine lv_iload_n hx hb dX2_bleed_1 rfl (lv_at hl 1 rfl) ?_
  refine va_csq (W.runV (As := [.int p0]) (rest := []) ⟨hx, hb, hml, hown, hts⟩ (kX2_cellOf l D cy a n S s.heap.size p0 hn) (cwV 1 hts gX2_bleed_X2_cellOf rfl rfl rfl (by decide +kernel) ⟨Nat.le_of_ble_eq_true rfl, Nat.le_of_ble_eq_true rfl⟩) ⟨pX_blind, va_recv hK hP (ci := 3) (q0 := 0) rfl rfl, fun U hU hW => ⟨rfl, pX_mk hP hK hD hN hU hW⟩⟩ rfl rfl hl.1 rfl (lv_room (Nat.le_of_ble_eq_true rfl)) dX2_bleed_2 ⟨Nat.le_of_ble_eq_true rfl, Nat.le_of_ble_eq_true rfl⟩) (fun r1 hr1 => ?_)
  obtain rfl : r1 = (ix n p0).map (fun j => a (9 + j)) := hr1
  rcases hix : ix n p0 with _ | j
  · refine W.eqs (st2 := [.null]) rfl ?_
    refine lv_astore_nN (lv' := [(2, .null), (0, .ref (a 0)), (1, .int p0)]) hx hb dX2_bleed_5 rfl hl (by decide) rfl (fun ls hl => ?_)
    refine lv_aload_nN hx hb dX2_bleed_6 rfl (lv_at hl 0 rfl) ?_
    refine lv_ifnonnullN hx hb dX2_bleed_7 ?_
    refine lv_iconst (v := (-1)) hx hb dX2_bleed_10 (by decide) ?_
    exact W.iret (v := (-1)) hx hb hr (fun t ht hW => ⟨⟨(-1), S, rfl, ⟨(by simp only [rBle, gBle, sFlip, Option.elim_none, Option.map_none, Option.elim_some, hix] <;> rfl), (by simp only [rBle, gBle, sFlip, Option.elim_none, Option.map_none, Option.elim_some, hix] <;> rfl)⟩, by rw [ht]; exact hP, va_K.moved hW.alike hK, hD⟩, hS.F ht⟩) hS.2.2 dX2_bleed_11
  · obtain ⟨hj, rfl⟩ := ix_some hix
    refine W.eqs (st2 := [.ref (a (9 + j))]) rfl ?_
    refine lv_astore_n (lv' := [(2, .ref (a (9 + j))), (0, .ref (a 0)), (1, .int (nI j))]) hx hb dX2_bleed_5 rfl hl (by decide) rfl (fun ls hl => ?_)
    refine lv_aload_n hx hb dX2_bleed_6 rfl (lv_at hl 0 rfl) ?_
    refine lv_ifnonnull (tgt := 12) hx hb dX2_bleed_7 (by decide) ?_
    refine lv_aload_n hx hb dX2_bleed_12 rfl (lv_at hl 0 rfl) ?_
    refine va_getN (D := D) (ci := 1) (v := .int ((cs_bl S) j)) (C := RX0) (T := TX0) (N := 6) hx hb hts iX2_bleed_X0 hown hK hP (9 + j) (wX_c hj) rfl 5 (by decide) (va_Nw.use rfl (hN _ (List.mem_of_getElem? (i := 0) rfl))) (fun _ h9 => h9) rfl dX2_bleed_13 ?_
    refine iz_ne (tgt := 30) hx hb dX2_bleed_16 (by decide) (fun h_2 => ?_) (fun h_2 => ?_)
    · refine lv_aload_n hx hb dX2_bleed_30 rfl (lv_at hl 0 rfl) ?_
      refine lv_aload_n hx hb dX2_bleed_31 rfl (lv_at hl 0 rfl) ?_
      refine va_getN (D := D) (ci := 1) (v := .int ((cs_bl S) j)) (C := RX0) (T := TX0) (N := 6) hx hb hts iX2_bleed_X0 hown hK hP (9 + j) (wX_c hj) rfl 5 (by decide) (va_Nw.use rfl (hN _ (List.mem_of_getElem? (i := 0) rfl))) (fun _ h9 => h9) rfl dX2_bleed_32 ?_
      refine W.join (P := fun v9 : Int32 => v9 = 0) (g := fun v9 => F0 m 43 ls [.int v9, .ref (a (9 + j))]) (fun v3 hv3 => ?_) (fun J3 => ?_)
      · subst hv3
        refine va_putN (D := D) (ci := 1) (v := .int 0) (ty := .boolean) (C := RX0) (T := TX0) (N := 6) hx hb hts iX2_bleed_X0 tyX0 tyX0_ok nmX0 hown hK hP hD hS (9 + j) (wX_c hj) rfl 5 (by decide) (va_Nw.use rfl (hN _ (List.mem_of_getElem? (i := 0) rfl))) (fun _ h9 => h9) rfl (by decide +kernel) (nz_b (Or.inl rfl)).1 (nz_b (Or.inl rfl)).2 (Nat.le_of_ble_eq_true rfl) dX2_bleed_43 (fun H5 locs5 hP hD hS => ?_)
        have hP : va_P D vwCl (wX cy a n (cs_set_bl S (va_up (cs_bl S) j 0))) H5 := by show va_P D vwCl (wX cy a n (cs_set_bl S (va_up (cs_bl S) j 0))) H5; rw [← wX_set_bl S j 0]; exact hP
        have hD : va_D A (wX cy a n (cs_set_bl S (va_up (cs_bl S) j 0))) := by show va_D A (wX cy a n (cs_set_bl S (va_up (cs_bl S) j 0))); rw [← wX_set_bl S j 0]; exact hD
        refine lv_aload_n hx hb dX2_bleed_46 rfl (lv_at hl 1 rfl) ?_
        refine vp_callSi (W.runV (As := []) (rest := []) ⟨hx, hb, hml, hown, hts⟩ (kX2_bleedingCells l D cy a n (cs_set_bl S (va_up (cs_bl S) j 0)) H5.size hn) (cwV 0 hts gX2_bleed_X2_bleedingCells rfl rfl rfl (by decide +kernel) ⟨Nat.le_of_ble_eq_true rfl, Nat.le_of_ble_eq_true rfl⟩) ⟨pX_blind, va_recv hK hP (ci := 3) (q0 := 0) rfl rfl, fun U hU hW => ⟨rfl, pX_mk hP hK hD hN hU hW⟩⟩ rfl rfl hl.1 rfl (lv_room (Nat.le_of_ble_eq_true rfl)) dX2_bleed_47 ⟨Nat.le_of_ble_eq_true rfl, Nat.le_of_ble_eq_true rfl⟩) (fun r6 hr6 => ?_)
        obtain rfl : r6 = sBc (va_up (cs_bl S) j 0) n := hr6
        exact W.iret (v := sBc (va_up (cs_bl S) j 0) n) hx hb hr (fun t ht hW => ⟨⟨sBc (va_up (cs_bl S) j 0) n, (cs_set_bl S (va_up (cs_bl S) j 0)), rfl, ⟨(by simp only [rBle, gBle, sFlip, Option.elim_none, Option.map_none, Option.elim_some, hix, if_neg h_2] <;> rfl), (by simp only [rBle, gBle, sFlip, Option.elim_none, Option.map_none, Option.elim_some, hix, if_neg h_2] <;> rfl)⟩, by rw [ht]; exact hP, va_K.moved hW.alike hK, hD⟩, hS.F ht⟩) hS.2.2 dX2_bleed_50
      · refine iz_ne (tgt := 42) hx hb dX2_bleed_35 (by decide) (fun h_4 => ?_) (fun h_4 => ?_)
        · refine lv_iconst (v := 0) hx hb dX2_bleed_42 (by decide) ?_
          exact J3 _ (by simp only [if_neg h_4])
        · exact absurd h_4 h_2
    · refine lv_aload_n hx hb dX2_bleed_19 rfl (lv_at hl 1 rfl) ?_
      refine lv_aload_n hx hb dX2_bleed_20 rfl (lv_at hl 0 rfl) ?_
      refine vp_callSi (W.runV (As := [.ref (a (9 + j))]) (rest := []) ⟨hx, hb, hml, hown, hts⟩ (kX2_mayBleed l D cy a n S s.heap.size j hj hn) (cwV 1 hts gX2_bleed_X2_mayBleed rfl rfl rfl (by decide +kernel) ⟨Nat.le_of_ble_eq_true rfl, Nat.le_of_ble_eq_true rfl⟩) ⟨pX_blind, va_recv hK hP (ci := 3) (q0 := 0) rfl rfl, fun U hU hW => ⟨rfl, pX_mk hP hK hD hN hU hW⟩⟩ rfl rfl hl.1 rfl (lv_room (Nat.le_of_ble_eq_true rfl)) dX2_bleed_21 ⟨Nat.le_of_ble_eq_true rfl, Nat.le_of_ble_eq_true rfl⟩) (fun r7 hr7 => ?_)
      obtain rfl : r7 = sMay S n j := hr7
      refine iz_ne (tgt := 30) hx hb dX2_bleed_24 (by decide) (fun h_8 => ?_) (fun h_8 => ?_)
      · refine lv_aload_n hx hb dX2_bleed_30 rfl (lv_at hl 0 rfl) ?_
        refine lv_aload_n hx hb dX2_bleed_31 rfl (lv_at hl 0 rfl) ?_
        refine va_getN (D := D) (ci := 1) (v := .int ((cs_bl S) j)) (C := RX0) (T := TX0) (N := 6) hx hb hts iX2_bleed_X0 hown hK hP (9 + j) (wX_c hj) rfl 5 (by decide) (va_Nw.use rfl (hN _ (List.mem_of_getElem? (i := 0) rfl))) (fun _ h9 => h9) rfl dX2_bleed_32 ?_
        refine W.join (P := fun v9 : Int32 => v9 = 1) (g := fun v9 => F0 m 43 ls [.int v9, .ref (a (9 + j))]) (fun v9 hv9 => ?_) (fun J9 => ?_)
        · subst hv9
          refine va_putN (D := D) (ci := 1) (v := .int 1) (ty := .boolean) (C := RX0) (T := TX0) (N := 6) hx hb hts iX2_bleed_X0 tyX0 tyX0_ok nmX0 hown hK hP hD hS (9 + j) (wX_c hj) rfl 5 (by decide) (va_Nw.use rfl (hN _ (List.mem_of_getElem? (i := 0) rfl))) (fun _ h9 => h9) rfl (by decide +kernel) (nz_b (Or.inr rfl)).1 (nz_b (Or.inr rfl)).2 (Nat.le_of_ble_eq_true rfl) dX2_bleed_43 (fun H11 locs11 hP hD hS => ?_)
          have hP : va_P D vwCl (wX cy a n (cs_set_bl S (va_up (cs_bl S) j 1))) H11 := by show va_P D vwCl (wX cy a n (cs_set_bl S (va_up (cs_bl S) j 1))) H11; rw [← wX_set_bl S j 1]; exact hP
          have hD : va_D A (wX cy a n (cs_set_bl S (va_up (cs_bl S) j 1))) := by show va_D A (wX cy a n (cs_set_bl S (va_up (cs_bl S) j 1))); rw [← wX_set_bl S j 1]; exact hD
          refine lv_aload_n hx hb dX2_bleed_46 rfl (lv_at hl 1 rfl) ?_
          refine vp_callSi (W.runV (As := []) (rest := []) ⟨hx, hb, hml, hown, hts⟩ (kX2_bleedingCells l D cy a n (cs_set_bl S (va_up (cs_bl S) j 1)) H11.size hn) (cwV 0 hts gX2_bleed_X2_bleedingCells rfl rfl rfl (by decide +kernel) ⟨Nat.le_of_ble_eq_true rfl, Nat.le_of_ble_eq_true rfl⟩) ⟨pX_blind, va_recv hK hP (ci := 3) (q0 := 0) rfl rfl, fun U hU hW => ⟨rfl, pX_mk hP hK hD hN hU hW⟩⟩ rfl rfl hl.1 rfl (lv_room (Nat.le_of_ble_eq_true rfl)) dX2_bleed_47 ⟨Nat.le_of_ble_eq_true rfl, Nat.le_of_ble_eq_true rfl⟩) (fun r12 hr12 => ?_)
          obtain rfl : r12 = sBc (va_up (cs_bl S) j 1) n := hr12
          exact W.iret (v := sBc (va_up (cs_bl S) j 1) n) hx hb hr (fun t ht hW => ⟨⟨sBc (va_up (cs_bl S) j 1) n, (cs_set_bl S (va_up (cs_bl S) j 1)), rfl, ⟨(by simp only [rBle, gBle, sFlip, Option.elim_none, Option.map_none, Option.elim_some, hix, if_pos h_2, if_neg h_8] <;> rfl), (by simp only [rBle, gBle, sFlip, Option.elim_none, Option.map_none, Option.elim_some, hix, if_pos h_2, if_neg h_8] <;> rfl)⟩, by rw [ht]; exact hP, va_K.moved hW.alike hK, hD⟩, hS.F ht⟩) hS.2.2 dX2_bleed_50
        · refine iz_ne (tgt := 42) hx hb dX2_bleed_35 (by decide) (fun h_10 => ?_) (fun h_10 => ?_)
          · exact absurd h_2 h_10
          · refine lv_iconst (v := 1) hx hb dX2_bleed_38 (by decide) ?_
            refine lv_goto (tgt := 43) hx hb dX2_bleed_39 (by decide) ?_
            exact J9 _ (by simp only [if_pos h_10])
      · refine lv_bipush (v := (-3)) hx hb dX2_bleed_27 (by decide) ?_
        exact W.iret (v := (-3)) hx hb hr (fun t ht hW => ⟨⟨(-3), S, rfl, ⟨(by simp only [rBle, gBle, sFlip, Option.elim_none, Option.map_none, Option.elim_some, hix, if_pos h_2, if_pos h_8] <;> rfl), (by simp only [rBle, gBle, sFlip, Option.elim_none, Option.map_none, Option.elim_some, hix, if_pos h_2, if_pos h_8] <;> rfl)⟩, by rw [ht]; exact hP, va_K.moved hW.alike hK, hD⟩, hS.F ht⟩) hS.2.2 dX2_bleed_29
set_option maxHeartbeats 4000000 in
set_option maxRecDepth 100000 in
theorem kX2_greatestCommonDivisor (l : Launch) (x y : Int64) : Met l yX2_greatestCommonDivisor wsX2_greatestCommonDivisor ({ frames := 1, cells := 0, slots := 0, locals := 24 }) (va_Pc [.long x, .long y] (fun _ => True)) (vp_Sl (fun r => r = labs (gcdF 1000 x y))) 0 0 (fun _ => False) := by
  refine Met.ofW (cc := cX2_greatestCommonDivisor) (maxL := 11) (ret := (some .long)) (by decide) rfl ?_
  intro p e s m args below meth c s₁ B hml hv
  obtain ⟨rfl, -⟩ := hv
  have hx := B.exec
  have hb := B.bytes
  have hr := B.returns
  have hts := atoms_spec (ws := wsX2_greatestCommonDivisor) B.pre
  have hown : s.vm.findClass RX2 = some m.cls := findClass_of_methodNamed B.named
  have hlocks := B.notSynchronized
  have hl := lv_entry ([.long x, .long y]) (n := 11) (Nat.le_of_ble_eq_true rfl)
  rw [lg_entry_eq]
  generalize (lg_sl ([.long x, .long y]) ++ List.replicate (11 - (lg_sl ([.long x, .long y])).length) Slot.unset).toArray = ls at hl ⊢
  have hl : lv_has ls 11 [(0, .long x), (2, .long y)] := hl
  refine lv_lload_n hx hb dX2_greatestCommonDivisor_0 rfl (lv_at hl 0 rfl) ?_
  refine lv_lstore (lv' := [(4, .long x), (0, .long x), (2, .long y)]) hx hb dX2_greatestCommonDivisor_1 hl (by decide) rfl (fun ls hl => ?_)
  refine lv_lload_n hx hb dX2_greatestCommonDivisor_3 rfl (lv_at hl 2 rfl) ?_
  refine lv_lstore (lv' := [(6, .long y), (4, .long x), (0, .long x), (2, .long y)]) hx hb dX2_greatestCommonDivisor_4 hl (by decide) rfl (fun ls hl => ?_)
  refine lv_iconst (v := 0) hx hb dX2_greatestCommonDivisor_6 (by decide) ?_
  refine lv_istore (lv' := [(8, .int 0), (6, .long y), (4, .long x), (0, .long x), (2, .long y)]) hx hb dX2_greatestCommonDivisor_7 hl (by decide) rfl (fun ls hl => ?_)
  refine W.loop (α := Nat × Int64 × Int64 × Array Slot) (g := fun v9 => F0 m 9 v9.2.2.2 []) (fun k9 v9 => v9.1 + k9 = 1000 ∧ gcdF k9 v9.2.1 v9.2.2.1 = gcdF 1000 x y ∧ lv_has v9.2.2.2 11 [(4, .long v9.2.1), (6, .long v9.2.2.1), (8, .int (nI v9.1))]) ?_ ?_ 1000 (0, x, y, ls) ⟨by omega, rfl, lv_sub hl [2, 1, 0] rfl⟩
  · rintro ⟨i, d, r, ls⟩ ⟨h9, hg9, hl⟩
    have h9 : i + 0 = 1000 := h9
    have e9 : i = 1000 := by omega
    have hg9 : gcdF 0 d r = gcdF 1000 x y := hg9
    have hl : lv_has ls 11 [(4, .long d), (6, .long r), (8, .int (nI i))] := hl
    rw [e9] at hl
    have hl : lv_has ls 11 [(4, .long d), (6, .long r), (8, .int (nI 1000))] := hl
    refine lv_iload hx hb dX2_greatestCommonDivisor_9 (lv_at hl 2 rfl) ?_
    refine lv_sipush (v := 1000) hx hb dX2_greatestCommonDivisor_11 (by decide) ?_
    refine ib_ge (tgt := 45) hx hb dX2_greatestCommonDivisor_14 (by decide) (fun h_2 => ?_) (fun h_2 => ?_)
    · refine lv_lload hx hb dX2_greatestCommonDivisor_45 (lv_at hl 0 rfl) ?_
      refine va_mabs_long hx hb (hml.trans hl.1.symm) hown (hts (.methodLink RX2 167 Lib.MathLoose.abs_long.x) (by decide +kernel)) (hts (.static Lib.MathLoose.abs_long.x) (by decide +kernel)) (hts (.initialized "java/lang/Math") (by decide +kernel)) (hts (.code Lib.MathLoose.abs_long.x Lib.MathLoose.abs_long.code 2 (some .long)) (by decide +kernel)) (Nat.le_of_ble_eq_true rfl) (Nat.le_of_ble_eq_true rfl) (Nat.le_of_ble_eq_true rfl) (Nat.le_of_ble_eq_true rfl) dX2_greatestCommonDivisor_47 ?_
      refine W.eqs (st2 := [.long (labs d)]) rfl ?_
      exact W.lret (v := labs d) hx hb hr (fun t ht hW => ⟨labs d, rfl, (by rw [← hg9]; simp only [gcdF, if_neg h_2]), ht⟩) (fun q hq => absurd hq List.not_mem_nil) dX2_greatestCommonDivisor_50
    · exact absurd h_2 (nI_nlt (a := 1000) (b := 1000) (Nat.le_refl _) (by omega))
  · rintro k9 ih ⟨i, d, r, ls⟩ ⟨h9, hg9, hl⟩
    have h9 : i + (k9 + 1) = 1000 := h9
    have hg9 : gcdF (k9 + 1) d r = gcdF 1000 x y := hg9
    have hl : lv_has ls 11 [(4, .long d), (6, .long r), (8, .int (nI i))] := hl
    refine lv_iload hx hb dX2_greatestCommonDivisor_9 (lv_at hl 2 rfl) ?_
    refine lv_sipush (v := 1000) hx hb dX2_greatestCommonDivisor_11 (by decide) ?_
    refine ib_ge (tgt := 45) hx hb dX2_greatestCommonDivisor_14 (by decide) (fun h_3 => ?_) (fun h_3 => ?_)
    · exact absurd (nI_lt (a := i) (b := 1000) (by omega) (by omega)) h_3
    · refine lv_lload hx hb dX2_greatestCommonDivisor_17 (lv_at hl 1 rfl) ?_
      refine lv_lconst (v := 0) hx hb dX2_greatestCommonDivisor_19 (by decide) ?_
      refine il_eq (tgt := 45) hx hb dX2_greatestCommonDivisor_20 dX2_greatestCommonDivisor_21 (by decide) (fun h_4 => ?_) (fun h_4 => ?_)
      · refine lv_lload hx hb dX2_greatestCommonDivisor_45 (lv_at hl 0 rfl) ?_
        refine va_mabs_long hx hb (hml.trans hl.1.symm) hown (hts (.methodLink RX2 167 Lib.MathLoose.abs_long.x) (by decide +kernel)) (hts (.static Lib.MathLoose.abs_long.x) (by decide +kernel)) (hts (.initialized "java/lang/Math") (by decide +kernel)) (hts (.code Lib.MathLoose.abs_long.x Lib.MathLoose.abs_long.code 2 (some .long)) (by decide +kernel)) (Nat.le_of_ble_eq_true rfl) (Nat.le_of_ble_eq_true rfl) (Nat.le_of_ble_eq_true rfl) (Nat.le_of_ble_eq_true rfl) dX2_greatestCommonDivisor_47 ?_
        refine W.eqs (st2 := [.long (labs d)]) rfl ?_
        exact W.lret (v := labs d) hx hb hr (fun t ht hW => ⟨labs d, rfl, (by rw [← hg9]; simp only [gcdF, if_pos h_3, if_pos h_4]), ht⟩) (fun q hq => absurd hq List.not_mem_nil) dX2_greatestCommonDivisor_50
      · have h_nz := h_4
        refine lv_lload hx hb dX2_greatestCommonDivisor_24 (lv_at hl 0 rfl) ?_
        refine lv_lload hx hb dX2_greatestCommonDivisor_26 (lv_at hl 1 rfl) ?_
        refine lv_lrem hx hb dX2_greatestCommonDivisor_28 h_nz ?_
        refine lv_lstore (lv' := [(9, .long (d - d / r * r)), (4, .long d), (6, .long r), (8, .int (nI i))]) hx hb dX2_greatestCommonDivisor_29 hl (by decide) rfl (fun ls hl => ?_)
        refine lv_lload hx hb dX2_greatestCommonDivisor_31 (lv_at hl 2 rfl) ?_
        refine lv_lstore (lv' := [(4, .long r), (9, .long (d - d / r * r)), (6, .long r), (8, .int (nI i))]) hx hb dX2_greatestCommonDivisor_33 hl (by decide) rfl (fun ls hl => ?_)
        refine lv_lload hx hb dX2_greatestCommonDivisor_35 (lv_at hl 1 rfl) ?_
        refine lv_lstore (lv' := [(6, .long (d - d / r * r)), (4, .long r), (9, .long (d - d / r * r)), (8, .int (nI i))]) hx hb dX2_greatestCommonDivisor_37 hl (by decide) rfl (fun ls hl => ?_)
        refine lv_iinc (v := nI (i + 1)) (lv' := [(8, .int (nI (i + 1))), (6, .long (d - d / r * r)), (4, .long r), (9, .long (d - d / r * r))]) hx hb dX2_greatestCommonDivisor_39 hl (k := 3) rfl (nI_1 i) (by decide) rfl (fun ls hl => ?_)
        refine lv_goto (tgt := 9) hx hb dX2_greatestCommonDivisor_42 (by decide) ?_
        exact ih ((i + 1), r, (d - d / r * r), ls) ⟨by show i + 1 + k9 = 1000; omega, by rw [← hg9]; simp only [gcdF, if_pos h_3, if_neg h_4], lv_sub hl [2, 1, 0] rfl⟩
set_option maxRecDepth 20000 in
theorem iX1_takeCyclesOut_X1 : ∀ w ∈ wsX10, w ∈ wsX1_takeCyclesOut := by decide +kernel
set_option maxHeartbeats 4000000 in
set_option maxRecDepth 100000 in
theorem kX1_takeCyclesOut (l : Launch) (D : va_G) (cy : Nat → ClassId) (a : Nat → Nat) (n : Nat) (S : CS) (sz : Nat) (hp : cs_pc S ≤ 500) (hc : cs_pc S + 2 * cs_cyc S ≤ 514) : Met l yX1_takeCyclesOut wsX1_takeCyclesOut ({ frames := 1, cells := 0, slots := 0, locals := 24 }) (va_Pc [.ref (a 5)] (pX D cy a n S sz)) (va_Qv (fun u : CS => u = sTco 250 S) (eX D cy a n (va_A (wX cy a n S) sz)) (va_A (wX cy a n S) sz)) 0 0 (va_A (wX cy a n S) sz) := by
  refine Met.ofW (cc := cX1_takeCyclesOut) (maxL := 11) (ret := none) (by decide) rfl ?_
  intro p e s m args below meth c s₁ B hml hv
  obtain ⟨rfl, hsz, hP, hK, hD0, hN⟩ := hv
  have hx := B.exec
  have hb := B.bytes
  have hr := B.returns
  have hts := atoms_spec (ws := wsX1_takeCyclesOut) B.pre
  have hown : s.vm.findClass RX1 = some m.cls := findClass_of_methodNamed B.named
  have hlocks := B.notSynchronized
  subst hsz
  have hD := hD0.self (sz := s.heap.size)
  generalize hAe : va_A (wX cy a n S) s.heap.size = A at hD ⊢
  have hA : ∀ q : Nat, s.heap.size ≤ q → A q := fun q h => by rw [← hAe]; exact Or.inr h
  have hS : va_S A s.heap s.heap [] := va_S.rf
  have hl := lv_entry ([.ref (a 5)]) (n := 11) (Nat.le_of_ble_eq_true rfl)
  rw [lg_entry_eq]
  generalize (lg_sl ([.ref (a 5)]) ++ List.replicate (11 - (lg_sl ([.ref (a 5)])).length) Slot.unset).toArray = ls at hl ⊢
  have hl : lv_has ls 11 [(0, .ref (a 5))] := hl
  refine W.loopH (α := CS × Array Slot) (g := fun v9 => F0 m 0 v9.2 []) (fun k9 v9 H' L' => sTco k9 v9.1 = sTco 250 S ∧ cs_pc v9.1 ≤ 2 * k9 + 3 ∧ cs_pc v9.1 ≤ 500 ∧ cs_pc v9.1 + 2 * cs_cyc v9.1 ≤ 514 ∧ va_P D vwCl (wX cy a n v9.1) H' ∧ va_D A (wX cy a n v9.1) ∧ va_S A s.heap H' L' ∧ lv_has v9.2 11 [(0, .ref (a 5))]) ?_ ?_ 250 (S, ls) ⟨rfl, (by show cs_pc S ≤ 2 * 250 + 3; omega), hp, hc, hP, hD, hS, lv_sub hl [0] rfl⟩
  · rintro ⟨U, ls⟩ H1 locs1 ⟨hT, hb9, hp9, hc9, hP, hD, hS, hl⟩
    have hT : sTco 0 U = sTco 250 S := hT
    have hb9 : cs_pc U ≤ 2 * 0 + 3 := hb9
    have hl : lv_has ls 11 [(0, .ref (a 5))] := hl
    have hP : va_P D vwCl (wX cy a n U) H1 := hP
    have hD : va_D A (wX cy a n U) := hD
    refine lv_aload_n hx hb dX1_takeCyclesOut_0 rfl (lv_at hl 0 rfl) ?_
    refine va_get (D := D) (ci := 2) (v := .int (nI (cs_pc U))) (C := RX1) (T := TX1) (N := 5) hx hb hts iX1_takeCyclesOut_X1 hown hK hP 5 rfl rfl 3 (by decide) (hts (.fieldLink RX1 25 "CellRows2$Turns" "pointCount" "I") (by decide +kernel)) (fun _ h9 => h9) rfl dX1_takeCyclesOut_1 ?_
    refine lv_iconst (v := 4) hx hb dX1_takeCyclesOut_4 (by decide) ?_
    refine ib_lt (tgt := 132) hx hb dX1_takeCyclesOut_5 (by decide) (fun h_2 => ?_) (fun h_2 => ?_)
    · exact W.vret hx hb hr (fun t ht hW => ⟨⟨U, rfl, (by rw [← hT]; simp only [sTco, if_pos h_2]), by rw [ht]; exact hP, va_K.moved hW.alike hK, hD⟩, hS.F ht⟩) hS.2.2 dX1_takeCyclesOut_132
    · exact absurd (nI_lt (a := cs_pc U) (b := 4) (by omega) (by omega)) h_2
  · rintro k9 ih ⟨U, ls⟩ H1 locs1 ⟨hT, hb9, hp9, hc9, hP, hD, hS, hl⟩
    have hT : sTco (k9 + 1) U = sTco 250 S := hT
    have hb9 : cs_pc U ≤ 2 * (k9 + 1) + 3 := hb9
    have hp9 : cs_pc U ≤ 500 := hp9
    have hc9 : cs_pc U + 2 * cs_cyc U ≤ 514 := hc9
    have hl : lv_has ls 11 [(0, .ref (a 5))] := hl
    have hP : va_P D vwCl (wX cy a n U) H1 := hP
    have hD : va_D A (wX cy a n U) := hD
    refine lv_aload_n hx hb dX1_takeCyclesOut_0 rfl (lv_at hl 0 rfl) ?_
    refine va_get (D := D) (ci := 2) (v := .int (nI (cs_pc U))) (C := RX1) (T := TX1) (N := 5) hx hb hts iX1_takeCyclesOut_X1 hown hK hP 5 rfl rfl 3 (by decide) (hts (.fieldLink RX1 25 "CellRows2$Turns" "pointCount" "I") (by decide +kernel)) (fun _ h9 => h9) rfl dX1_takeCyclesOut_1 ?_
    refine lv_iconst (v := 4) hx hb dX1_takeCyclesOut_4 (by decide) ?_
    refine ib_lt (tgt := 132) hx hb dX1_takeCyclesOut_5 (by decide) (fun h_3 => ?_) (fun h_3 => ?_)
    · exact W.vret hx hb hr (fun t ht hW => ⟨⟨U, rfl, (by rw [← hT]; simp only [sTco, if_pos h_3]), by rw [ht]; exact hP, va_K.moved hW.alike hK, hD⟩, hS.F ht⟩) hS.2.2 dX1_takeCyclesOut_132
    · have g4 : 4 ≤ cs_pc U := nI_notlt (b := 4) (by omega) h_3
      refine lv_aload_n hx hb dX1_takeCyclesOut_8 rfl (lv_at hl 0 rfl) ?_
      refine va_get (D := D) (ci := 2) (v := .ref (a 6)) (C := RX1) (T := TX1) (N := 5) hx hb hts iX1_takeCyclesOut_X1 hown hK hP 5 rfl rfl 0 (by decide) (hts (.fieldLink RX1 9 "CellRows2$Turns" "points" "[J") (by decide +kernel)) (fun _ h9 => h9) rfl dX1_takeCyclesOut_9 ?_
      refine lv_aload_n hx hb dX1_takeCyclesOut_12 rfl (lv_at hl 0 rfl) ?_
      refine va_get (D := D) (ci := 2) (v := .int (nI (cs_pc U))) (C := RX1) (T := TX1) (N := 5) hx hb hts iX1_takeCyclesOut_X1 hown hK hP 5 rfl rfl 3 (by decide) (hts (.fieldLink RX1 25 "CellRows2$Turns" "pointCount" "I") (by decide +kernel)) (fun _ h9 => h9) rfl dX1_takeCyclesOut_13 ?_
      refine lv_iconst (v := 4) hx hb dX1_takeCyclesOut_16 (by decide) ?_
      refine lv_isub hx hb dX1_takeCyclesOut_17 ?_
      refine W.eqi (pk_sub (a := (cs_pc U)) (b := 4) (by omega)) ?_
      refine ra_l (f := (cs_pts U)) hx hb hK hP 6 4 rfl rfl ((cs_pc U) - 4) rfl (by omega) (Nat.le_of_ble_eq_true rfl) dX1_takeCyclesOut_18 ?_
      refine lv_lstore_n (lv' := [(1, .long ((cs_pts U) ((cs_pc U) - 4))), (0, .ref (a 5))]) hx hb dX1_takeCyclesOut_19 rfl hl (by decide) rfl (fun ls hl => ?_)
      refine lv_aload_n hx hb dX1_takeCyclesOut_20 rfl (lv_at hl 1 rfl) ?_
      refine va_get (D := D) (ci := 2) (v := .ref (a 6)) (C := RX1) (T := TX1) (N := 5) hx hb hts iX1_takeCyclesOut_X1 hown hK hP 5 rfl rfl 0 (by decide) (hts (.fieldLink RX1 9 "CellRows2$Turns" "points" "[J") (by decide +kernel)) (fun _ h9 => h9) rfl dX1_takeCyclesOut_21 ?_
      refine lv_aload_n hx hb dX1_takeCyclesOut_24 rfl (lv_at hl 1 rfl) ?_
      refine va_get (D := D) (ci := 2) (v := .int (nI (cs_pc U))) (C := RX1) (T := TX1) (N := 5) hx hb hts iX1_takeCyclesOut_X1 hown hK hP 5 rfl rfl 3 (by decide) (hts (.fieldLink RX1 25 "CellRows2$Turns" "pointCount" "I") (by decide +kernel)) (fun _ h9 => h9) rfl dX1_takeCyclesOut_25 ?_
      refine lv_iconst (v := 3) hx hb dX1_takeCyclesOut_28 (by decide) ?_
      refine lv_isub hx hb dX1_takeCyclesOut_29 ?_
      refine W.eqi (pk_sub (a := (cs_pc U)) (b := 3) (by omega)) ?_
      refine ra_l (f := (cs_pts U)) hx hb hK hP 6 4 rfl rfl ((cs_pc U) - 3) rfl (by omega) (Nat.le_of_ble_eq_true rfl) dX1_takeCyclesOut_30 ?_
      refine lv_lstore_n (lv' := [(3, .long ((cs_pts U) ((cs_pc U) - 3))), (1, .long ((cs_pts U) ((cs_pc U) - 4))), (0, .ref (a 5))]) hx hb dX1_takeCyclesOut_31 rfl hl (by decide) rfl (fun ls hl => ?_)
      refine lv_aload_n hx hb dX1_takeCyclesOut_32 rfl (lv_at hl 2 rfl) ?_
      refine va_get (D := D) (ci := 2) (v := .ref (a 6)) (C := RX1) (T := TX1) (N := 5) hx hb hts iX1_takeCyclesOut_X1 hown hK hP 5 rfl rfl 0 (by decide) (hts (.fieldLink RX1 9 "CellRows2$Turns" "points" "[J") (by decide +kernel)) (fun _ h9 => h9) rfl dX1_takeCyclesOut_33 ?_
      refine lv_aload_n hx hb dX1_takeCyclesOut_36 rfl (lv_at hl 2 rfl) ?_
      refine va_get (D := D) (ci := 2) (v := .int (nI (cs_pc U))) (C := RX1) (T := TX1) (N := 5) hx hb hts iX1_takeCyclesOut_X1 hown hK hP 5 rfl rfl 3 (by decide) (hts (.fieldLink RX1 25 "CellRows2$Turns" "pointCount" "I") (by decide +kernel)) (fun _ h9 => h9) rfl dX1_takeCyclesOut_37 ?_
      refine lv_iconst (v := 2) hx hb dX1_takeCyclesOut_40 (by decide) ?_
      refine lv_isub hx hb dX1_takeCyclesOut_41 ?_
      refine W.eqi (pk_sub (a := (cs_pc U)) (b := 2) (by omega)) ?_
      refine ra_l (f := (cs_pts U)) hx hb hK hP 6 4 rfl rfl ((cs_pc U) - 2) rfl (by omega) (Nat.le_of_ble_eq_true rfl) dX1_takeCyclesOut_42 ?_
      refine lv_lstore (lv' := [(5, .long ((cs_pts U) ((cs_pc U) - 2))), (3, .long ((cs_pts U) ((cs_pc U) - 3))), (1, .long ((cs_pts U) ((cs_pc U) - 4))), (0, .ref (a 5))]) hx hb dX1_takeCyclesOut_43 hl (by decide) rfl (fun ls hl => ?_)
      refine lv_aload_n hx hb dX1_takeCyclesOut_45 rfl (lv_at hl 3 rfl) ?_
      refine va_get (D := D) (ci := 2) (v := .ref (a 6)) (C := RX1) (T := TX1) (N := 5) hx hb hts iX1_takeCyclesOut_X1 hown hK hP 5 rfl rfl 0 (by decide) (hts (.fieldLink RX1 9 "CellRows2$Turns" "points" "[J") (by decide +kernel)) (fun _ h9 => h9) rfl dX1_takeCyclesOut_46 ?_
      refine lv_aload_n hx hb dX1_takeCyclesOut_49 rfl (lv_at hl 3 rfl) ?_
      refine va_get (D := D) (ci := 2) (v := .int (nI (cs_pc U))) (C := RX1) (T := TX1) (N := 5) hx hb hts iX1_takeCyclesOut_X1 hown hK hP 5 rfl rfl 3 (by decide) (hts (.fieldLink RX1 25 "CellRows2$Turns" "pointCount" "I") (by decide +kernel)) (fun _ h9 => h9) rfl dX1_takeCyclesOut_50 ?_
      refine lv_iconst (v := 1) hx hb dX1_takeCyclesOut_53 (by decide) ?_
      refine lv_isub hx hb dX1_takeCyclesOut_54 ?_
      refine W.eqi (pk_sub (a := (cs_pc U)) (b := 1) (by omega)) ?_
      refine ra_l (f := (cs_pts U)) hx hb hK hP 6 4 rfl rfl ((cs_pc U) - 1) rfl (by omega) (Nat.le_of_ble_eq_true rfl) dX1_takeCyclesOut_55 ?_
      refine lv_lstore (lv' := [(7, .long ((cs_pts U) ((cs_pc U) - 1))), (5, .long ((cs_pts U) ((cs_pc U) - 2))), (3, .long ((cs_pts U) ((cs_pc U) - 3))), (1, .long ((cs_pts U) ((cs_pc U) - 4))), (0, .ref (a 5))]) hx hb dX1_takeCyclesOut_56 hl (by decide) rfl (fun ls hl => ?_)
      refine lv_lload_n hx hb dX1_takeCyclesOut_58 rfl (lv_at hl 2 rfl) ?_
      refine lv_lload hx hb dX1_takeCyclesOut_59 (lv_at hl 1 rfl) ?_
      refine lv_lsub hx hb dX1_takeCyclesOut_61 ?_
      refine va_mabs_long hx hb (hml.trans hl.1.symm) hown (hts (.methodLink RX1 32 Lib.MathLoose.abs_long.x) (by decide +kernel)) (hts (.static Lib.MathLoose.abs_long.x) (by decide +kernel)) (hts (.initialized "java/lang/Math") (by decide +kernel)) (hts (.code Lib.MathLoose.abs_long.x Lib.MathLoose.abs_long.code 2 (some .long)) (by decide +kernel)) (Nat.le_of_ble_eq_true rfl) (Nat.le_of_ble_eq_true rfl) (Nat.le_of_ble_eq_true rfl) (Nat.le_of_ble_eq_true rfl) dX1_takeCyclesOut_62 ?_
      refine W.eqs (st2 := [.long (labs (((cs_pts U) ((cs_pc U) - 3)) - ((cs_pts U) ((cs_pc U) - 2))))]) rfl ?_
      refine lv_lstore (lv' := [(9, .long (labs (((cs_pts U) ((cs_pc U) - 3)) - ((cs_pts U) ((cs_pc U) - 2))))), (7, .long ((cs_pts U) ((cs_pc U) - 1))), (5, .long ((cs_pts U) ((cs_pc U) - 2))), (3, .long ((cs_pts U) ((cs_pc U) - 3))), (1, .long ((cs_pts U) ((cs_pc U) - 4))), (0, .ref (a 5))]) hx hb dX1_takeCyclesOut_65 hl (by decide) rfl (fun ls hl => ?_)
      refine lv_lload hx hb dX1_takeCyclesOut_67 (lv_at hl 0 rfl) ?_
      refine lv_lload_n hx hb dX1_takeCyclesOut_69 rfl (lv_at hl 4 rfl) ?_
      refine lv_lload_n hx hb dX1_takeCyclesOut_70 rfl (lv_at hl 3 rfl) ?_
      refine lv_lsub hx hb dX1_takeCyclesOut_71 ?_
      refine va_mabs_long hx hb (hml.trans hl.1.symm) hown (hts (.methodLink RX1 32 Lib.MathLoose.abs_long.x) (by decide +kernel)) (hts (.static Lib.MathLoose.abs_long.x) (by decide +kernel)) (hts (.initialized "java/lang/Math") (by decide +kernel)) (hts (.code Lib.MathLoose.abs_long.x Lib.MathLoose.abs_long.code 2 (some .long)) (by decide +kernel)) (Nat.le_of_ble_eq_true rfl) (Nat.le_of_ble_eq_true rfl) (Nat.le_of_ble_eq_true rfl) (Nat.le_of_ble_eq_true rfl) dX1_takeCyclesOut_72 ?_
      refine W.eqs (st2 := [.long (labs (((cs_pts U) ((cs_pc U) - 4)) - ((cs_pts U) ((cs_pc U) - 3)))), .long (labs (((cs_pts U) ((cs_pc U) - 3)) - ((cs_pts U) ((cs_pc U) - 2))))]) rfl ?_
      refine il_gt (tgt := 93) hx hb dX1_takeCyclesOut_75 dX1_takeCyclesOut_76 (by decide) (fun h_4 => ?_) (fun h_4 => ?_)
      · exact W.vret hx hb hr (fun t ht hW => ⟨⟨U, rfl, (by rw [← hT]; simp only [sTco, if_neg h_3, if_pos h_4]), by rw [ht]; exact hP, va_K.moved hW.alike hK, hD⟩, hS.F ht⟩) hS.2.2 dX1_takeCyclesOut_93
      · refine lv_lload hx hb dX1_takeCyclesOut_79 (lv_at hl 0 rfl) ?_
        refine lv_lload hx hb dX1_takeCyclesOut_81 (lv_at hl 2 rfl) ?_
        refine lv_lload hx hb dX1_takeCyclesOut_83 (lv_at hl 1 rfl) ?_
        refine lv_lsub hx hb dX1_takeCyclesOut_85 ?_
        refine va_mabs_long hx hb (hml.trans hl.1.symm) hown (hts (.methodLink RX1 32 Lib.MathLoose.abs_long.x) (by decide +kernel)) (hts (.static Lib.MathLoose.abs_long.x) (by decide +kernel)) (hts (.initialized "java/lang/Math") (by decide +kernel)) (hts (.code Lib.MathLoose.abs_long.x Lib.MathLoose.abs_long.code 2 (some .long)) (by decide +kernel)) (Nat.le_of_ble_eq_true rfl) (Nat.le_of_ble_eq_true rfl) (Nat.le_of_ble_eq_true rfl) (Nat.le_of_ble_eq_true rfl) dX1_takeCyclesOut_86 ?_
        refine W.eqs (st2 := [.long (labs (((cs_pts U) ((cs_pc U) - 2)) - ((cs_pts U) ((cs_pc U) - 1)))), .long (labs (((cs_pts U) ((cs_pc U) - 3)) - ((cs_pts U) ((cs_pc U) - 2))))]) rfl ?_
        refine il_le (tgt := 94) hx hb dX1_takeCyclesOut_89 dX1_takeCyclesOut_90 (by decide) (fun h_5 => ?_) (fun h_5 => ?_)
        · refine lv_aload_n hx hb dX1_takeCyclesOut_94 rfl (lv_at hl 5 rfl) ?_
          refine lv_lload hx hb dX1_takeCyclesOut_95 (lv_at hl 0 rfl) ?_
          refine lv_lload_n hx hb dX1_takeCyclesOut_97 rfl (lv_at hl 3 rfl) ?_
          refine lv_lload hx hb dX1_takeCyclesOut_98 (lv_at hl 2 rfl) ?_
          refine va_mmin_long hx hb (hml.trans hl.1.symm) hown (hts (.methodLink RX1 38 Lib.MathLoose.min_long.x) (by decide +kernel)) (hts (.static Lib.MathLoose.min_long.x) (by decide +kernel)) (hts (.initialized "java/lang/Math") (by decide +kernel)) (hts (.code Lib.MathLoose.min_long.x Lib.MathLoose.min_long.code 4 (some .long)) (by decide +kernel)) (Nat.le_of_ble_eq_true rfl) (Nat.le_of_ble_eq_true rfl) (Nat.le_of_ble_eq_true rfl) (Nat.le_of_ble_eq_true rfl) dX1_takeCyclesOut_100 ?_
          have hSo := hS
          refine va_callv (va_runV (As := [.long (labs (((cs_pts U) ((cs_pc U) - 3)) - ((cs_pts U) ((cs_pc U) - 2)))), .long (if (cs_pts U) ((cs_pc U) - 2) < (cs_pts U) ((cs_pc U) - 3) then (cs_pts U) ((cs_pc U) - 2) else (cs_pts U) ((cs_pc U) - 3))]) (rest := []) ⟨hx, hb, hml, hown, hts⟩ (kX1_keepCycle l D cy a n U H1.size (labs (((cs_pts U) ((cs_pc U) - 3)) - ((cs_pts U) ((cs_pc U) - 2)))) (if (cs_pts U) ((cs_pc U) - 2) < (cs_pts U) ((cs_pc U) - 3) then (cs_pts U) ((cs_pc U) - 2) else (cs_pts U) ((cs_pc U) - 3)) (by omega)) (cwV 2 hts gX1_takeCyclesOut_X1_keepCycle rfl rfl rfl (by decide +kernel) ⟨Nat.le_of_ble_eq_true rfl, Nat.le_of_ble_eq_true rfl⟩) ⟨pX_blind, va_recv hK hP (ci := 2) (q0 := 5) rfl rfl, fun U hU hW => ⟨rfl, pX_mk hP hK hD hN hU hW⟩⟩ rfl rfl hl.1 rfl (lv_room (Nat.le_of_ble_eq_true rfl)) dX1_takeCyclesOut_103 ⟨Nat.le_of_ble_eq_true rfl, Nat.le_of_ble_eq_true rfl⟩) hS (fun q _ h => freeAll hD hS hA q h) (freeAll hD hS hA) (fun u6 t6 H6 locs6 ht hvm hw hB hz1 hk1 hS => ?_)
          obtain ⟨hP1, hK1, hD1⟩ := hB
          rw [ht] at hP1
          have hK := va_K.moved hvm.symm hK1
          obtain rfl : u6 = sKeep U (labs (((cs_pts U) ((cs_pc U) - 3)) - ((cs_pts U) ((cs_pc U) - 2)))) (if (cs_pts U) ((cs_pc U) - 2) < (cs_pts U) ((cs_pc U) - 3) then (cs_pts U) ((cs_pc U) - 2) else (cs_pts U) ((cs_pc U) - 3)) := hw
          have hD := hD1.weaken (fun _ q _ h => freeAll hD hSo hA q.1 h)
          have hP := hP1
          refine lv_aload_n hx hb dX1_takeCyclesOut_106 rfl (lv_at hl 5 rfl) ?_
          refine va_get (D := D) (ci := 2) (v := .ref (a 6)) (C := RX1) (T := TX1) (N := 5) hx hb hts iX1_takeCyclesOut_X1 hown hK hP 5 rfl rfl 0 (by decide) (hts (.fieldLink RX1 9 "CellRows2$Turns" "points" "[J") (by decide +kernel)) (fun _ h9 => h9) rfl dX1_takeCyclesOut_107 ?_
          refine lv_aload_n hx hb dX1_takeCyclesOut_110 rfl (lv_at hl 5 rfl) ?_
          refine va_get (D := D) (ci := 2) (v := .int (nI (cs_pc U))) (C := RX1) (T := TX1) (N := 5) hx hb hts iX1_takeCyclesOut_X1 hown hK hP 5 rfl rfl 3 (by decide) (hts (.fieldLink RX1 25 "CellRows2$Turns" "pointCount" "I") (by decide +kernel)) (fun _ h9 => h9) rfl dX1_takeCyclesOut_111 ?_
          refine lv_iconst (v := 3) hx hb dX1_takeCyclesOut_114 (by decide) ?_
          refine lv_isub hx hb dX1_takeCyclesOut_115 ?_
          refine W.eqi (pk_sub (a := (cs_pc U)) (b := 3) (by omega)) ?_
          refine lv_lload hx hb dX1_takeCyclesOut_116 (lv_at hl 1 rfl) ?_
          refine rs_l (f := (cs_pts U)) hx hb hK hP hD hS 6 4 rfl rfl ((cs_pc U) - 3) rfl (by omega) (Nat.le_of_ble_eq_true rfl) dX1_takeCyclesOut_118 (fun H7 locs7 hP hD hS => ?_)
          have hP : va_P D vwCl (wX cy a n (cs_set_pts (sKeep U (labs (((cs_pts U) ((cs_pc U) - 3)) - ((cs_pts U) ((cs_pc U) - 2)))) (if (cs_pts U) ((cs_pc U) - 2) < (cs_pts U) ((cs_pc U) - 3) then (cs_pts U) ((cs_pc U) - 2) else (cs_pts U) ((cs_pc U) - 3))) (va_up (cs_pts U) ((cs_pc U) - 3) ((cs_pts U) ((cs_pc U) - 1))))) H7 := hP
          have hD : va_D A (wX cy a n (cs_set_pts (sKeep U (labs (((cs_pts U) ((cs_pc U) - 3)) - ((cs_pts U) ((cs_pc U) - 2)))) (if (cs_pts U) ((cs_pc U) - 2) < (cs_pts U) ((cs_pc U) - 3) then (cs_pts U) ((cs_pc U) - 2) else (cs_pts U) ((cs_pc U) - 3))) (va_up (cs_pts U) ((cs_pc U) - 3) ((cs_pts U) ((cs_pc U) - 1))))) := hD
          refine lv_aload_n hx hb dX1_takeCyclesOut_119 rfl (lv_at hl 5 rfl) ?_
          refine lv_dup hx hb dX1_takeCyclesOut_120 rfl ?_
          refine va_get (D := D) (ci := 2) (v := .int (nI (cs_pc U))) (C := RX1) (T := TX1) (N := 5) hx hb hts iX1_takeCyclesOut_X1 hown hK hP 5 rfl rfl 3 (by decide) (hts (.fieldLink RX1 25 "CellRows2$Turns" "pointCount" "I") (by decide +kernel)) (fun _ h9 => h9) rfl dX1_takeCyclesOut_121 ?_
          refine lv_iconst (v := 2) hx hb dX1_takeCyclesOut_124 (by decide) ?_
          refine lv_isub hx hb dX1_takeCyclesOut_125 ?_
          refine W.eqi (pk_sub (a := (cs_pc U)) (b := 2) (by omega)) ?_
          refine va_put (D := D) (ci := 2) (v := .int (nI ((cs_pc U) - 2))) (ty := .int) (C := RX1) (T := TX1) (N := 5) hx hb hts iX1_takeCyclesOut_X1 tyX1 tyX1_ok nmX1 hown hK hP hD hS 5 rfl rfl 3 (by decide) (hts (.fieldLink RX1 25 "CellRows2$Turns" "pointCount" "I") (by decide +kernel)) (fun _ h9 => h9) rfl (by decide +kernel) rfl rfl (Nat.le_of_ble_eq_true rfl) dX1_takeCyclesOut_126 (fun H8 locs8 hP hD hS => ?_)
          have hP : va_P D vwCl (wX cy a n (cs_set_pc (cs_set_pts (sKeep U (labs (((cs_pts U) ((cs_pc U) - 3)) - ((cs_pts U) ((cs_pc U) - 2)))) (if (cs_pts U) ((cs_pc U) - 2) < (cs_pts U) ((cs_pc U) - 3) then (cs_pts U) ((cs_pc U) - 2) else (cs_pts U) ((cs_pc U) - 3))) (va_up (cs_pts U) ((cs_pc U) - 3) ((cs_pts U) ((cs_pc U) - 1)))) ((cs_pc U) - 2))) H8 := hP
          have hD : va_D A (wX cy a n (cs_set_pc (cs_set_pts (sKeep U (labs (((cs_pts U) ((cs_pc U) - 3)) - ((cs_pts U) ((cs_pc U) - 2)))) (if (cs_pts U) ((cs_pc U) - 2) < (cs_pts U) ((cs_pc U) - 3) then (cs_pts U) ((cs_pc U) - 2) else (cs_pts U) ((cs_pc U) - 3))) (va_up (cs_pts U) ((cs_pc U) - 3) ((cs_pts U) ((cs_pc U) - 1)))) ((cs_pc U) - 2))) := hD
          refine lv_goto (tgt := 0) hx hb dX1_takeCyclesOut_129 (by decide) ?_
          exact ih ((cs_set_pc (cs_set_pts (sKeep U (labs (((cs_pts U) ((cs_pc U) - 3)) - ((cs_pts U) ((cs_pc U) - 2)))) (if (cs_pts U) ((cs_pc U) - 2) < (cs_pts U) ((cs_pc U) - 3) then (cs_pts U) ((cs_pc U) - 2) else (cs_pts U) ((cs_pc U) - 3))) (va_up (cs_pts U) ((cs_pc U) - 3) ((cs_pts U) ((cs_pc U) - 1)))) ((cs_pc U) - 2)), ls) _ _ ⟨(by rw [← hT]; simp only [sTco, if_neg h_3, if_neg h_4, if_neg h_5] <;> rfl), (by show cs_pc U - 2 ≤ 2 * k9 + 3; omega), (by show cs_pc U - 2 ≤ 500; omega), (by show cs_pc U - 2 + 2 * (cs_cyc U + 1) ≤ 514; omega), hP, hD, hS, lv_sub hl [5] rfl⟩
        · exact W.vret hx hb hr (fun t ht hW => ⟨⟨U, rfl, (by rw [← hT]; simp only [sTco, if_neg h_3, if_neg h_4, if_pos h_5]), by rw [ht]; exact hP, va_K.moved hW.alike hK, hD⟩, hS.F ht⟩) hS.2.2 dX1_takeCyclesOut_93
set_option maxRecDepth 20000 in
theorem iX1_follow_X1 : ∀ w ∈ wsX10, w ∈ wsX1_follow := by decide +kernel
set_option maxHeartbeats 4000000 in
set_option maxRecDepth 100000 in
theorem kX1_follow (l : Launch) (D : va_G) (cy : Nat → ClassId) (a : Nat → Nat) (n : Nat) (S : CS) (sz : Nat) (v : Int64) (hp : cs_pc S ≤ 500) (hc : cs_pc S + 2 * cs_cyc S ≤ 513) : Met l yX1_follow wsX1_follow ({ frames := 2, cells := 0, slots := 0, locals := 54 }) (va_Pc [.ref (a 5), .long v] (pX D cy a n S sz)) (va_Qv (fun u : CS => u = sFol S v) (eX D cy a n (va_A (wX cy a n S) sz)) (va_A (wX cy a n S) sz)) 0 0 (va_A (wX cy a n S) sz) := by
  refine Met.ofW (cc := cX1_follow) (maxL := 3) (ret := none) (by decide) rfl ?_
  intro p e s m args below meth c s₁ B hml hv
  obtain ⟨rfl, hsz, hP, hK, hD0, hN⟩ := hv
  have hx := B.exec
  have hb := B.bytes
  have hr := B.returns
  have hts := atoms_spec (ws := wsX1_follow) B.pre
  have hown : s.vm.findClass RX1 = some m.cls := findClass_of_methodNamed B.named
  have hlocks := B.notSynchronized
  subst hsz
  have hD := hD0.self (sz := s.heap.size)
  generalize hAe : va_A (wX cy a n S) s.heap.size = A at hD ⊢
  have hA : ∀ q : Nat, s.heap.size ≤ q → A q := fun q h => by rw [← hAe]; exact Or.inr h
  have hS : va_S A s.heap s.heap [] := va_S.rf
  have hl := lv_entry ([.ref (a 5), .long v]) (n := 3) (Nat.le_of_ble_eq_true rfl)
  rw [lg_entry_eq]
  generalize (lg_sl ([.ref (a 5), .long v]) ++ List.replicate (3 - (lg_sl ([.ref (a 5), .long v])).length) Slot.unset).toArray = ls at hl ⊢
  have hl : lv_has ls 3 [(0, .ref (a 5)), (1, .long v)] := hl
  refine lv_aload_n hx hb dX1_follow_0 rfl (lv_at hl 0 rfl) ?_
  refine lv_lload_n hx hb dX1_follow_1 rfl (lv_at hl 1 rfl) ?_
  refine vp_callSi (W.runV (As := [.long v]) (rest := []) ⟨hx, hb, hml, hown, hts⟩ (kX1_goesOn l D cy a n S s.heap.size v (by omega)) (cwV 1 hts gX1_follow_X1_goesOn rfl rfl rfl (by decide +kernel) ⟨Nat.le_of_ble_eq_true rfl, Nat.le_of_ble_eq_true rfl⟩) ⟨pX_blind, va_recv hK hP (ci := 2) (q0 := 5) rfl rfl, fun U hU hW => ⟨rfl, pX_mk hP hK hD hN hU hW⟩⟩ rfl rfl hl.1 rfl (lv_room (Nat.le_of_ble_eq_true rfl)) dX1_follow_2 ⟨Nat.le_of_ble_eq_true rfl, Nat.le_of_ble_eq_true rfl⟩) (fun r1 hr1 => ?_)
  obtain rfl : r1 = sGo (cs_pts S) (cs_pc S) v := hr1
  refine iz_eq (tgt := 23) hx hb dX1_follow_5 (by decide) (fun h_2 => ?_) (fun h_2 => ?_)
  · refine lv_aload_n hx hb dX1_follow_23 rfl (lv_at hl 0 rfl) ?_
    refine va_get (D := D) (ci := 2) (v := .int (nI (cs_pc S))) (C := RX1) (T := TX1) (N := 5) hx hb hts iX1_follow_X1 hown hK hP 5 rfl rfl 3 (by decide) (hts (.fieldLink RX1 25 "CellRows2$Turns" "pointCount" "I") (by decide +kernel)) (fun _ h9 => h9) rfl dX1_follow_24 ?_
    refine lv_aload_n hx hb dX1_follow_27 rfl (lv_at hl 0 rfl) ?_
    refine va_get (D := D) (ci := 2) (v := .ref (a 6)) (C := RX1) (T := TX1) (N := 5) hx hb hts iX1_follow_X1 hown hK hP 5 rfl rfl 0 (by decide) (hts (.fieldLink RX1 9 "CellRows2$Turns" "points" "[J") (by decide +kernel)) (fun _ h9 => h9) rfl dX1_follow_28 ?_
    refine va_alen (v := nI 500) hx hb hK hP 6 4 rfl rfl rfl dX1_follow_31 ?_
    refine ib_ge (tgt := 55) hx hb dX1_follow_32 (by decide) (fun h_3 => ?_) (fun h_3 => ?_)
    · refine lv_aload_n hx hb dX1_follow_55 rfl (lv_at hl 0 rfl) ?_
      have hSo := hS
      refine va_callv (va_runV (As := []) (rest := []) ⟨hx, hb, hml, hown, hts⟩ (kX1_takeCyclesOut l D cy a n S s.heap.size (by first | exact hp | (show cs_pc S + 1 ≤ 500; omega)) (by first | (show cs_pc S + 2 * cs_cyc S ≤ 514; omega) | (show cs_pc S + 1 + 2 * cs_cyc S ≤ 514; omega))) (cwV 0 hts gX1_follow_X1_takeCyclesOut rfl rfl rfl (by decide +kernel) ⟨Nat.le_of_ble_eq_true rfl, Nat.le_of_ble_eq_true rfl⟩) ⟨pX_blind, va_recv hK hP (ci := 2) (q0 := 5) rfl rfl, fun U hU hW => ⟨rfl, pX_mk hP hK hD hN hU hW⟩⟩ rfl rfl hl.1 rfl (lv_room (Nat.le_of_ble_eq_true rfl)) dX1_follow_56 ⟨Nat.le_of_ble_eq_true rfl, Nat.le_of_ble_eq_true rfl⟩) hS (fun q _ h => freeAll hD hS hA q h) (freeAll hD hS hA) (fun u4 t4 H4 locs4 ht hvm hw hB hz1 hk1 hS => ?_)
      obtain ⟨hP1, hK1, hD1⟩ := hB
      rw [ht] at hP1
      have hK := va_K.moved hvm.symm hK1
      obtain rfl : u4 = sTco 250 S := hw
      have hD := hD1.weaken (fun _ q _ h => freeAll hD hSo hA q.1 h)
      have hP := hP1
      exact W.vret hx hb hr (fun t ht hW => ⟨⟨sTco 250 S, rfl, (by simp only [sFol, sPut, if_pos h_2, if_neg h_3]), by rw [ht]; exact hP, va_K.moved hW.alike hK, hD⟩, hS.F ht⟩) hS.2.2 dX1_follow_59
    · have g5 : cs_pc S < 500 := nI_islt (by omega) (by omega) h_3
      refine lv_aload_n hx hb dX1_follow_35 rfl (lv_at hl 0 rfl) ?_
      refine va_get (D := D) (ci := 2) (v := .ref (a 6)) (C := RX1) (T := TX1) (N := 5) hx hb hts iX1_follow_X1 hown hK hP 5 rfl rfl 0 (by decide) (hts (.fieldLink RX1 9 "CellRows2$Turns" "points" "[J") (by decide +kernel)) (fun _ h9 => h9) rfl dX1_follow_36 ?_
      refine lv_aload_n hx hb dX1_follow_39 rfl (lv_at hl 0 rfl) ?_
      refine va_get (D := D) (ci := 2) (v := .int (nI (cs_pc S))) (C := RX1) (T := TX1) (N := 5) hx hb hts iX1_follow_X1 hown hK hP 5 rfl rfl 3 (by decide) (hts (.fieldLink RX1 25 "CellRows2$Turns" "pointCount" "I") (by decide +kernel)) (fun _ h9 => h9) rfl dX1_follow_40 ?_
      refine lv_lload_n hx hb dX1_follow_43 rfl (lv_at hl 1 rfl) ?_
      refine rs_l (f := (cs_pts S)) hx hb hK hP hD hS 6 4 rfl rfl (cs_pc S) rfl (by omega) (Nat.le_of_ble_eq_true rfl) dX1_follow_44 (fun H5 locs5 hP hD hS => ?_)
      have hP : va_P D vwCl (wX cy a n (cs_set_pts S (va_up (cs_pts S) (cs_pc S) v))) H5 := hP
      have hD : va_D A (wX cy a n (cs_set_pts S (va_up (cs_pts S) (cs_pc S) v))) := hD
      refine lv_aload_n hx hb dX1_follow_45 rfl (lv_at hl 0 rfl) ?_
      refine lv_dup hx hb dX1_follow_46 rfl ?_
      refine va_get (D := D) (ci := 2) (v := .int (nI (cs_pc S))) (C := RX1) (T := TX1) (N := 5) hx hb hts iX1_follow_X1 hown hK hP 5 rfl rfl 3 (by decide) (hts (.fieldLink RX1 25 "CellRows2$Turns" "pointCount" "I") (by decide +kernel)) (fun _ h9 => h9) rfl dX1_follow_47 ?_
      refine lv_iconst (v := 1) hx hb dX1_follow_50 (by decide) ?_
      refine lv_iadd hx hb dX1_follow_51 ?_
      refine W.eqi (nI_1 (cs_pc S)) ?_
      refine va_put (D := D) (ci := 2) (v := .int (nI ((cs_pc S) + 1))) (ty := .int) (C := RX1) (T := TX1) (N := 5) hx hb hts iX1_follow_X1 tyX1 tyX1_ok nmX1 hown hK hP hD hS 5 rfl rfl 3 (by decide) (hts (.fieldLink RX1 25 "CellRows2$Turns" "pointCount" "I") (by decide +kernel)) (fun _ h9 => h9) rfl (by decide +kernel) rfl rfl (Nat.le_of_ble_eq_true rfl) dX1_follow_52 (fun H6 locs6 hP hD hS => ?_)
      have hP : va_P D vwCl (wX cy a n (cs_set_pc (cs_set_pts S (va_up (cs_pts S) (cs_pc S) v)) ((cs_pc S) + 1))) H6 := hP
      have hD : va_D A (wX cy a n (cs_set_pc (cs_set_pts S (va_up (cs_pts S) (cs_pc S) v)) ((cs_pc S) + 1))) := hD
      refine lv_aload_n hx hb dX1_follow_55 rfl (lv_at hl 0 rfl) ?_
      have hSo := hS
      refine va_callv (va_runV (As := []) (rest := []) ⟨hx, hb, hml, hown, hts⟩ (kX1_takeCyclesOut l D cy a n (cs_set_pc (cs_set_pts S (va_up (cs_pts S) (cs_pc S) v)) ((cs_pc S) + 1)) H6.size (by first | exact hp | (show cs_pc S + 1 ≤ 500; omega)) (by first | (show cs_pc S + 2 * cs_cyc S ≤ 514; omega) | (show cs_pc S + 1 + 2 * cs_cyc S ≤ 514; omega))) (cwV 0 hts gX1_follow_X1_takeCyclesOut rfl rfl rfl (by decide +kernel) ⟨Nat.le_of_ble_eq_true rfl, Nat.le_of_ble_eq_true rfl⟩) ⟨pX_blind, va_recv hK hP (ci := 2) (q0 := 5) rfl rfl, fun U hU hW => ⟨rfl, pX_mk hP hK hD hN hU hW⟩⟩ rfl rfl hl.1 rfl (lv_room (Nat.le_of_ble_eq_true rfl)) dX1_follow_56 ⟨Nat.le_of_ble_eq_true rfl, Nat.le_of_ble_eq_true rfl⟩) hS (fun q _ h => freeAll hD hS hA q h) (freeAll hD hS hA) (fun u7 t7 H7 locs7 ht hvm hw hB hz1 hk1 hS => ?_)
      obtain ⟨hP1, hK1, hD1⟩ := hB
      rw [ht] at hP1
      have hK := va_K.moved hvm.symm hK1
      obtain rfl : u7 = sTco 250 (cs_set_pc (cs_set_pts S (va_up (cs_pts S) (cs_pc S) v)) ((cs_pc S) + 1)) := hw
      have hD := hD1.weaken (fun _ q _ h => freeAll hD hSo hA q.1 h)
      have hP := hP1
      exact W.vret hx hb hr (fun t ht hW => ⟨⟨sTco 250 (cs_set_pc (cs_set_pts S (va_up (cs_pts S) (cs_pc S) v)) ((cs_pc S) + 1)), rfl, (by simp only [sFol, sPut, if_pos h_2, if_pos h_3]), by rw [ht]; exact hP, va_K.moved hW.alike hK, hD⟩, hS.F ht⟩) hS.2.2 dX1_follow_59
  · have g1 : 1 ≤ cs_pc S := sGo_pos h_2
    refine lv_aload_n hx hb dX1_follow_8 rfl (lv_at hl 0 rfl) ?_
    refine va_get (D := D) (ci := 2) (v := .ref (a 6)) (C := RX1) (T := TX1) (N := 5) hx hb hts iX1_follow_X1 hown hK hP 5 rfl rfl 0 (by decide) (hts (.fieldLink RX1 9 "CellRows2$Turns" "points" "[J") (by decide +kernel)) (fun _ h9 => h9) rfl dX1_follow_9 ?_
    refine lv_aload_n hx hb dX1_follow_12 rfl (lv_at hl 0 rfl) ?_
    refine va_get (D := D) (ci := 2) (v := .int (nI (cs_pc S))) (C := RX1) (T := TX1) (N := 5) hx hb hts iX1_follow_X1 hown hK hP 5 rfl rfl 3 (by decide) (hts (.fieldLink RX1 25 "CellRows2$Turns" "pointCount" "I") (by decide +kernel)) (fun _ h9 => h9) rfl dX1_follow_13 ?_
    refine lv_iconst (v := 1) hx hb dX1_follow_16 (by decide) ?_
    refine lv_isub hx hb dX1_follow_17 ?_
    refine W.eqi (pk_sub (a := (cs_pc S)) (b := 1) (by omega)) ?_
    refine lv_lload_n hx hb dX1_follow_18 rfl (lv_at hl 1 rfl) ?_
    refine rs_l (f := (cs_pts S)) hx hb hK hP hD hS 6 4 rfl rfl ((cs_pc S) - 1) rfl (by omega) (Nat.le_of_ble_eq_true rfl) dX1_follow_19 (fun H8 locs8 hP hD hS => ?_)
    have hP : va_P D vwCl (wX cy a n (cs_set_pts S (va_up (cs_pts S) ((cs_pc S) - 1) v))) H8 := hP
    have hD : va_D A (wX cy a n (cs_set_pts S (va_up (cs_pts S) ((cs_pc S) - 1) v))) := hD
    refine lv_goto (tgt := 55) hx hb dX1_follow_20 (by decide) ?_
    refine lv_aload_n hx hb dX1_follow_55 rfl (lv_at hl 0 rfl) ?_
    have hSo := hS
    refine va_callv (va_runV (As := []) (rest := []) ⟨hx, hb, hml, hown, hts⟩ (kX1_takeCyclesOut l D cy a n (cs_set_pts S (va_up (cs_pts S) ((cs_pc S) - 1) v)) H8.size (by first | exact hp | (show cs_pc S + 1 ≤ 500; omega)) (by first | (show cs_pc S + 2 * cs_cyc S ≤ 514; omega) | (show cs_pc S + 1 + 2 * cs_cyc S ≤ 514; omega))) (cwV 0 hts gX1_follow_X1_takeCyclesOut rfl rfl rfl (by decide +kernel) ⟨Nat.le_of_ble_eq_true rfl, Nat.le_of_ble_eq_true rfl⟩) ⟨pX_blind, va_recv hK hP (ci := 2) (q0 := 5) rfl rfl, fun U hU hW => ⟨rfl, pX_mk hP hK hD hN hU hW⟩⟩ rfl rfl hl.1 rfl (lv_room (Nat.le_of_ble_eq_true rfl)) dX1_follow_56 ⟨Nat.le_of_ble_eq_true rfl, Nat.le_of_ble_eq_true rfl⟩) hS (fun q _ h => freeAll hD hS hA q h) (freeAll hD hS hA) (fun u9 t9 H9 locs9 ht hvm hw hB hz1 hk1 hS => ?_)
    obtain ⟨hP1, hK1, hD1⟩ := hB
    rw [ht] at hP1
    have hK := va_K.moved hvm.symm hK1
    obtain rfl : u9 = sTco 250 (cs_set_pts S (va_up (cs_pts S) ((cs_pc S) - 1) v)) := hw
    have hD := hD1.weaken (fun _ q _ h => freeAll hD hSo hA q.1 h)
    have hP := hP1
    exact W.vret hx hb hr (fun t ht hW => ⟨⟨sTco 250 (cs_set_pts S (va_up (cs_pts S) ((cs_pc S) - 1) v)), rfl, (by simp only [sFol, sPut, if_neg h_2]), by rw [ht]; exact hP, va_K.moved hW.alike hK, hD⟩, hS.F ht⟩) hS.2.2 dX1_follow_59
set_option maxRecDepth 20000 in
theorem iX0_take_X0 : ∀ w ∈ wsX00, w ∈ wsX0_take := by decide +kernel
set_option maxHeartbeats 4000000 in
set_option maxRecDepth 100000 in
theorem kX0_take (l : Launch) (D : va_G) (cy : Nat → ClassId) (a : Nat → Nat) (n : Nat) (S : CS) (sz : Nat) (j : Nat) (hj : j < n) (cur vo wa cap : Int64) (he : okD 1026 (cs_es S j)) : Met l yX0_take wsX0_take ({ frames := 1, cells := 0, slots := 0, locals := 21 }) (va_Pc [.ref (a (9 + j)), .long cur, .long vo, .long wa, .long cap] (pX D cy a n S sz)) (va_Qv (fun u : CS => u = sTake S j cur vo wa cap) (eX D cy a n (va_A (wX cy a n S) sz)) (va_A (wX cy a n S) sz)) 0 0 (va_A (wX cy a n S) sz) := by
  refine Met.ofW (cc := cX0_take) (maxL := 15) (ret := none) (by decide) rfl ?_
  intro p e s m args below meth c s₁ B hml hv
  obtain ⟨rfl, hsz, hP, hK, hD0, hN⟩ := hv
  have hx := B.exec
  have hb := B.bytes
  have hr := B.returns
  have hts := atoms_spec (ws := wsX0_take) B.pre
  have hown : s.vm.findClass RX0 = some m.cls := findClass_of_methodNamed B.named
  have hlocks := B.notSynchronized
  subst hsz
  have hD := hD0.self (sz := s.heap.size)
  generalize hAe : va_A (wX cy a n S) s.heap.size = A at hD ⊢
  have hA : ∀ q : Nat, s.heap.size ≤ q → A q := fun q h => by rw [← hAe]; exact Or.inr h
  have hS : va_S A s.heap s.heap [] := va_S.rf
  have hl := lv_entry ([.ref (a (9 + j)), .long cur, .long vo, .long wa, .long cap]) (n := 15) (Nat.le_of_ble_eq_true rfl)
  rw [lg_entry_eq]
  generalize (lg_sl ([.ref (a (9 + j)), .long cur, .long vo, .long wa, .long cap]) ++ List.replicate (15 - (lg_sl ([.ref (a (9 + j)), .long cur, .long vo, .long wa, .long cap])).length) Slot.unset).toArray = ls at hl ⊢
  have hl : lv_has ls 15 [(0, .ref (a (9 + j))), (1, .long cur), (3, .long vo), (5, .long wa), (7, .long cap)] := hl
  refine lv_aload_n hx hb dX0_take_0 rfl (lv_at hl 0 rfl) ?_
  refine lv_lload_n hx hb dX0_take_1 rfl (lv_at hl 2 rfl) ?_
  refine va_put (D := D) (ci := 1) (v := .long vo) (ty := .long) (C := RX0) (T := TX0) (N := 6) hx hb hts iX0_take_X0 tyX0 tyX0_ok nmX0 hown hK hP hD hS (9 + j) (wX_c hj) rfl 2 (by decide) (hts (.fieldLink RX0 25 "CellRows2$Cell" "voltage" "J") (by decide +kernel)) (fun _ h9 => h9) rfl (by decide +kernel) rfl rfl (Nat.le_of_ble_eq_true rfl) dX0_take_2 (fun H1 locs1 hP hD hS => ?_)
  have hP : va_P D vwCl (wX cy a n (cs_set_vo S (va_up (cs_vo S) j vo))) H1 := by show va_P D vwCl (wX cy a n (cs_set_vo S (va_up (cs_vo S) j vo))) H1; rw [← wX_set_vo S j vo]; exact hP
  have hD : va_D A (wX cy a n (cs_set_vo S (va_up (cs_vo S) j vo))) := by show va_D A (wX cy a n (cs_set_vo S (va_up (cs_vo S) j vo))); rw [← wX_set_vo S j vo]; exact hD
  refine lv_aload_n hx hb dX0_take_5 rfl (lv_at hl 0 rfl) ?_
  refine lv_lload hx hb dX0_take_6 (lv_at hl 3 rfl) ?_
  refine va_put (D := D) (ci := 1) (v := .long wa) (ty := .long) (C := RX0) (T := TX0) (N := 6) hx hb hts iX0_take_X0 tyX0 tyX0_ok nmX0 hown hK hP hD hS (9 + j) (wX_c hj) rfl 3 (by decide) (hts (.fieldLink RX0 30 "CellRows2$Cell" "warmth" "J") (by decide +kernel)) (fun _ h9 => h9) rfl (by decide +kernel) rfl rfl (Nat.le_of_ble_eq_true rfl) dX0_take_8 (fun H2 locs2 hP hD hS => ?_)
  have hP : va_P D vwCl (wX cy a n (cs_set_wa (cs_set_vo S (va_up (cs_vo S) j vo)) (va_up (cs_wa S) j wa))) H2 := by show va_P D vwCl (wX cy a n (cs_set_wa (cs_set_vo S (va_up (cs_vo S) j vo)) (va_up (cs_wa (cs_set_vo S (va_up (cs_vo S) j vo))) j wa))) H2; rw [← wX_set_wa (cs_set_vo S (va_up (cs_vo S) j vo)) j wa]; exact hP
  have hD : va_D A (wX cy a n (cs_set_wa (cs_set_vo S (va_up (cs_vo S) j vo)) (va_up (cs_wa S) j wa))) := by show va_D A (wX cy a n (cs_set_wa (cs_set_vo S (va_up (cs_vo S) j vo)) (va_up (cs_wa (cs_set_vo S (va_up (cs_vo S) j vo))) j wa))); rw [← wX_set_wa (cs_set_vo S (va_up (cs_vo S) j vo)) j wa]; exact hD
  refine lv_aload_n hx hb dX0_take_11 rfl (lv_at hl 0 rfl) ?_
  refine lv_dup hx hb dX0_take_12 rfl ?_
  refine va_get (D := D) (ci := 1) (v := .long ((cs_ch S) j)) (C := RX0) (T := TX0) (N := 6) hx hb hts iX0_take_X0 hown hK hP (9 + j) (wX_c hj) rfl 0 (by decide) (hts (.fieldLink RX0 11 "CellRows2$Cell" "charge" "J") (by decide +kernel)) (fun _ h9 => h9) rfl dX0_take_13 ?_
  refine lv_aload_n hx hb dX0_take_16 rfl (lv_at hl 0 rfl) ?_
  refine va_get (D := D) (ci := 1) (v := .int ((cs_bl S) j)) (C := RX0) (T := TX0) (N := 6) hx hb hts iX0_take_X0 hown hK hP (9 + j) (wX_c hj) rfl 5 (by decide) (hts (.fieldLink RX0 33 "CellRows2$Cell" "bleeds" "Z") (by decide +kernel)) (fun _ h9 => h9) rfl dX0_take_17 ?_
  refine W.join (P := fun v9 : Int64 => v9 = if (cs_bl S) j = 0 then cur else cur - 5) (g := fun v9 => F0 m 32 ls [.long v9, .long ((cs_ch S) j), .ref (a (9 + j))]) (fun v3 hv3 => ?_) (fun J3 => ?_)
  · subst hv3
    refine lv_ladd hx hb dX0_take_32 ?_
    refine va_put (D := D) (ci := 1) (v := .long (((cs_ch S) j) + (if (cs_bl S) j = 0 then cur else cur - 5))) (ty := .long) (C := RX0) (T := TX0) (N := 6) hx hb hts iX0_take_X0 tyX0 tyX0_ok nmX0 hown hK hP hD hS (9 + j) (wX_c hj) rfl 0 (by decide) (hts (.fieldLink RX0 11 "CellRows2$Cell" "charge" "J") (by decide +kernel)) (fun _ h9 => h9) rfl (by decide +kernel) rfl rfl (Nat.le_of_ble_eq_true rfl) dX0_take_33 (fun H5 locs5 hP hD hS => ?_)
    have hP : va_P D vwCl (wX cy a n (cs_set_ch (cs_set_wa (cs_set_vo S (va_up (cs_vo S) j vo)) (va_up (cs_wa S) j wa)) (va_up (cs_ch S) j (((cs_ch S) j) + (if (cs_bl S) j = 0 then cur else cur - 5))))) H5 := by show va_P D vwCl (wX cy a n (cs_set_ch (cs_set_wa (cs_set_vo S (va_up (cs_vo S) j vo)) (va_up (cs_wa S) j wa)) (va_up (cs_ch (cs_set_wa (cs_set_vo S (va_up (cs_vo S) j vo)) (va_up (cs_wa S) j wa))) j (((cs_ch S) j) + (if (cs_bl S) j = 0 then cur else cur - 5))))) H5; rw [← wX_set_ch (cs_set_wa (cs_set_vo S (va_up (cs_vo S) j vo)) (va_up (cs_wa S) j wa)) j (((cs_ch S) j) + (if (cs_bl S) j = 0 then cur else cur - 5))]; exact hP
    have hD : va_D A (wX cy a n (cs_set_ch (cs_set_wa (cs_set_vo S (va_up (cs_vo S) j vo)) (va_up (cs_wa S) j wa)) (va_up (cs_ch S) j (((cs_ch S) j) + (if (cs_bl S) j = 0 then cur else cur - 5))))) := by show va_D A (wX cy a n (cs_set_ch (cs_set_wa (cs_set_vo S (va_up (cs_vo S) j vo)) (va_up (cs_wa S) j wa)) (va_up (cs_ch (cs_set_wa (cs_set_vo S (va_up (cs_vo S) j vo)) (va_up (cs_wa S) j wa))) j (((cs_ch S) j) + (if (cs_bl S) j = 0 then cur else cur - 5))))); rw [← wX_set_ch (cs_set_wa (cs_set_vo S (va_up (cs_vo S) j vo)) (va_up (cs_wa S) j wa)) j (((cs_ch S) j) + (if (cs_bl S) j = 0 then cur else cur - 5))]; exact hD
    refine lv_lload hx hb dX0_take_36 (lv_at hl 4 rfl) ?_
    refine lv_lconst (v := 0) hx hb dX0_take_38 (by decide) ?_
    refine W.join (P := fun v9 : UInt64 => v9 = sCnt (cs_es S j) cur cap) (g := fun v9 => F0 m 61 ls [.double v9]) (fun v6 hv6 => ?_) (fun J6 => ?_)
    · subst hv6
      refine lv_dstore (lv' := [(9, .double (sCnt (cs_es S j) cur cap)), (0, .ref (a (9 + j))), (1, .long cur), (3, .long vo), (5, .long wa), (7, .long cap)]) hx hb dX0_take_61 hl (by decide) rfl (fun ls hl => ?_)
      refine lv_dload hx hb dX0_take_63 (lv_at hl 0 rfl) ?_
      refine vp_callSd (W.runS (As := [.double (sCnt (cs_es S j) cur cap)]) (rest := []) ⟨hx, hb, hml, hown, hts⟩ (kX0_withinShare l (sCnt (cs_es S j) cur cap)) (va_cwS 1 hts gX0_take_X0_withinShare rfl rfl rfl (by decide +kernel) ⟨Nat.le_of_ble_eq_true rfl, Nat.le_of_ble_eq_true rfl⟩) ⟨fun _ _ _ _ q => q, fun U hU hW => ⟨rfl, trivial⟩⟩ rfl rfl hl.1 rfl (lv_room (Nat.le_of_ble_eq_true rfl)) dX0_take_65 ⟨Nat.le_of_ble_eq_true rfl, Nat.le_of_ble_eq_true rfl⟩) (fun r8 hr8 => ?_)
      obtain rfl : r8 = sWin (sCnt (cs_es S j) cur cap) := hr8
      refine lv_dstore (lv' := [(11, .double (sWin (sCnt (cs_es S j) cur cap))), (9, .double (sCnt (cs_es S j) cur cap)), (0, .ref (a (9 + j))), (1, .long cur), (3, .long vo), (5, .long wa), (7, .long cap)]) hx hb dX0_take_68 hl (by decide) rfl (fun ls hl => ?_)
      refine lv_lload_n hx hb dX0_take_70 rfl (lv_at hl 4 rfl) ?_
      refine lv_ldc2 hx hb hown (hts (.constantLong RX0 43 (3000)) (by decide +kernel)) dX0_take_71 ?_
      refine lv_lsub hx hb dX0_take_74 ?_
      refine lv_l2d hx hb dX0_take_75 ?_
      refine lv_ldc2d hx hb hown (hts (.constantDouble RX0 45 (4652992471259676672)) (by decide +kernel)) dX0_take_76 ?_
      refine lv_ddiv hx hb dX0_take_79 (okD_n64 (by omega) (okD_quo2 _)) ?_
      refine vp_callSd (W.runS (As := [.double (FP.ddiv (FP.l2d (vo - 3000)) 4652992471259676672)]) (rest := []) ⟨hx, hb, hml, hown, hts⟩ (kX0_withinShare l (FP.ddiv (FP.l2d (vo - 3000)) 4652992471259676672)) (va_cwS 1 hts gX0_take_X0_withinShare rfl rfl rfl (by decide +kernel) ⟨Nat.le_of_ble_eq_true rfl, Nat.le_of_ble_eq_true rfl⟩) ⟨fun _ _ _ _ q => q, fun U hU hW => ⟨rfl, trivial⟩⟩ rfl rfl hl.1 rfl (lv_room (Nat.le_of_ble_eq_true rfl)) dX0_take_80 ⟨Nat.le_of_ble_eq_true rfl, Nat.le_of_ble_eq_true rfl⟩) (fun r9 hr9 => ?_)
      obtain rfl : r9 = sTold vo := hr9
      refine lv_dstore (lv' := [(13, .double (sTold vo)), (11, .double (sWin (sCnt (cs_es S j) cur cap))), (9, .double (sCnt (cs_es S j) cur cap)), (0, .ref (a (9 + j))), (1, .long cur), (3, .long vo), (5, .long wa), (7, .long cap)]) hx hb dX0_take_83 hl (by decide) rfl (fun ls hl => ?_)
      refine lv_aload_n hx hb dX0_take_85 rfl (lv_at hl 3 rfl) ?_
      refine lv_dload hx hb dX0_take_86 (lv_at hl 1 rfl) ?_
      refine lv_ldc2d hx hb hown (hts (.constantDouble RX0 47 (4589168020290535424)) (by decide +kernel)) dX0_take_88 ?_
      refine lv_dload hx hb dX0_take_91 (lv_at hl 0 rfl) ?_
      refine lv_dload hx hb dX0_take_93 (lv_at hl 1 rfl) ?_
      refine lv_dsub hx hb dX0_take_95 (okD_n64 (by omega) (okD_dif he cur vo cap)) ?_
      refine lv_dmul hx hb dX0_take_96 (okD_n64 (by omega) (okD_mul (okD_dif he cur vo cap))) ?_
      refine lv_dadd hx hb dX0_take_97 (okD_n64 (by omega) (okD_est he cur vo cap)) ?_
      refine va_put (D := D) (ci := 1) (v := .double (FP.dadd (sWin (sCnt (cs_es S j) cur cap)) (FP.dmul 4589168020290535424 (FP.dsub (sTold vo) (sWin (sCnt (cs_es S j) cur cap)))))) (ty := .double) (C := RX0) (T := TX0) (N := 6) hx hb hts iX0_take_X0 tyX0 tyX0_ok nmX0 hown hK hP hD hS (9 + j) (wX_c hj) rfl 1 (by decide) (hts (.fieldLink RX0 19 "CellRows2$Cell" "estimate" "D") (by decide +kernel)) (fun _ h9 => h9) rfl (by decide +kernel) rfl rfl (Nat.le_of_ble_eq_true rfl) dX0_take_98 (fun H10 locs10 hP hD hS => ?_)
      have hP : va_P D vwCl (wX cy a n (cs_set_es (cs_set_ch (cs_set_wa (cs_set_vo S (va_up (cs_vo S) j vo)) (va_up (cs_wa S) j wa)) (va_up (cs_ch S) j (((cs_ch S) j) + (if (cs_bl S) j = 0 then cur else cur - 5)))) (va_up (cs_es S) j (FP.dadd (sWin (sCnt (cs_es S j) cur cap)) (FP.dmul 4589168020290535424 (FP.dsub (sTold vo) (sWin (sCnt (cs_es S j) cur cap)))))))) H10 := by show va_P D vwCl (wX cy a n (cs_set_es (cs_set_ch (cs_set_wa (cs_set_vo S (va_up (cs_vo S) j vo)) (va_up (cs_wa S) j wa)) (va_up (cs_ch S) j (((cs_ch S) j) + (if (cs_bl S) j = 0 then cur else cur - 5)))) (va_up (cs_es (cs_set_ch (cs_set_wa (cs_set_vo S (va_up (cs_vo S) j vo)) (va_up (cs_wa S) j wa)) (va_up (cs_ch S) j (((cs_ch S) j) + (if (cs_bl S) j = 0 then cur else cur - 5))))) j (FP.dadd (sWin (sCnt (cs_es S j) cur cap)) (FP.dmul 4589168020290535424 (FP.dsub (sTold vo) (sWin (sCnt (cs_es S j) cur cap)))))))) H10; rw [← wX_set_es (cs_set_ch (cs_set_wa (cs_set_vo S (va_up (cs_vo S) j vo)) (va_up (cs_wa S) j wa)) (va_up (cs_ch S) j (((cs_ch S) j) + (if (cs_bl S) j = 0 then cur else cur - 5)))) j (FP.dadd (sWin (sCnt (cs_es S j) cur cap)) (FP.dmul 4589168020290535424 (FP.dsub (sTold vo) (sWin (sCnt (cs_es S j) cur cap)))))]; exact hP
      have hD : va_D A (wX cy a n (cs_set_es (cs_set_ch (cs_set_wa (cs_set_vo S (va_up (cs_vo S) j vo)) (va_up (cs_wa S) j wa)) (va_up (cs_ch S) j (((cs_ch S) j) + (if (cs_bl S) j = 0 then cur else cur - 5)))) (va_up (cs_es S) j (FP.dadd (sWin (sCnt (cs_es S j) cur cap)) (FP.dmul 4589168020290535424 (FP.dsub (sTold vo) (sWin (sCnt (cs_es S j) cur cap)))))))) := by show va_D A (wX cy a n (cs_set_es (cs_set_ch (cs_set_wa (cs_set_vo S (va_up (cs_vo S) j vo)) (va_up (cs_wa S) j wa)) (va_up (cs_ch S) j (((cs_ch S) j) + (if (cs_bl S) j = 0 then cur else cur - 5)))) (va_up (cs_es (cs_set_ch (cs_set_wa (cs_set_vo S (va_up (cs_vo S) j vo)) (va_up (cs_wa S) j wa)) (va_up (cs_ch S) j (((cs_ch S) j) + (if (cs_bl S) j = 0 then cur else cur - 5))))) j (FP.dadd (sWin (sCnt (cs_es S j) cur cap)) (FP.dmul 4589168020290535424 (FP.dsub (sTold vo) (sWin (sCnt (cs_es S j) cur cap)))))))); rw [← wX_set_es (cs_set_ch (cs_set_wa (cs_set_vo S (va_up (cs_vo S) j vo)) (va_up (cs_wa S) j wa)) (va_up (cs_ch S) j (((cs_ch S) j) + (if (cs_bl S) j = 0 then cur else cur - 5)))) j (FP.dadd (sWin (sCnt (cs_es S j) cur cap)) (FP.dmul 4589168020290535424 (FP.dsub (sTold vo) (sWin (sCnt (cs_es S j) cur cap)))))]; exact hD
      exact W.vret hx hb hr (fun t ht hW => ⟨⟨(cs_set_es (cs_set_ch (cs_set_wa (cs_set_vo S (va_up (cs_vo S) j vo)) (va_up (cs_wa S) j wa)) (va_up (cs_ch S) j (((cs_ch S) j) + (if (cs_bl S) j = 0 then cur else cur - 5)))) (va_up (cs_es S) j (FP.dadd (sWin (sCnt (cs_es S j) cur cap)) (FP.dmul 4589168020290535424 (FP.dsub (sTold vo) (sWin (sCnt (cs_es S j) cur cap))))))), rfl, rfl, by rw [ht]; exact hP, va_K.moved hW.alike hK, hD⟩, hS.F ht⟩) hS.2.2 dX0_take_101
    · refine il_ne (tgt := 50) hx hb dX0_take_39 dX0_take_40 (by decide) (fun h_7 => ?_) (fun h_7 => ?_)
      · refine lv_aload_n hx hb dX0_take_50 rfl (lv_at hl 0 rfl) ?_
        refine va_get (D := D) (ci := 1) (v := .double ((cs_es S) j)) (C := RX0) (T := TX0) (N := 6) hx hb hts iX0_take_X0 hown hK hP (9 + j) (wX_c hj) rfl 1 (by decide) (hts (.fieldLink RX0 19 "CellRows2$Cell" "estimate" "D") (by decide +kernel)) (fun _ h9 => h9) rfl dX0_take_51 ?_
        refine lv_lload_n hx hb dX0_take_54 rfl (lv_at hl 1 rfl) ?_
        refine lv_l2d hx hb dX0_take_55 ?_
        refine lv_lload hx hb dX0_take_56 (lv_at hl 4 rfl) ?_
        refine lv_l2d hx hb dX0_take_58 ?_
        have h_cap : ¬ cap = 0 := h_7
        refine lv_ddiv hx hb dX0_take_59 (okD_n64 (by omega) (okD_quo h_cap)) ?_
        refine lv_dadd hx hb dX0_take_60 (okD_n64 (by omega) (okD_add (K := 1089) (by omega) (okD_mono he (by omega)) (okD_quo h_cap))) ?_
        exact J6 _ (by simp only [sCnt, if_neg h_7])
      · refine lv_aload_n hx hb dX0_take_43 rfl (lv_at hl 0 rfl) ?_
        refine va_get (D := D) (ci := 1) (v := .double ((cs_es S) j)) (C := RX0) (T := TX0) (N := 6) hx hb hts iX0_take_X0 hown hK hP (9 + j) (wX_c hj) rfl 1 (by decide) (hts (.fieldLink RX0 19 "CellRows2$Cell" "estimate" "D") (by decide +kernel)) (fun _ h9 => h9) rfl dX0_take_44 ?_
        refine lv_goto (tgt := 61) hx hb dX0_take_47 (by decide) ?_
        exact J6 _ (by simp only [sCnt, if_pos h_7])
  · refine iz_eq (tgt := 31) hx hb dX0_take_20 (by decide) (fun h_4 => ?_) (fun h_4 => ?_)
    · refine lv_lload_n hx hb dX0_take_31 rfl (lv_at hl 1 rfl) ?_
      exact J3 _ (by simp only [if_pos h_4])
    · refine lv_lload_n hx hb dX0_take_23 rfl (lv_at hl 1 rfl) ?_
      refine lv_ldc2 hx hb hown (hts (.constantLong RX0 37 (5)) (by decide +kernel)) dX0_take_24 ?_
      refine lv_lsub hx hb dX0_take_27 ?_
      refine lv_goto (tgt := 32) hx hb dX0_take_28 (by decide) ?_
      exact J3 _ (by simp only [if_neg h_4])
