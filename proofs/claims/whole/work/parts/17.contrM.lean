set_option maxRecDepth 20000 in
theorem iX3_thrown_X3 : ∀ w ∈ wsX30, w ∈ wsX3_thrown := by decide +kernel
set_option maxHeartbeats 1000000 in
set_option maxRecDepth 100000 in
theorem kX3_thrown (l : Launch) (D : va_G) (cm : Nat → ClassId) (b : Nat → Nat) (n : Nat) (M : MS) (sz : Nat) : Met l yX3_thrown wsX3_thrown ({ frames := 0, cells := 0, slots := 0, locals := 0 }) (va_Pc [.ref (b 0)] (pM D cm b n M sz)) (vp_Si (fun r => r = cm_th M)) 0 0 (fun _ => False) := by
  refine Met.ofW (cc := cX3_thrown) (maxL := 1) (ret := (some .int)) (by decide) rfl ?_
  intro p e s m args below meth c s₁ B hml hv
  obtain ⟨rfl, hsz, hP, hK, hD0⟩ := hv
  have hx := B.exec
  have hb := B.bytes
  have hr := B.returns
  have hts := atoms_spec (ws := wsX3_thrown) B.pre
  have hown : s.vm.findClass RX3 = some m.cls := findClass_of_methodNamed B.named
  have hlocks := B.notSynchronized
  have hD := hD0
  have hl := lv_entry ([.ref (b 0)]) (n := 1) (Nat.le_of_ble_eq_true rfl)
  rw [lg_entry_eq]
  generalize (lg_sl ([.ref (b 0)]) ++ List.replicate (1 - (lg_sl ([.ref (b 0)])).length) Slot.unset).toArray = ls at hl ⊢
  have hl : lv_has ls 1 [(0, .ref (b 0))] := hl
  refine lv_aload_n hx hb dX3_thrown_0 rfl (lv_at hl 0 rfl) ?_
  refine va_get (D := D) (ci := 4) (v := .int (cm_th M)) (C := RX3) (T := TX3) (N := 20) hx hb hts iX3_thrown_X3 hown hK hP 0 rfl rfl 0 (by decide) (hts (.fieldLink RX3 73 "CellRows2Model" "thrown" "I") (by decide +kernel)) (fun _ h9 => h9) rfl dX3_thrown_1 ?_
  exact W.iret (v := (cm_th M)) hx hb hr (fun t ht hW => ⟨(cm_th M), rfl, (by first | rfl | (simp only [] <;> rfl)), ht⟩) (fun q hq => absurd hq List.not_mem_nil) dX3_thrown_4
set_option maxRecDepth 20000 in
theorem iX3_noCell_X3 : ∀ w ∈ wsX30, w ∈ wsX3_noCell := by decide +kernel
set_option maxHeartbeats 1000000 in
set_option maxRecDepth 100000 in
theorem kX3_noCell (l : Launch) (D : va_G) (cm : Nat → ClassId) (b : Nat → Nat) (n : Nat) (M : MS) (sz : Nat) (p0 : Int32) (hn : n ≤ 24) : Met l yX3_noCell wsX3_noCell ({ frames := 0, cells := 0, slots := 0, locals := 0 }) (va_Pc [.ref (b 0), .int p0] (pM D cm b n M sz)) (vp_Si (fun r => r = mNo n p0)) 0 0 (fun _ => False) := by
  refine Met.ofW (cc := cX3_noCell) (maxL := 2) (ret := (some .boolean)) (by decide) rfl ?_
  intro p e s m args below meth c s₁ B hml hv
  obtain ⟨rfl, hsz, hP, hK, hD0⟩ := hv
  have hx := B.exec
  have hb := B.bytes
  have hr := B.returns
  have hts := atoms_spec (ws := wsX3_noCell) B.pre
  have hown : s.vm.findClass RX3 = some m.cls := findClass_of_methodNamed B.named
  have hlocks := B.notSynchronized
  have hD := hD0
  have hl := lv_entry ([.ref (b 0), .int p0]) (n := 2) (Nat.le_of_ble_eq_true rfl)
  rw [lg_entry_eq]
  generalize (lg_sl ([.ref (b 0), .int p0]) ++ List.replicate (2 - (lg_sl ([.ref (b 0), .int p0])).length) Slot.unset).toArray = ls at hl ⊢
  have hl : lv_has ls 2 [(0, .ref (b 0)), (1, .int p0)] := hl
  refine lv_iload_n hx hb dX3_noCell_0 rfl (lv_at hl 1 rfl) ?_
  refine iz_lt (tgt := 12) hx hb dX3_noCell_1 (by decide) (fun h_1 => ?_) (fun h_1 => ?_)
  · refine lv_iconst (v := 1) hx hb dX3_noCell_12 (by decide) ?_
    refine lv_goto (tgt := 17) hx hb dX3_noCell_13 (by decide) ?_
    exact W.zret (v := 1) hx hb hr rfl (fun t ht hW => ⟨1, rfl, (by simp only [mNo, Option.elim_none, if_pos h_1, ix_neg h_1]), ht⟩) (fun q hq => absurd hq List.not_mem_nil) dX3_noCell_17
  · refine lv_iload_n hx hb dX3_noCell_4 rfl (lv_at hl 1 rfl) ?_
    refine lv_aload_n hx hb dX3_noCell_5 rfl (lv_at hl 0 rfl) ?_
    refine va_get (D := D) (ci := 4) (v := .int (nI n)) (C := RX3) (T := TX3) (N := 20) hx hb hts iX3_noCell_X3 hown hK hP 0 rfl rfl 1 (by decide) (hts (.fieldLink RX3 61 "CellRows2Model" "cells" "I") (by decide +kernel)) (fun _ h9 => h9) rfl dX3_noCell_6 ?_
    refine ib_lt (tgt := 16) hx hb dX3_noCell_9 (by decide) (fun h_2 => ?_) (fun h_2 => ?_)
    · obtain ⟨j, hj, rfl⟩ := ix_of (n := n) (by omega) h_1 h_2
      have e_ix := ix_at (n := n) (by omega) hj
      refine lv_iconst (v := 0) hx hb dX3_noCell_16 (by decide) ?_
      exact W.zret (v := 0) hx hb hr rfl (fun t ht hW => ⟨0, rfl, (by simp only [mNo, Option.elim_none, if_neg h_1, if_pos h_2, e_ix, Option.elim_some]), ht⟩) (fun q hq => absurd hq List.not_mem_nil) dX3_noCell_17
    · refine lv_iconst (v := 1) hx hb dX3_noCell_12 (by decide) ?_
      refine lv_goto (tgt := 17) hx hb dX3_noCell_13 (by decide) ?_
      exact W.zret (v := 1) hx hb hr rfl (fun t ht hW => ⟨1, rfl, (by simp only [mNo, Option.elim_none, if_neg h_1, if_neg h_2, ix_big h_2]), ht⟩) (fun q hq => absurd hq List.not_mem_nil) dX3_noCell_17
set_option maxRecDepth 20000 in
theorem iX3_fails_X3 : ∀ w ∈ wsX30, w ∈ wsX3_fails := by decide +kernel
set_option maxHeartbeats 1000000 in
set_option maxRecDepth 100000 in
theorem kX3_fails (l : Launch) (D : va_G) (cm : Nat → ClassId) (b : Nat → Nat) (n : Nat) (M : MS) (sz : Nat) (k : Int32) (hf : cm_fc M < 2048) : Met l yX3_fails wsX3_fails ({ frames := 0, cells := 0, slots := 0, locals := 0 }) (va_Pc [.ref (b 0), .int k] (pM D cm b n M sz)) (va_Qv (fun u : MS => u = mNote M k) (eM D cm b n (va_A (wM cm b n M) sz)) (va_A (wM cm b n M) sz)) 0 0 (va_A (wM cm b n M) sz) := by
  refine Met.ofW (cc := cX3_fails) (maxL := 2) (ret := none) (by decide) rfl ?_
  intro p e s m args below meth c s₁ B hml hv
  obtain ⟨rfl, hsz, hP, hK, hD0⟩ := hv
  have hx := B.exec
  have hb := B.bytes
  have hr := B.returns
  have hts := atoms_spec (ws := wsX3_fails) B.pre
  have hown : s.vm.findClass RX3 = some m.cls := findClass_of_methodNamed B.named
  have hlocks := B.notSynchronized
  subst hsz
  have hD := hD0.self (sz := s.heap.size)
  generalize hAe : va_A (wM cm b n M) s.heap.size = A at hD ⊢
  have hA : ∀ q : Nat, s.heap.size ≤ q → A q := fun q h => by rw [← hAe]; exact Or.inr h
  have hS : va_S A s.heap s.heap [] := va_S.rf
  have hl := lv_entry ([.ref (b 0), .int k]) (n := 2) (Nat.le_of_ble_eq_true rfl)
  rw [lg_entry_eq]
  generalize (lg_sl ([.ref (b 0), .int k]) ++ List.replicate (2 - (lg_sl ([.ref (b 0), .int k])).length) Slot.unset).toArray = ls at hl ⊢
  have hl : lv_has ls 2 [(0, .ref (b 0)), (1, .int k)] := hl
  refine lv_aload_n hx hb dX3_fails_0 rfl (lv_at hl 0 rfl) ?_
  refine va_get (D := D) (ci := 4) (v := .ref (b 9)) (C := RX3) (T := TX3) (N := 20) hx hb hts iX3_fails_X3 hown hK hP 0 rfl rfl 13 (by decide) (hts (.fieldLink RX3 49 "CellRows2Model" "faults" "[I") (by decide +kernel)) (fun _ h9 => h9) rfl dX3_fails_1 ?_
  refine lv_aload_n hx hb dX3_fails_4 rfl (lv_at hl 0 rfl) ?_
  refine va_get (D := D) (ci := 4) (v := .int (nI (cm_fc M))) (C := RX3) (T := TX3) (N := 20) hx hb hts iX3_fails_X3 hown hK hP 0 rfl rfl 14 (by decide) (hts (.fieldLink RX3 76 "CellRows2Model" "faultCount" "I") (by decide +kernel)) (fun _ h9 => h9) rfl dX3_fails_5 ?_
  refine lv_iload_n hx hb dX3_fails_8 rfl (lv_at hl 1 rfl) ?_
  refine rs_i (f := (cm_flt M)) hx hb hK hP hD hS 9 8 rfl rfl (cm_fc M) rfl (by omega) (Nat.le_of_ble_eq_true rfl) dX3_fails_9 (fun H1 locs1 hP hD hS => ?_)
  have hP : va_P D vwCl (wM cm b n (cm_set_flt M (va_up (cm_flt M) (cm_fc M) k))) H1 := hP
  have hD : va_D A (wM cm b n (cm_set_flt M (va_up (cm_flt M) (cm_fc M) k))) := hD
  refine lv_aload_n hx hb dX3_fails_10 rfl (lv_at hl 0 rfl) ?_
  refine lv_dup hx hb dX3_fails_11 rfl ?_
  refine va_get (D := D) (ci := 4) (v := .int (nI (cm_fc M))) (C := RX3) (T := TX3) (N := 20) hx hb hts iX3_fails_X3 hown hK hP 0 rfl rfl 14 (by decide) (hts (.fieldLink RX3 76 "CellRows2Model" "faultCount" "I") (by decide +kernel)) (fun _ h9 => h9) rfl dX3_fails_12 ?_
  refine lv_iconst (v := 1) hx hb dX3_fails_15 (by decide) ?_
  refine lv_iadd hx hb dX3_fails_16 ?_
  refine W.eqi (nI_1 (cm_fc M)) ?_
  refine va_put (D := D) (ci := 4) (v := .int (nI ((cm_fc M) + 1))) (ty := .int) (C := RX3) (T := TX3) (N := 20) hx hb hts iX3_fails_X3 tyX3 tyX3_ok nmX3 hown hK hP hD hS 0 rfl rfl 14 (by decide) (hts (.fieldLink RX3 76 "CellRows2Model" "faultCount" "I") (by decide +kernel)) (fun _ h9 => h9) rfl (by decide +kernel) rfl rfl (Nat.le_of_ble_eq_true rfl) dX3_fails_17 (fun H2 locs2 hP hD hS => ?_)
  have hP : va_P D vwCl (wM cm b n (cm_set_fc (cm_set_flt M (va_up (cm_flt M) (cm_fc M) k)) ((cm_fc M) + 1))) H2 := hP
  have hD : va_D A (wM cm b n (cm_set_fc (cm_set_flt M (va_up (cm_flt M) (cm_fc M) k)) ((cm_fc M) + 1))) := hD
  refine lv_aload_n hx hb dX3_fails_20 rfl (lv_at hl 0 rfl) ?_
  refine lv_iconst (v := 0) hx hb dX3_fails_21 (by decide) ?_
  refine va_put (D := D) (ci := 4) (v := .int 0) (ty := .int) (C := RX3) (T := TX3) (N := 20) hx hb hts iX3_fails_X3 tyX3 tyX3_ok nmX3 hown hK hP hD hS 0 rfl rfl 9 (by decide) (hts (.fieldLink RX3 79 "CellRows2Model" "stage" "I") (by decide +kernel)) (fun _ h9 => h9) rfl (by decide +kernel) rfl rfl (Nat.le_of_ble_eq_true rfl) dX3_fails_22 (fun H3 locs3 hP hD hS => ?_)
  have hP : va_P D vwCl (wM cm b n (cm_set_st (cm_set_fc (cm_set_flt M (va_up (cm_flt M) (cm_fc M) k)) ((cm_fc M) + 1)) 0)) H3 := hP
  have hD : va_D A (wM cm b n (cm_set_st (cm_set_fc (cm_set_flt M (va_up (cm_flt M) (cm_fc M) k)) ((cm_fc M) + 1)) 0)) := hD
  exact W.vret hx hb hr (fun t ht hW => ⟨⟨(cm_set_st (cm_set_fc (cm_set_flt M (va_up (cm_flt M) (cm_fc M) k)) ((cm_fc M) + 1)) 0), rfl, (by first | rfl | (simp only [mNote] <;> rfl)), by rw [ht]; exact hP, va_K.moved hW.alike hK, hD⟩, hS.F ht⟩) hS.2.2 dX3_fails_25
set_option maxHeartbeats 1000000 in
set_option maxRecDepth 100000 in
theorem kX3_within (l : Launch) (x : UInt64) : Met l yX3_within wsX3_within ({ frames := 0, cells := 0, slots := 0, locals := 0 }) (va_Pc [.double x] (fun _ => True)) (vp_Sd (fun r => r = sWin x)) 0 0 (fun _ => False) := by
  refine Met.ofW (cc := cX3_within) (maxL := 2) (ret := (some .double)) (by decide) rfl ?_
  intro p e s m args below meth c s₁ B hml hv
  obtain ⟨rfl, -⟩ := hv
  have hx := B.exec
  have hb := B.bytes
  have hr := B.returns
  have hts := atoms_spec (ws := wsX3_within) B.pre
  have hown : s.vm.findClass RX3 = some m.cls := findClass_of_methodNamed B.named
  have hlocks := B.notSynchronized
  have hl := lv_entry ([.double x]) (n := 2) (Nat.le_of_ble_eq_true rfl)
  rw [lg_entry_eq]
  generalize (lg_sl ([.double x]) ++ List.replicate (2 - (lg_sl ([.double x])).length) Slot.unset).toArray = ls at hl ⊢
  have hl : lv_has ls 2 [(0, .double x)] := hl
  refine lv_dload_n hx hb dX3_within_0 rfl (lv_at hl 0 rfl) ?_
  refine lv_dconst0 hx hb dX3_within_1 ?_
  refine lv_dcmp hx hb dX3_within_2 ?_
  refine iz_ge (tgt := 10) hx hb dX3_within_3 (by decide) (fun h_1 => ?_) (fun h_1 => ?_)
  · refine lv_dload_n hx hb dX3_within_10 rfl (lv_at hl 0 rfl) ?_
    refine lv_dconst1 hx hb dX3_within_11 ?_
    refine lv_dcmp hx hb dX3_within_12 ?_
    refine iz_le (tgt := 20) hx hb dX3_within_13 (by decide) (fun h_2 => ?_) (fun h_2 => ?_)
    · refine lv_dload_n hx hb dX3_within_20 rfl (lv_at hl 0 rfl) ?_
      exact W.dret (v := x) hx hb hr (fun t ht hW => ⟨x, rfl, (by simp only [sWin, if_neg h_1, if_neg h_2]), ht⟩) (fun q hq => absurd hq List.not_mem_nil) dX3_within_21
    · refine lv_dconst1 hx hb dX3_within_16 ?_
      refine lv_goto (tgt := 21) hx hb dX3_within_17 (by decide) ?_
      exact W.dret (v := FP.dconst1) hx hb hr (fun t ht hW => ⟨FP.dconst1, rfl, (by simp only [sWin, if_neg h_1, if_pos h_2]), ht⟩) (fun q hq => absurd hq List.not_mem_nil) dX3_within_21
  · refine lv_dconst0 hx hb dX3_within_6 ?_
    refine lv_goto (tgt := 21) hx hb dX3_within_7 (by decide) ?_
    exact W.dret (v := FP.dconst0) hx hb hr (fun t ht hW => ⟨FP.dconst0, rfl, (by simp only [sWin, if_pos h_1]), ht⟩) (fun q hq => absurd hq List.not_mem_nil) dX3_within_21
set_option maxHeartbeats 1000000 in
set_option maxRecDepth 100000 in
theorem kX3_size (l : Launch) (x : Int64) : Met l yX3_size wsX3_size ({ frames := 0, cells := 0, slots := 0, locals := 0 }) (va_Pc [.long x] (fun _ => True)) (vp_Sl (fun r => r = mSz x)) 0 0 (fun _ => False) := by
  refine Met.ofW (cc := cX3_size) (maxL := 2) (ret := (some .long)) (by decide) rfl ?_
  intro p e s m args below meth c s₁ B hml hv
  obtain ⟨rfl, -⟩ := hv
  have hx := B.exec
  have hb := B.bytes
  have hr := B.returns
  have hts := atoms_spec (ws := wsX3_size) B.pre
  have hown : s.vm.findClass RX3 = some m.cls := findClass_of_methodNamed B.named
  have hlocks := B.notSynchronized
  have hl := lv_entry ([.long x]) (n := 2) (Nat.le_of_ble_eq_true rfl)
  rw [lg_entry_eq]
  generalize (lg_sl ([.long x]) ++ List.replicate (2 - (lg_sl ([.long x])).length) Slot.unset).toArray = ls at hl ⊢
  have hl : lv_has ls 2 [(0, .long x)] := hl
  refine lv_lload_n hx hb dX3_size_0 rfl (lv_at hl 0 rfl) ?_
  refine lv_lconst (v := 0) hx hb dX3_size_1 (by decide) ?_
  refine il_ge (tgt := 11) hx hb dX3_size_2 dX3_size_3 (by decide) (fun h_1 => ?_) (fun h_1 => ?_)
  · refine lv_lload_n hx hb dX3_size_11 rfl (lv_at hl 0 rfl) ?_
    exact W.lret (v := x) hx hb hr (fun t ht hW => ⟨x, rfl, (by simp only [mSz, if_neg h_1]), ht⟩) (fun q hq => absurd hq List.not_mem_nil) dX3_size_12
  · refine lv_lload_n hx hb dX3_size_6 rfl (lv_at hl 0 rfl) ?_
    refine lv_lneg hx hb dX3_size_7 ?_
    refine lv_goto (tgt := 12) hx hb dX3_size_8 (by decide) ?_
    exact W.lret (v := -x) hx hb hr (fun t ht hW => ⟨-x, rfl, (by simp only [mSz, if_pos h_1]), ht⟩) (fun q hq => absurd hq List.not_mem_nil) dX3_size_12
set_option maxRecDepth 20000 in
theorem iX3_goesOn_X3 : ∀ w ∈ wsX30, w ∈ wsX3_goesOn := by decide +kernel
set_option maxHeartbeats 1000000 in
set_option maxRecDepth 100000 in
theorem kX3_goesOn (l : Launch) (D : va_G) (cm : Nat → ClassId) (b : Nat → Nat) (n : Nat) (M : MS) (sz : Nat) (v : Int64) (hp : cm_many M ≤ 500) : Met l yX3_goesOn wsX3_goesOn ({ frames := 0, cells := 0, slots := 0, locals := 0 }) (va_Pc [.ref (b 0), .long v] (pM D cm b n M sz)) (vp_Si (fun r => r = mGo (cm_pts M) (cm_many M) v)) 0 0 (fun _ => False) := by
  refine Met.ofW (cc := cX3_goesOn) (maxL := 5) (ret := (some .boolean)) (by decide) rfl ?_
  intro p e s m args below meth c s₁ B hml hv
  obtain ⟨rfl, hsz, hP, hK, hD0⟩ := hv
  have hx := B.exec
  have hb := B.bytes
  have hr := B.returns
  have hts := atoms_spec (ws := wsX3_goesOn) B.pre
  have hown : s.vm.findClass RX3 = some m.cls := findClass_of_methodNamed B.named
  have hlocks := B.notSynchronized
  have hD := hD0
  have hl := lv_entry ([.ref (b 0), .long v]) (n := 5) (Nat.le_of_ble_eq_true rfl)
  rw [lg_entry_eq]
  generalize (lg_sl ([.ref (b 0), .long v]) ++ List.replicate (5 - (lg_sl ([.ref (b 0), .long v])).length) Slot.unset).toArray = ls at hl ⊢
  have hl : lv_has ls 5 [(0, .ref (b 0)), (1, .long v)] := hl
  refine lv_aload_n hx hb dX3_goesOn_0 rfl (lv_at hl 0 rfl) ?_
  refine va_get (D := D) (ci := 4) (v := .int (nI (cm_many M))) (C := RX3) (T := TX3) (N := 20) hx hb hts iX3_goesOn_X3 hown hK hP 0 rfl rfl 16 (by decide) (hts (.fieldLink RX3 82 "CellRows2Model" "many" "I") (by decide +kernel)) (fun _ h9 => h9) rfl dX3_goesOn_1 ?_
  refine iz_ne (tgt := 9) hx hb dX3_goesOn_4 (by decide) (fun h_1 => ?_) (fun h_1 => ?_)
  · have g0 : cm_many M ≠ 0 := nI_neN (b := 0) h_1
    refine lv_aload_n hx hb dX3_goesOn_9 rfl (lv_at hl 0 rfl) ?_
    refine va_get (D := D) (ci := 4) (v := .ref (b 10)) (C := RX3) (T := TX3) (N := 20) hx hb hts iX3_goesOn_X3 hown hK hP 0 rfl rfl 15 (by decide) (hts (.fieldLink RX3 52 "CellRows2Model" "points" "[J") (by decide +kernel)) (fun _ h9 => h9) rfl dX3_goesOn_10 ?_
    refine lv_aload_n hx hb dX3_goesOn_13 rfl (lv_at hl 0 rfl) ?_
    refine va_get (D := D) (ci := 4) (v := .int (nI (cm_many M))) (C := RX3) (T := TX3) (N := 20) hx hb hts iX3_goesOn_X3 hown hK hP 0 rfl rfl 16 (by decide) (hts (.fieldLink RX3 82 "CellRows2Model" "many" "I") (by decide +kernel)) (fun _ h9 => h9) rfl dX3_goesOn_14 ?_
    refine lv_iconst (v := 1) hx hb dX3_goesOn_17 (by decide) ?_
    refine lv_isub hx hb dX3_goesOn_18 ?_
    refine W.eqi (pk_sub (a := (cm_many M)) (b := 1) (by omega)) ?_
    refine ra_l (f := (cm_pts M)) hx hb hK hP 10 9 rfl rfl ((cm_many M) - 1) rfl (by omega) (Nat.le_of_ble_eq_true rfl) dX3_goesOn_19 ?_
    refine lv_lstore_n (lv' := [(3, .long ((cm_pts M) ((cm_many M) - 1))), (0, .ref (b 0)), (1, .long v)]) hx hb dX3_goesOn_20 rfl hl (by decide) rfl (fun ls hl => ?_)
    refine lv_lload_n hx hb dX3_goesOn_21 rfl (lv_at hl 2 rfl) ?_
    refine lv_lload_n hx hb dX3_goesOn_22 rfl (lv_at hl 0 rfl) ?_
    refine il_ne (tgt := 29) hx hb dX3_goesOn_23 dX3_goesOn_24 (by decide) (fun h_2 => ?_) (fun h_2 => ?_)
    · refine lv_aload_n hx hb dX3_goesOn_29 rfl (lv_at hl 1 rfl) ?_
      refine va_get (D := D) (ci := 4) (v := .int (nI (cm_many M))) (C := RX3) (T := TX3) (N := 20) hx hb hts iX3_goesOn_X3 hown hK hP 0 rfl rfl 16 (by decide) (hts (.fieldLink RX3 82 "CellRows2Model" "many" "I") (by decide +kernel)) (fun _ h9 => h9) rfl dX3_goesOn_30 ?_
      refine lv_iconst (v := 1) hx hb dX3_goesOn_33 (by decide) ?_
      refine ib_ne (tgt := 39) hx hb dX3_goesOn_34 (by decide) (fun h_3 => ?_) (fun h_3 => ?_)
      · have g1 : cm_many M ≠ 1 := nI_neN (b := 1) h_3
        refine W.join (P := fun v9 : Int32 => v9 = if ((cm_pts M) ((cm_many M) - 2)) < (cm_pts M) ((cm_many M) - 1) then 1 else 0) (g := fun v9 => F0 m 60 ls [.int v9]) (fun v4 hv4 => ?_) (fun J4 => ?_)
        · subst hv4
          refine W.join (P := fun v9 : Int32 => v9 = if ((cm_pts M) ((cm_many M) - 1)) < v then 1 else 0) (g := fun v9 => F0 m 71 ls [.int v9, .int (if ((cm_pts M) ((cm_many M) - 2)) < (cm_pts M) ((cm_many M) - 1) then 1 else 0)]) (fun v6 hv6 => ?_) (fun J6 => ?_)
          · subst hv6
            refine ib_ne (tgt := 78) hx hb dX3_goesOn_71 (by decide) (fun h_8 => ?_) (fun h_8 => ?_)
            · refine lv_iconst (v := 0) hx hb dX3_goesOn_78 (by decide) ?_
              exact W.zret (v := 0) hx hb hr rfl (fun t ht hW => ⟨0, rfl, (by simp only [mGo, if_neg h_1, if_neg h_2, if_neg h_3, if_neg h_8]), ht⟩) (fun q hq => absurd hq List.not_mem_nil) dX3_goesOn_79
            · refine lv_iconst (v := 1) hx hb dX3_goesOn_74 (by decide) ?_
              refine lv_goto (tgt := 79) hx hb dX3_goesOn_75 (by decide) ?_
              exact W.zret (v := 1) hx hb hr rfl (fun t ht hW => ⟨1, rfl, (by simp only [mGo, if_neg h_1, if_neg h_2, if_neg h_3, if_pos h_8]), ht⟩) (fun q hq => absurd hq List.not_mem_nil) dX3_goesOn_79
          · refine lv_lload_n hx hb dX3_goesOn_60 rfl (lv_at hl 2 rfl) ?_
            refine lv_lload_n hx hb dX3_goesOn_61 rfl (lv_at hl 0 rfl) ?_
            refine il_le (tgt := 70) hx hb dX3_goesOn_62 dX3_goesOn_63 (by decide) (fun h_7 => ?_) (fun h_7 => ?_)
            · refine lv_iconst (v := 0) hx hb dX3_goesOn_70 (by decide) ?_
              exact J6 _ (by simp only [if_neg h_7])
            · refine lv_iconst (v := 1) hx hb dX3_goesOn_66 (by decide) ?_
              refine lv_goto (tgt := 71) hx hb dX3_goesOn_67 (by decide) ?_
              exact J6 _ (by simp only [if_pos h_7])
        · refine lv_lload_n hx hb dX3_goesOn_39 rfl (lv_at hl 0 rfl) ?_
          refine lv_aload_n hx hb dX3_goesOn_40 rfl (lv_at hl 1 rfl) ?_
          refine va_get (D := D) (ci := 4) (v := .ref (b 10)) (C := RX3) (T := TX3) (N := 20) hx hb hts iX3_goesOn_X3 hown hK hP 0 rfl rfl 15 (by decide) (hts (.fieldLink RX3 52 "CellRows2Model" "points" "[J") (by decide +kernel)) (fun _ h9 => h9) rfl dX3_goesOn_41 ?_
          refine lv_aload_n hx hb dX3_goesOn_44 rfl (lv_at hl 1 rfl) ?_
          refine va_get (D := D) (ci := 4) (v := .int (nI (cm_many M))) (C := RX3) (T := TX3) (N := 20) hx hb hts iX3_goesOn_X3 hown hK hP 0 rfl rfl 16 (by decide) (hts (.fieldLink RX3 82 "CellRows2Model" "many" "I") (by decide +kernel)) (fun _ h9 => h9) rfl dX3_goesOn_45 ?_
          refine lv_iconst (v := 2) hx hb dX3_goesOn_48 (by decide) ?_
          refine lv_isub hx hb dX3_goesOn_49 ?_
          refine W.eqi (pk_sub (a := (cm_many M)) (b := 2) (by omega)) ?_
          refine ra_l (f := (cm_pts M)) hx hb hK hP 10 9 rfl rfl ((cm_many M) - 2) rfl (by omega) (Nat.le_of_ble_eq_true rfl) dX3_goesOn_50 ?_
          refine il_le (tgt := 59) hx hb dX3_goesOn_51 dX3_goesOn_52 (by decide) (fun h_5 => ?_) (fun h_5 => ?_)
          · refine lv_iconst (v := 0) hx hb dX3_goesOn_59 (by decide) ?_
            exact J4 _ (by simp only [if_neg h_5])
          · refine lv_iconst (v := 1) hx hb dX3_goesOn_55 (by decide) ?_
            refine lv_goto (tgt := 60) hx hb dX3_goesOn_56 (by decide) ?_
            exact J4 _ (by simp only [if_pos h_5])
      · refine lv_iconst (v := 0) hx hb dX3_goesOn_37 (by decide) ?_
        exact W.zret (v := 0) hx hb hr rfl (fun t ht hW => ⟨0, rfl, (by simp only [mGo, if_neg h_1, if_neg h_2, if_pos h_3]), ht⟩) (fun q hq => absurd hq List.not_mem_nil) dX3_goesOn_38
    · refine lv_iconst (v := 1) hx hb dX3_goesOn_27 (by decide) ?_
      exact W.zret (v := 1) hx hb hr rfl (fun t ht hW => ⟨1, rfl, (by simp only [mGo, if_neg h_1, if_pos h_2]), ht⟩) (fun q hq => absurd hq List.not_mem_nil) dX3_goesOn_28
  · refine lv_iconst (v := 0) hx hb dX3_goesOn_7 (by decide) ?_
    exact W.zret (v := 0) hx hb hr rfl (fun t ht hW => ⟨0, rfl, (by simp only [mGo, if_pos h_1]), ht⟩) (fun q hq => absurd hq List.not_mem_nil) dX3_goesOn_8
set_option maxRecDepth 20000 in
theorem iX3_charge_X3 : ∀ w ∈ wsX30, w ∈ wsX3_charge := by decide +kernel
set_option maxHeartbeats 1000000 in
set_option maxRecDepth 100000 in
theorem kX3_charge (l : Launch) (D : va_G) (cm : Nat → ClassId) (b : Nat → Nat) (n : Nat) (M : MS) (sz : Nat) (p0 : Int32) (hn : n ≤ 24) : Met l yX3_charge wsX3_charge ({ frames := 1, cells := 0, slots := 0, locals := 21 }) (va_Pc [.ref (b 0), .int p0] (pM D cm b n M sz)) (va_Ql (fun r (u : MS) => r = (ix n p0).elim 0 (cm_ch M) ∧ u = cm_set_th M 0) (eM D cm b n (va_A (wM cm b n M) sz)) (va_A (wM cm b n M) sz)) 0 0 (va_A (wM cm b n M) sz) := by
  refine Met.ofW (cc := cX3_charge) (maxL := 2) (ret := (some .long)) (by decide) rfl ?_
  intro p e s m args below meth c s₁ B hml hv
  obtain ⟨rfl, hsz, hP, hK, hD0⟩ := hv
  have hx := B.exec
  have hb := B.bytes
  have hr := B.returns
  have hts := atoms_spec (ws := wsX3_charge) B.pre
  have hown : s.vm.findClass RX3 = some m.cls := findClass_of_methodNamed B.named
  have hlocks := B.notSynchronized
  subst hsz
  have hD := hD0.self (sz := s.heap.size)
  generalize hAe : va_A (wM cm b n M) s.heap.size = A at hD ⊢
  have hA : ∀ q : Nat, s.heap.size ≤ q → A q := fun q h => by rw [← hAe]; exact Or.inr h
  have hS : va_S A s.heap s.heap [] := va_S.rf
  have hl := lv_entry ([.ref (b 0), .int p0]) (n := 2) (Nat.le_of_ble_eq_true rfl)
  rw [lg_entry_eq]
  generalize (lg_sl ([.ref (b 0), .int p0]) ++ List.replicate (2 - (lg_sl ([.ref (b 0), .int p0])).length) Slot.unset).toArray = ls at hl ⊢
  have hl : lv_has ls 2 [(0, .ref (b 0)), (1, .int p0)] := hl
  refine lv_aload_n hx hb dX3_charge_0 rfl (lv_at hl 0 rfl) ?_
  refine lv_iconst (v := 0) hx hb dX3_charge_1 (by decide) ?_
  refine va_put (D := D) (ci := 4) (v := .int 0) (ty := .int) (C := RX3) (T := TX3) (N := 20) hx hb hts iX3_charge_X3 tyX3 tyX3_ok nmX3 hown hK hP hD hS 0 rfl rfl 0 (by decide) (hts (.fieldLink RX3 73 "CellRows2Model" "thrown" "I") (by decide +kernel)) (fun _ h9 => h9) rfl (by decide +kernel) rfl rfl (Nat.le_of_ble_eq_true rfl) dX3_charge_2 (fun H1 locs1 hP hD hS => ?_)
  have hP : va_P D vwCl (wM cm b n (cm_set_th M 0)) H1 := hP
  have hD : va_D A (wM cm b n (cm_set_th M 0)) := hD
  refine lv_aload_n hx hb dX3_charge_5 rfl (lv_at hl 0 rfl) ?_
  refine lv_iload_n hx hb dX3_charge_6 rfl (lv_at hl 1 rfl) ?_
  refine vp_callSi (W.runV (As := [.int p0]) (rest := []) ⟨hx, hb, hml, hown, hts⟩ (kX3_noCell l D cm b n (cm_set_th M 0) H1.size p0 hn) (cwV 1 hts gX3_charge_X3_noCell rfl rfl rfl (by decide +kernel) ⟨Nat.le_of_ble_eq_true rfl, Nat.le_of_ble_eq_true rfl⟩) ⟨pM_blind, va_recv hK hP (ci := 4) (q0 := 0) rfl rfl, fun U hU hW => ⟨rfl, pM_mk hP hK hD hU hW⟩⟩ rfl rfl hl.1 rfl (lv_room (Nat.le_of_ble_eq_true rfl)) dX3_charge_7 ⟨Nat.le_of_ble_eq_true rfl, Nat.le_of_ble_eq_true rfl⟩) (fun r2 hr2 => ?_)
  obtain rfl : r2 = mNo n p0 := hr2
  refine iz_eq (tgt := 17) hx hb dX3_charge_10 (by decide) (fun h_3 => ?_) (fun h_3 => ?_)
  · obtain ⟨j, e_ix⟩ := mNo_0 h_3
    obtain ⟨hj, rfl⟩ := ix_some e_ix
    refine lv_aload_n hx hb dX3_charge_17 rfl (lv_at hl 0 rfl) ?_
    refine va_get (D := D) (ci := 4) (v := .ref (b 1)) (C := RX3) (T := TX3) (N := 20) hx hb hts iX3_charge_X3 hown hK hP 0 rfl rfl 2 (by decide) (hts (.fieldLink RX3 7 "CellRows2Model" "charges" "[J") (by decide +kernel)) (fun _ h9 => h9) rfl dX3_charge_18 ?_
    refine lv_iload_n hx hb dX3_charge_21 rfl (lv_at hl 1 rfl) ?_
    refine ra_l (f := (cm_ch M)) hx hb hK hP 1 0 rfl rfl j rfl (by omega) (Nat.le_of_ble_eq_true rfl) dX3_charge_22 ?_
    exact W.lret (v := (cm_ch M) j) hx hb hr (fun t ht hW => ⟨⟨(cm_ch M) j, (cm_set_th M 0), rfl, ⟨(by first | rfl | (simp only [if_pos h_3, e_ix, Option.elim_some] <;> rfl)), (by first | rfl | (simp only [if_pos h_3, e_ix, Option.elim_some] <;> rfl))⟩, by rw [ht]; exact hP, va_K.moved hW.alike hK, hD⟩, hS.F ht⟩) hS.2.2 dX3_charge_23
  · have e_ixn := mNo_1 h_3
    refine lv_lconst (v := 0) hx hb dX3_charge_13 (by decide) ?_
    refine lv_goto (tgt := 23) hx hb dX3_charge_14 (by decide) ?_
    exact W.lret (v := 0) hx hb hr (fun t ht hW => ⟨⟨0, (cm_set_th M 0), rfl, ⟨(by first | rfl | (simp only [if_neg h_3, e_ixn, Option.elim_none] <;> rfl)), (by first | rfl | (simp only [if_neg h_3, e_ixn, Option.elim_none] <;> rfl))⟩, by rw [ht]; exact hP, va_K.moved hW.alike hK, hD⟩, hS.F ht⟩) hS.2.2 dX3_charge_23
set_option maxRecDepth 20000 in
theorem iX3_share_X3 : ∀ w ∈ wsX30, w ∈ wsX3_share := by decide +kernel
set_option maxHeartbeats 1000000 in
set_option maxRecDepth 100000 in
theorem kX3_share (l : Launch) (D : va_G) (cm : Nat → ClassId) (b : Nat → Nat) (n : Nat) (M : MS) (sz : Nat) (p0 : Int32) (hn : n ≤ 24) : Met l yX3_share wsX3_share ({ frames := 1, cells := 0, slots := 0, locals := 21 }) (va_Pc [.ref (b 0), .int p0] (pM D cm b n M sz)) (va_Qd (fun r (u : MS) => r = (ix n p0).elim FP.dconst0 (cm_es M) ∧ u = cm_set_th M 0) (eM D cm b n (va_A (wM cm b n M) sz)) (va_A (wM cm b n M) sz)) 0 0 (va_A (wM cm b n M) sz) := by
  refine Met.ofW (cc := cX3_share) (maxL := 2) (ret := (some .double)) (by decide) rfl ?_
  intro p e s m args below meth c s₁ B hml hv
  obtain ⟨rfl, hsz, hP, hK, hD0⟩ := hv
  have hx := B.exec
  have hb := B.bytes
  have hr := B.returns
  have hts := atoms_spec (ws := wsX3_share) B.pre
  have hown : s.vm.findClass RX3 = some m.cls := findClass_of_methodNamed B.named
  have hlocks := B.notSynchronized
  subst hsz
  have hD := hD0.self (sz := s.heap.size)
  generalize hAe : va_A (wM cm b n M) s.heap.size = A at hD ⊢
  have hA : ∀ q : Nat, s.heap.size ≤ q → A q := fun q h => by rw [← hAe]; exact Or.inr h
  have hS : va_S A s.heap s.heap [] := va_S.rf
  have hl := lv_entry ([.ref (b 0), .int p0]) (n := 2) (Nat.le_of_ble_eq_true rfl)
  rw [lg_entry_eq]
  generalize (lg_sl ([.ref (b 0), .int p0]) ++ List.replicate (2 - (lg_sl ([.ref (b 0), .int p0])).length) Slot.unset).toArray = ls at hl ⊢
  have hl : lv_has ls 2 [(0, .ref (b 0)), (1, .int p0)] := hl
  refine lv_aload_n hx hb dX3_share_0 rfl (lv_at hl 0 rfl) ?_
  refine lv_iconst (v := 0) hx hb dX3_share_1 (by decide) ?_
  refine va_put (D := D) (ci := 4) (v := .int 0) (ty := .int) (C := RX3) (T := TX3) (N := 20) hx hb hts iX3_share_X3 tyX3 tyX3_ok nmX3 hown hK hP hD hS 0 rfl rfl 0 (by decide) (hts (.fieldLink RX3 73 "CellRows2Model" "thrown" "I") (by decide +kernel)) (fun _ h9 => h9) rfl (by decide +kernel) rfl rfl (Nat.le_of_ble_eq_true rfl) dX3_share_2 (fun H1 locs1 hP hD hS => ?_)
  have hP : va_P D vwCl (wM cm b n (cm_set_th M 0)) H1 := hP
  have hD : va_D A (wM cm b n (cm_set_th M 0)) := hD
  refine lv_aload_n hx hb dX3_share_5 rfl (lv_at hl 0 rfl) ?_
  refine lv_iload_n hx hb dX3_share_6 rfl (lv_at hl 1 rfl) ?_
  refine vp_callSi (W.runV (As := [.int p0]) (rest := []) ⟨hx, hb, hml, hown, hts⟩ (kX3_noCell l D cm b n (cm_set_th M 0) H1.size p0 hn) (cwV 1 hts gX3_share_X3_noCell rfl rfl rfl (by decide +kernel) ⟨Nat.le_of_ble_eq_true rfl, Nat.le_of_ble_eq_true rfl⟩) ⟨pM_blind, va_recv hK hP (ci := 4) (q0 := 0) rfl rfl, fun U hU hW => ⟨rfl, pM_mk hP hK hD hU hW⟩⟩ rfl rfl hl.1 rfl (lv_room (Nat.le_of_ble_eq_true rfl)) dX3_share_7 ⟨Nat.le_of_ble_eq_true rfl, Nat.le_of_ble_eq_true rfl⟩) (fun r2 hr2 => ?_)
  obtain rfl : r2 = mNo n p0 := hr2
  refine iz_eq (tgt := 17) hx hb dX3_share_10 (by decide) (fun h_3 => ?_) (fun h_3 => ?_)
  · obtain ⟨j, e_ix⟩ := mNo_0 h_3
    obtain ⟨hj, rfl⟩ := ix_some e_ix
    refine lv_aload_n hx hb dX3_share_17 rfl (lv_at hl 0 rfl) ?_
    refine va_get (D := D) (ci := 4) (v := .ref (b 2)) (C := RX3) (T := TX3) (N := 20) hx hb hts iX3_share_X3 hown hK hP 0 rfl rfl 3 (by decide) (hts (.fieldLink RX3 13 "CellRows2Model" "shares" "[D") (by decide +kernel)) (fun _ h9 => h9) rfl dX3_share_18 ?_
    refine lv_iload_n hx hb dX3_share_21 rfl (lv_at hl 1 rfl) ?_
    refine ra_d (f := (cm_es M)) hx hb hK hP 2 1 rfl rfl j rfl (by omega) (Nat.le_of_ble_eq_true rfl) dX3_share_22 ?_
    exact W.dret (v := (cm_es M) j) hx hb hr (fun t ht hW => ⟨⟨(cm_es M) j, (cm_set_th M 0), rfl, ⟨(by first | rfl | (simp only [if_pos h_3, e_ix, Option.elim_some] <;> rfl)), (by first | rfl | (simp only [if_pos h_3, e_ix, Option.elim_some] <;> rfl))⟩, by rw [ht]; exact hP, va_K.moved hW.alike hK, hD⟩, hS.F ht⟩) hS.2.2 dX3_share_23
  · have e_ixn := mNo_1 h_3
    refine lv_dconst0 hx hb dX3_share_13 ?_
    refine lv_goto (tgt := 23) hx hb dX3_share_14 (by decide) ?_
    exact W.dret (v := FP.dconst0) hx hb hr (fun t ht hW => ⟨⟨FP.dconst0, (cm_set_th M 0), rfl, ⟨(by first | rfl | (simp only [if_neg h_3, e_ixn, Option.elim_none] <;> rfl)), (by first | rfl | (simp only [if_neg h_3, e_ixn, Option.elim_none] <;> rfl))⟩, by rw [ht]; exact hP, va_K.moved hW.alike hK, hD⟩, hS.F ht⟩) hS.2.2 dX3_share_23
set_option maxRecDepth 20000 in
theorem iX3_contactor_X3 : ∀ w ∈ wsX30, w ∈ wsX3_contactor := by decide +kernel
set_option maxHeartbeats 1000000 in
set_option maxRecDepth 100000 in
theorem kX3_contactor (l : Launch) (D : va_G) (cm : Nat → ClassId) (b : Nat → Nat) (n : Nat) (M : MS) (sz : Nat) (p0 : Int32) (hf : cm_fc M < 2048) (hs : cm_st M ≤ 3) : Met l yX3_contactor wsX3_contactor ({ frames := 1, cells := 0, slots := 0, locals := 21 }) (va_Pc [.ref (b 0), .int p0] (pM D cm b n M sz)) (va_Qi (fun r (u : MS) => r = rmCon M p0 ∧ u = cm_set_th (gmCon M p0) 0) (eM D cm b n (va_A (wM cm b n M) sz)) (va_A (wM cm b n M) sz)) 0 0 (va_A (wM cm b n M) sz) := by
  refine Met.ofW (cc := cX3_contactor) (maxL := 2) (ret := (some .int)) (by decide) rfl ?_
  intro p e s m args below meth c s₁ B hml hv
  obtain ⟨rfl, hsz, hP, hK, hD0⟩ := hv
  have hx := B.exec
  have hb := B.bytes
  have hr := B.returns
  have hts := atoms_spec (ws := wsX3_contactor) B.pre
  have hown : s.vm.findClass RX3 = some m.cls := findClass_of_methodNamed B.named
  have hlocks := B.notSynchronized
  subst hsz
  have hD := hD0.self (sz := s.heap.size)
  generalize hAe : va_A (wM cm b n M) s.heap.size = A at hD ⊢
  have hA : ∀ q : Nat, s.heap.size ≤ q → A q := fun q h => by rw [← hAe]; exact Or.inr h
  have hS : va_S A s.heap s.heap [] := va_S.rf
  have hl := lv_entry ([.ref (b 0), .int p0]) (n := 2) (Nat.le_of_ble_eq_true rfl)
  rw [lg_entry_eq]
  generalize (lg_sl ([.ref (b 0), .int p0]) ++ List.replicate (2 - (lg_sl ([.ref (b 0), .int p0])).length) Slot.unset).toArray = ls at hl ⊢
  have hl : lv_has ls 2 [(0, .ref (b 0)), (1, .int p0)] := hl
  refine lv_aload_n hx hb dX3_contactor_0 rfl (lv_at hl 0 rfl) ?_
  refine lv_iconst (v := 0) hx hb dX3_contactor_1 (by decide) ?_
  refine va_put (D := D) (ci := 4) (v := .int 0) (ty := .int) (C := RX3) (T := TX3) (N := 20) hx hb hts iX3_contactor_X3 tyX3 tyX3_ok nmX3 hown hK hP hD hS 0 rfl rfl 0 (by decide) (hts (.fieldLink RX3 73 "CellRows2Model" "thrown" "I") (by decide +kernel)) (fun _ h9 => h9) rfl (by decide +kernel) rfl rfl (Nat.le_of_ble_eq_true rfl) dX3_contactor_2 (fun H1 locs1 hP hD hS => ?_)
  have hP : va_P D vwCl (wM cm b n (cm_set_th M 0)) H1 := hP
  have hD : va_D A (wM cm b n (cm_set_th M 0)) := hD
  refine lv_iload_n hx hb dX3_contactor_5 rfl (lv_at hl 1 rfl) ?_
  refine iz_ne (tgt := 16) hx hb dX3_contactor_6 (by decide) (fun h_2 => ?_) (fun h_2 => ?_)
  · refine lv_aload_n hx hb dX3_contactor_16 rfl (lv_at hl 0 rfl) ?_
    refine va_get (D := D) (ci := 4) (v := .int (nI (cm_st M))) (C := RX3) (T := TX3) (N := 20) hx hb hts iX3_contactor_X3 hown hK hP 0 rfl rfl 9 (by decide) (hts (.fieldLink RX3 79 "CellRows2Model" "stage" "I") (by decide +kernel)) (fun _ h9 => h9) rfl dX3_contactor_17 ?_
    refine lv_iconst (v := 3) hx hb dX3_contactor_20 (by decide) ?_
    refine ib_eq (tgt := 45) hx hb dX3_contactor_21 (by decide) (fun h_3 => ?_) (fun h_3 => ?_)
    · refine lv_bipush (v := (-3)) hx hb dX3_contactor_45 (by decide) ?_
      exact W.iret (v := (-3)) hx hb hr (fun t ht hW => ⟨⟨(-3), (cm_set_th M 0), rfl, ⟨(by first | rfl | (simp only [rmCon, gmCon, rmCon2, gmCon2, if_neg h_2, if_pos h_3] <;> rfl)), (by first | rfl | (simp only [rmCon, gmCon, rmCon2, gmCon2, if_neg h_2, if_pos h_3] <;> rfl))⟩, by rw [ht]; exact hP, va_K.moved hW.alike hK, hD⟩, hS.F ht⟩) hS.2.2 dX3_contactor_47
    · refine lv_aload_n hx hb dX3_contactor_24 rfl (lv_at hl 0 rfl) ?_
      refine va_get (D := D) (ci := 4) (v := .int (nI (cm_st M))) (C := RX3) (T := TX3) (N := 20) hx hb hts iX3_contactor_X3 hown hK hP 0 rfl rfl 9 (by decide) (hts (.fieldLink RX3 79 "CellRows2Model" "stage" "I") (by decide +kernel)) (fun _ h9 => h9) rfl dX3_contactor_25 ?_
      refine lv_iconst (v := 2) hx hb dX3_contactor_28 (by decide) ?_
      refine ib_ne (tgt := 48) hx hb dX3_contactor_29 (by decide) (fun h_4 => ?_) (fun h_4 => ?_)
      · refine lv_aload_n hx hb dX3_contactor_48 rfl (lv_at hl 0 rfl) ?_
        refine va_get (D := D) (ci := 4) (v := .int (nI (cm_st M))) (C := RX3) (T := TX3) (N := 20) hx hb hts iX3_contactor_X3 hown hK hP 0 rfl rfl 9 (by decide) (hts (.fieldLink RX3 79 "CellRows2Model" "stage" "I") (by decide +kernel)) (fun _ h9 => h9) rfl dX3_contactor_49 ?_
        refine lv_iconst (v := 2) hx hb dX3_contactor_52 (by decide) ?_
        refine ib_ne (tgt := 78) hx hb dX3_contactor_53 (by decide) (fun h_5 => ?_) (fun h_5 => ?_)
        · have g3 : cm_st M ≠ 3 := nI_neN (b := 3) h_3
          refine lv_aload_n hx hb dX3_contactor_78 rfl (lv_at hl 0 rfl) ?_
          refine va_get (D := D) (ci := 4) (v := .ref (b 8)) (C := RX3) (T := TX3) (N := 20) hx hb hts iX3_contactor_X3 hown hK hP 0 rfl rfl 12 (by decide) (hts (.fieldLink RX3 46 "CellRows2Model" "stucks" "[Z") (by decide +kernel)) (fun _ h9 => h9) rfl dX3_contactor_79 ?_
          refine lv_aload_n hx hb dX3_contactor_82 rfl (lv_at hl 0 rfl) ?_
          refine va_get (D := D) (ci := 4) (v := .int (nI (cm_st M))) (C := RX3) (T := TX3) (N := 20) hx hb hts iX3_contactor_X3 hown hK hP 0 rfl rfl 9 (by decide) (hts (.fieldLink RX3 79 "CellRows2Model" "stage" "I") (by decide +kernel)) (fun _ h9 => h9) rfl dX3_contactor_83 ?_
          refine ra_z (f := (cm_stk M)) hx hb hK hP 8 7 rfl rfl (cm_st M) rfl (by omega) (Nat.le_of_ble_eq_true rfl) dX3_contactor_86 ?_
          refine iz_eq (tgt := 98) hx hb dX3_contactor_87 (by decide) (fun h_6 => ?_) (fun h_6 => ?_)
          · refine lv_aload_n hx hb dX3_contactor_98 rfl (lv_at hl 0 rfl) ?_
            refine lv_dup hx hb dX3_contactor_99 rfl ?_
            refine va_get (D := D) (ci := 4) (v := .int (nI (cm_st M))) (C := RX3) (T := TX3) (N := 20) hx hb hts iX3_contactor_X3 hown hK hP 0 rfl rfl 9 (by decide) (hts (.fieldLink RX3 79 "CellRows2Model" "stage" "I") (by decide +kernel)) (fun _ h9 => h9) rfl dX3_contactor_100 ?_
            refine lv_iconst (v := 1) hx hb dX3_contactor_103 (by decide) ?_
            refine lv_iadd hx hb dX3_contactor_104 ?_
            refine W.eqi (nI_1 (cm_st M)) ?_
            refine va_put (D := D) (ci := 4) (v := .int (nI ((cm_st M) + 1))) (ty := .int) (C := RX3) (T := TX3) (N := 20) hx hb hts iX3_contactor_X3 tyX3 tyX3_ok nmX3 hown hK hP hD hS 0 rfl rfl 9 (by decide) (hts (.fieldLink RX3 79 "CellRows2Model" "stage" "I") (by decide +kernel)) (fun _ h9 => h9) rfl (by decide +kernel) rfl rfl (Nat.le_of_ble_eq_true rfl) dX3_contactor_105 (fun H7 locs7 hP hD hS => ?_)
            have hP : va_P D vwCl (wM cm b n (cm_set_st (cm_set_th M 0) ((cm_st M) + 1))) H7 := hP
            have hD : va_D A (wM cm b n (cm_set_st (cm_set_th M 0) ((cm_st M) + 1))) := hD
            refine lv_aload_n hx hb dX3_contactor_108 rfl (lv_at hl 0 rfl) ?_
            refine lv_aload_n hx hb dX3_contactor_109 rfl (lv_at hl 0 rfl) ?_
            refine va_get (D := D) (ci := 4) (v := .int (nI ((cm_st M) + 1))) (C := RX3) (T := TX3) (N := 20) hx hb hts iX3_contactor_X3 hown hK hP 0 rfl rfl 9 (by decide) (hts (.fieldLink RX3 79 "CellRows2Model" "stage" "I") (by decide +kernel)) (fun _ h9 => h9) rfl dX3_contactor_110 ?_
            refine lv_iconst (v := 2) hx hb dX3_contactor_113 (by decide) ?_
            refine W.join (P := fun v9 : Int32 => v9 = if nI ((cm_st M) + 1) = 2 then (cm_steps M) else (cm_beg M)) (g := fun v9 => F0 m 128 ls [.int v9, .ref (b 0)]) (fun v8 hv8 => ?_) (fun J8 => ?_)
            · subst hv8
              refine va_put (D := D) (ci := 4) (v := .int (if nI ((cm_st M) + 1) = 2 then (cm_steps M) else (cm_beg M))) (ty := .int) (C := RX3) (T := TX3) (N := 20) hx hb hts iX3_contactor_X3 tyX3 tyX3_ok nmX3 hown hK hP hD hS 0 rfl rfl 11 (by decide) (hts (.fieldLink RX3 131 "CellRows2Model" "began" "I") (by decide +kernel)) (fun _ h9 => h9) rfl (by decide +kernel) rfl rfl (Nat.le_of_ble_eq_true rfl) dX3_contactor_128 (fun H10 locs10 hP hD hS => ?_)
              have hP : va_P D vwCl (wM cm b n (cm_set_beg (cm_set_st (cm_set_th M 0) ((cm_st M) + 1)) (if nI ((cm_st M) + 1) = 2 then (cm_steps M) else (cm_beg M)))) H10 := hP
              have hD : va_D A (wM cm b n (cm_set_beg (cm_set_st (cm_set_th M 0) ((cm_st M) + 1)) (if nI ((cm_st M) + 1) = 2 then (cm_steps M) else (cm_beg M)))) := hD
              refine lv_aload_n hx hb dX3_contactor_131 rfl (lv_at hl 0 rfl) ?_
              refine va_get (D := D) (ci := 4) (v := .int (nI ((cm_st M) + 1))) (C := RX3) (T := TX3) (N := 20) hx hb hts iX3_contactor_X3 hown hK hP 0 rfl rfl 9 (by decide) (hts (.fieldLink RX3 79 "CellRows2Model" "stage" "I") (by decide +kernel)) (fun _ h9 => h9) rfl dX3_contactor_132 ?_
              exact W.iret (v := nI ((cm_st M) + 1)) hx hb hr (fun t ht hW => ⟨⟨nI ((cm_st M) + 1), (cm_set_beg (cm_set_st (cm_set_th M 0) ((cm_st M) + 1)) (if nI ((cm_st M) + 1) = 2 then (cm_steps M) else (cm_beg M))), rfl, ⟨(by first | rfl | (simp only [rmCon, gmCon, rmCon2, gmCon2, if_neg h_2, if_neg h_3, if_neg h_4, if_neg h_5, if_pos h_6] <;> rfl)), (by first | rfl | (simp only [rmCon, gmCon, rmCon2, gmCon2, if_neg h_2, if_neg h_3, if_neg h_4, if_neg h_5, if_pos h_6] <;> rfl))⟩, by rw [ht]; exact hP, va_K.moved hW.alike hK, hD⟩, hS.F ht⟩) hS.2.2 dX3_contactor_135
            · refine ib_ne (tgt := 124) hx hb dX3_contactor_114 (by decide) (fun h_9 => ?_) (fun h_9 => ?_)
              · refine lv_aload_n hx hb dX3_contactor_124 rfl (lv_at hl 0 rfl) ?_
                refine va_get (D := D) (ci := 4) (v := .int (cm_beg M)) (C := RX3) (T := TX3) (N := 20) hx hb hts iX3_contactor_X3 hown hK hP 0 rfl rfl 11 (by decide) (hts (.fieldLink RX3 131 "CellRows2Model" "began" "I") (by decide +kernel)) (fun _ h9 => h9) rfl dX3_contactor_125 ?_
                exact J8 _ (by simp only [if_neg h_9])
              · refine lv_aload_n hx hb dX3_contactor_117 rfl (lv_at hl 0 rfl) ?_
                refine va_get (D := D) (ci := 4) (v := .int (cm_steps M)) (C := RX3) (T := TX3) (N := 20) hx hb hts iX3_contactor_X3 hown hK hP 0 rfl rfl 10 (by decide) (hts (.fieldLink RX3 112 "CellRows2Model" "steps" "I") (by decide +kernel)) (fun _ h9 => h9) rfl dX3_contactor_118 ?_
                refine lv_goto (tgt := 128) hx hb dX3_contactor_121 (by decide) ?_
                exact J8 _ (by simp only [if_pos h_9])
          · refine lv_aload_n hx hb dX3_contactor_90 rfl (lv_at hl 0 rfl) ?_
            refine lv_iconst (v := 4) hx hb dX3_contactor_91 (by decide) ?_
            have hSo := hS
            refine va_callv (va_runV (As := [.int 4]) (rest := []) ⟨hx, hb, hml, hown, hts⟩ (kX3_fails l D cm b n (cm_set_th M 0) H1.size 4 (by first | assumption | omega)) (cwV 1 hts gX3_contactor_X3_fails rfl rfl rfl (by decide +kernel) ⟨Nat.le_of_ble_eq_true rfl, Nat.le_of_ble_eq_true rfl⟩) ⟨pM_blind, va_recv hK hP (ci := 4) (q0 := 0) rfl rfl, fun U hU hW => ⟨rfl, pM_mk hP hK hD hU hW⟩⟩ rfl rfl hl.1 rfl (lv_room (Nat.le_of_ble_eq_true rfl)) dX3_contactor_92 ⟨Nat.le_of_ble_eq_true rfl, Nat.le_of_ble_eq_true rfl⟩) hS (fun q _ h => freeAll hD hS hA q h) (freeAll hD hS hA) (fun u11 t11 H11 locs11 ht hvm hw hB hz1 hk1 hS => ?_)
            obtain ⟨hP1, hK1, hD1⟩ := hB
            rw [ht] at hP1
            have hK := va_K.moved hvm.symm hK1
            obtain rfl : u11 = mNote (cm_set_th M 0) 4 := hw
            have hD := hD1.weaken (fun _ q _ h => freeAll hD hSo hA q.1 h)
            have hP := hP1
            refine lv_goto (tgt := 131) hx hb dX3_contactor_95 (by decide) ?_
            refine lv_aload_n hx hb dX3_contactor_131 rfl (lv_at hl 0 rfl) ?_
            refine va_get (D := D) (ci := 4) (v := .int (nI (cm_st (mNote (cm_set_th M 0) 4)))) (C := RX3) (T := TX3) (N := 20) hx hb hts iX3_contactor_X3 hown hK hP 0 rfl rfl 9 (by decide) (hts (.fieldLink RX3 79 "CellRows2Model" "stage" "I") (by decide +kernel)) (fun _ h9 => h9) rfl dX3_contactor_132 ?_
            exact W.iret (v := nI (cm_st (mNote (cm_set_th M 0) 4))) hx hb hr (fun t ht hW => ⟨⟨nI (cm_st (mNote (cm_set_th M 0) 4)), mNote (cm_set_th M 0) 4, rfl, ⟨(by first | rfl | (simp only [rmCon, gmCon, rmCon2, gmCon2, if_neg h_2, if_neg h_3, if_neg h_4, if_neg h_5, if_neg h_6] <;> rfl)), (by first | rfl | (simp only [rmCon, gmCon, rmCon2, gmCon2, if_neg h_2, if_neg h_3, if_neg h_4, if_neg h_5, if_neg h_6] <;> rfl))⟩, by rw [ht]; exact hP, va_K.moved hW.alike hK, hD⟩, hS.F ht⟩) hS.2.2 dX3_contactor_135
        · exact absurd h_5 h_4
      · refine lv_aload_n hx hb dX3_contactor_32 rfl (lv_at hl 0 rfl) ?_
        refine va_get (D := D) (ci := 4) (v := .int (cm_steps M)) (C := RX3) (T := TX3) (N := 20) hx hb hts iX3_contactor_X3 hown hK hP 0 rfl rfl 10 (by decide) (hts (.fieldLink RX3 112 "CellRows2Model" "steps" "I") (by decide +kernel)) (fun _ h9 => h9) rfl dX3_contactor_33 ?_
        refine lv_aload_n hx hb dX3_contactor_36 rfl (lv_at hl 0 rfl) ?_
        refine va_get (D := D) (ci := 4) (v := .int (cm_beg M)) (C := RX3) (T := TX3) (N := 20) hx hb hts iX3_contactor_X3 hown hK hP 0 rfl rfl 11 (by decide) (hts (.fieldLink RX3 131 "CellRows2Model" "began" "I") (by decide +kernel)) (fun _ h9 => h9) rfl dX3_contactor_37 ?_
        refine lv_isub hx hb dX3_contactor_40 ?_
        refine lv_iconst (v := 3) hx hb dX3_contactor_41 (by decide) ?_
        refine ib_ge (tgt := 48) hx hb dX3_contactor_42 (by decide) (fun h_12 => ?_) (fun h_12 => ?_)
        · refine lv_aload_n hx hb dX3_contactor_48 rfl (lv_at hl 0 rfl) ?_
          refine va_get (D := D) (ci := 4) (v := .int (nI (cm_st M))) (C := RX3) (T := TX3) (N := 20) hx hb hts iX3_contactor_X3 hown hK hP 0 rfl rfl 9 (by decide) (hts (.fieldLink RX3 79 "CellRows2Model" "stage" "I") (by decide +kernel)) (fun _ h9 => h9) rfl dX3_contactor_49 ?_
          refine lv_iconst (v := 2) hx hb dX3_contactor_52 (by decide) ?_
          refine ib_ne (tgt := 78) hx hb dX3_contactor_53 (by decide) (fun h_13 => ?_) (fun h_13 => ?_)
          · exact absurd h_4 h_13
          · refine lv_aload_n hx hb dX3_contactor_56 rfl (lv_at hl 0 rfl) ?_
            refine va_get (D := D) (ci := 4) (v := .int (cm_steps M)) (C := RX3) (T := TX3) (N := 20) hx hb hts iX3_contactor_X3 hown hK hP 0 rfl rfl 10 (by decide) (hts (.fieldLink RX3 112 "CellRows2Model" "steps" "I") (by decide +kernel)) (fun _ h9 => h9) rfl dX3_contactor_57 ?_
            refine lv_aload_n hx hb dX3_contactor_60 rfl (lv_at hl 0 rfl) ?_
            refine va_get (D := D) (ci := 4) (v := .int (cm_beg M)) (C := RX3) (T := TX3) (N := 20) hx hb hts iX3_contactor_X3 hown hK hP 0 rfl rfl 11 (by decide) (hts (.fieldLink RX3 131 "CellRows2Model" "began" "I") (by decide +kernel)) (fun _ h9 => h9) rfl dX3_contactor_61 ?_
            refine lv_isub hx hb dX3_contactor_64 ?_
            refine lv_bipush (v := 20) hx hb dX3_contactor_65 (by decide) ?_
            refine ib_lt (tgt := 78) hx hb dX3_contactor_67 (by decide) (fun h_14 => ?_) (fun h_14 => ?_)
            · have g3 : cm_st M ≠ 3 := nI_neN (b := 3) h_3
              refine lv_aload_n hx hb dX3_contactor_78 rfl (lv_at hl 0 rfl) ?_
              refine va_get (D := D) (ci := 4) (v := .ref (b 8)) (C := RX3) (T := TX3) (N := 20) hx hb hts iX3_contactor_X3 hown hK hP 0 rfl rfl 12 (by decide) (hts (.fieldLink RX3 46 "CellRows2Model" "stucks" "[Z") (by decide +kernel)) (fun _ h9 => h9) rfl dX3_contactor_79 ?_
              refine lv_aload_n hx hb dX3_contactor_82 rfl (lv_at hl 0 rfl) ?_
              refine va_get (D := D) (ci := 4) (v := .int (nI (cm_st M))) (C := RX3) (T := TX3) (N := 20) hx hb hts iX3_contactor_X3 hown hK hP 0 rfl rfl 9 (by decide) (hts (.fieldLink RX3 79 "CellRows2Model" "stage" "I") (by decide +kernel)) (fun _ h9 => h9) rfl dX3_contactor_83 ?_
              refine ra_z (f := (cm_stk M)) hx hb hK hP 8 7 rfl rfl (cm_st M) rfl (by omega) (Nat.le_of_ble_eq_true rfl) dX3_contactor_86 ?_
              refine iz_eq (tgt := 98) hx hb dX3_contactor_87 (by decide) (fun h_15 => ?_) (fun h_15 => ?_)
              · refine lv_aload_n hx hb dX3_contactor_98 rfl (lv_at hl 0 rfl) ?_
                refine lv_dup hx hb dX3_contactor_99 rfl ?_
                refine va_get (D := D) (ci := 4) (v := .int (nI (cm_st M))) (C := RX3) (T := TX3) (N := 20) hx hb hts iX3_contactor_X3 hown hK hP 0 rfl rfl 9 (by decide) (hts (.fieldLink RX3 79 "CellRows2Model" "stage" "I") (by decide +kernel)) (fun _ h9 => h9) rfl dX3_contactor_100 ?_
                refine lv_iconst (v := 1) hx hb dX3_contactor_103 (by decide) ?_
                refine lv_iadd hx hb dX3_contactor_104 ?_
                refine W.eqi (nI_1 (cm_st M)) ?_
                refine va_put (D := D) (ci := 4) (v := .int (nI ((cm_st M) + 1))) (ty := .int) (C := RX3) (T := TX3) (N := 20) hx hb hts iX3_contactor_X3 tyX3 tyX3_ok nmX3 hown hK hP hD hS 0 rfl rfl 9 (by decide) (hts (.fieldLink RX3 79 "CellRows2Model" "stage" "I") (by decide +kernel)) (fun _ h9 => h9) rfl (by decide +kernel) rfl rfl (Nat.le_of_ble_eq_true rfl) dX3_contactor_105 (fun H16 locs16 hP hD hS => ?_)
                have hP : va_P D vwCl (wM cm b n (cm_set_st (cm_set_th M 0) ((cm_st M) + 1))) H16 := hP
                have hD : va_D A (wM cm b n (cm_set_st (cm_set_th M 0) ((cm_st M) + 1))) := hD
                refine lv_aload_n hx hb dX3_contactor_108 rfl (lv_at hl 0 rfl) ?_
                refine lv_aload_n hx hb dX3_contactor_109 rfl (lv_at hl 0 rfl) ?_
                refine va_get (D := D) (ci := 4) (v := .int (nI ((cm_st M) + 1))) (C := RX3) (T := TX3) (N := 20) hx hb hts iX3_contactor_X3 hown hK hP 0 rfl rfl 9 (by decide) (hts (.fieldLink RX3 79 "CellRows2Model" "stage" "I") (by decide +kernel)) (fun _ h9 => h9) rfl dX3_contactor_110 ?_
                refine lv_iconst (v := 2) hx hb dX3_contactor_113 (by decide) ?_
                refine W.join (P := fun v9 : Int32 => v9 = if nI ((cm_st M) + 1) = 2 then (cm_steps M) else (cm_beg M)) (g := fun v9 => F0 m 128 ls [.int v9, .ref (b 0)]) (fun v17 hv17 => ?_) (fun J17 => ?_)
                · subst hv17
                  refine va_put (D := D) (ci := 4) (v := .int (if nI ((cm_st M) + 1) = 2 then (cm_steps M) else (cm_beg M))) (ty := .int) (C := RX3) (T := TX3) (N := 20) hx hb hts iX3_contactor_X3 tyX3 tyX3_ok nmX3 hown hK hP hD hS 0 rfl rfl 11 (by decide) (hts (.fieldLink RX3 131 "CellRows2Model" "began" "I") (by decide +kernel)) (fun _ h9 => h9) rfl (by decide +kernel) rfl rfl (Nat.le_of_ble_eq_true rfl) dX3_contactor_128 (fun H19 locs19 hP hD hS => ?_)
                  have hP : va_P D vwCl (wM cm b n (cm_set_beg (cm_set_st (cm_set_th M 0) ((cm_st M) + 1)) (if nI ((cm_st M) + 1) = 2 then (cm_steps M) else (cm_beg M)))) H19 := hP
                  have hD : va_D A (wM cm b n (cm_set_beg (cm_set_st (cm_set_th M 0) ((cm_st M) + 1)) (if nI ((cm_st M) + 1) = 2 then (cm_steps M) else (cm_beg M)))) := hD
                  refine lv_aload_n hx hb dX3_contactor_131 rfl (lv_at hl 0 rfl) ?_
                  refine va_get (D := D) (ci := 4) (v := .int (nI ((cm_st M) + 1))) (C := RX3) (T := TX3) (N := 20) hx hb hts iX3_contactor_X3 hown hK hP 0 rfl rfl 9 (by decide) (hts (.fieldLink RX3 79 "CellRows2Model" "stage" "I") (by decide +kernel)) (fun _ h9 => h9) rfl dX3_contactor_132 ?_
                  exact W.iret (v := nI ((cm_st M) + 1)) hx hb hr (fun t ht hW => ⟨⟨nI ((cm_st M) + 1), (cm_set_beg (cm_set_st (cm_set_th M 0) ((cm_st M) + 1)) (if nI ((cm_st M) + 1) = 2 then (cm_steps M) else (cm_beg M))), rfl, ⟨(by first | rfl | (simp only [rmCon, gmCon, rmCon2, gmCon2, if_neg h_2, if_neg h_3, if_pos h_4, if_neg h_12, if_pos h_13, if_pos h_14, if_pos h_15] <;> rfl)), (by first | rfl | (simp only [rmCon, gmCon, rmCon2, gmCon2, if_neg h_2, if_neg h_3, if_pos h_4, if_neg h_12, if_pos h_13, if_pos h_14, if_pos h_15] <;> rfl))⟩, by rw [ht]; exact hP, va_K.moved hW.alike hK, hD⟩, hS.F ht⟩) hS.2.2 dX3_contactor_135
                · refine ib_ne (tgt := 124) hx hb dX3_contactor_114 (by decide) (fun h_18 => ?_) (fun h_18 => ?_)
                  · refine lv_aload_n hx hb dX3_contactor_124 rfl (lv_at hl 0 rfl) ?_
                    refine va_get (D := D) (ci := 4) (v := .int (cm_beg M)) (C := RX3) (T := TX3) (N := 20) hx hb hts iX3_contactor_X3 hown hK hP 0 rfl rfl 11 (by decide) (hts (.fieldLink RX3 131 "CellRows2Model" "began" "I") (by decide +kernel)) (fun _ h9 => h9) rfl dX3_contactor_125 ?_
                    exact J17 _ (by simp only [if_neg h_18])
                  · refine lv_aload_n hx hb dX3_contactor_117 rfl (lv_at hl 0 rfl) ?_
                    refine va_get (D := D) (ci := 4) (v := .int (cm_steps M)) (C := RX3) (T := TX3) (N := 20) hx hb hts iX3_contactor_X3 hown hK hP 0 rfl rfl 10 (by decide) (hts (.fieldLink RX3 112 "CellRows2Model" "steps" "I") (by decide +kernel)) (fun _ h9 => h9) rfl dX3_contactor_118 ?_
                    refine lv_goto (tgt := 128) hx hb dX3_contactor_121 (by decide) ?_
                    exact J17 _ (by simp only [if_pos h_18])
              · refine lv_aload_n hx hb dX3_contactor_90 rfl (lv_at hl 0 rfl) ?_
                refine lv_iconst (v := 4) hx hb dX3_contactor_91 (by decide) ?_
                have hSo := hS
                refine va_callv (va_runV (As := [.int 4]) (rest := []) ⟨hx, hb, hml, hown, hts⟩ (kX3_fails l D cm b n (cm_set_th M 0) H1.size 4 (by first | assumption | omega)) (cwV 1 hts gX3_contactor_X3_fails rfl rfl rfl (by decide +kernel) ⟨Nat.le_of_ble_eq_true rfl, Nat.le_of_ble_eq_true rfl⟩) ⟨pM_blind, va_recv hK hP (ci := 4) (q0 := 0) rfl rfl, fun U hU hW => ⟨rfl, pM_mk hP hK hD hU hW⟩⟩ rfl rfl hl.1 rfl (lv_room (Nat.le_of_ble_eq_true rfl)) dX3_contactor_92 ⟨Nat.le_of_ble_eq_true rfl, Nat.le_of_ble_eq_true rfl⟩) hS (fun q _ h => freeAll hD hS hA q h) (freeAll hD hS hA) (fun u20 t20 H20 locs20 ht hvm hw hB hz1 hk1 hS => ?_)
                obtain ⟨hP1, hK1, hD1⟩ := hB
                rw [ht] at hP1
                have hK := va_K.moved hvm.symm hK1
                obtain rfl : u20 = mNote (cm_set_th M 0) 4 := hw
                have hD := hD1.weaken (fun _ q _ h => freeAll hD hSo hA q.1 h)
                have hP := hP1
                refine lv_goto (tgt := 131) hx hb dX3_contactor_95 (by decide) ?_
                refine lv_aload_n hx hb dX3_contactor_131 rfl (lv_at hl 0 rfl) ?_
                refine va_get (D := D) (ci := 4) (v := .int (nI (cm_st (mNote (cm_set_th M 0) 4)))) (C := RX3) (T := TX3) (N := 20) hx hb hts iX3_contactor_X3 hown hK hP 0 rfl rfl 9 (by decide) (hts (.fieldLink RX3 79 "CellRows2Model" "stage" "I") (by decide +kernel)) (fun _ h9 => h9) rfl dX3_contactor_132 ?_
                exact W.iret (v := nI (cm_st (mNote (cm_set_th M 0) 4))) hx hb hr (fun t ht hW => ⟨⟨nI (cm_st (mNote (cm_set_th M 0) 4)), mNote (cm_set_th M 0) 4, rfl, ⟨(by first | rfl | (simp only [rmCon, gmCon, rmCon2, gmCon2, if_neg h_2, if_neg h_3, if_pos h_4, if_neg h_12, if_pos h_13, if_pos h_14, if_neg h_15] <;> rfl)), (by first | rfl | (simp only [rmCon, gmCon, rmCon2, gmCon2, if_neg h_2, if_neg h_3, if_pos h_4, if_neg h_12, if_pos h_13, if_pos h_14, if_neg h_15] <;> rfl))⟩, by rw [ht]; exact hP, va_K.moved hW.alike hK, hD⟩, hS.F ht⟩) hS.2.2 dX3_contactor_135
            · refine lv_aload_n hx hb dX3_contactor_70 rfl (lv_at hl 0 rfl) ?_
              refine lv_iconst (v := 3) hx hb dX3_contactor_71 (by decide) ?_
              have hSo := hS
              refine va_callv (va_runV (As := [.int 3]) (rest := []) ⟨hx, hb, hml, hown, hts⟩ (kX3_fails l D cm b n (cm_set_th M 0) H1.size 3 (by first | assumption | omega)) (cwV 1 hts gX3_contactor_X3_fails rfl rfl rfl (by decide +kernel) ⟨Nat.le_of_ble_eq_true rfl, Nat.le_of_ble_eq_true rfl⟩) ⟨pM_blind, va_recv hK hP (ci := 4) (q0 := 0) rfl rfl, fun U hU hW => ⟨rfl, pM_mk hP hK hD hU hW⟩⟩ rfl rfl hl.1 rfl (lv_room (Nat.le_of_ble_eq_true rfl)) dX3_contactor_72 ⟨Nat.le_of_ble_eq_true rfl, Nat.le_of_ble_eq_true rfl⟩) hS (fun q _ h => freeAll hD hS hA q h) (freeAll hD hS hA) (fun u21 t21 H21 locs21 ht hvm hw hB hz1 hk1 hS => ?_)
              obtain ⟨hP1, hK1, hD1⟩ := hB
              rw [ht] at hP1
              have hK := va_K.moved hvm.symm hK1
              obtain rfl : u21 = mNote (cm_set_th M 0) 3 := hw
              have hD := hD1.weaken (fun _ q _ h => freeAll hD hSo hA q.1 h)
              have hP := hP1
              refine lv_goto (tgt := 131) hx hb dX3_contactor_75 (by decide) ?_
              refine lv_aload_n hx hb dX3_contactor_131 rfl (lv_at hl 0 rfl) ?_
              refine va_get (D := D) (ci := 4) (v := .int (nI (cm_st (mNote (cm_set_th M 0) 3)))) (C := RX3) (T := TX3) (N := 20) hx hb hts iX3_contactor_X3 hown hK hP 0 rfl rfl 9 (by decide) (hts (.fieldLink RX3 79 "CellRows2Model" "stage" "I") (by decide +kernel)) (fun _ h9 => h9) rfl dX3_contactor_132 ?_
              exact W.iret (v := nI (cm_st (mNote (cm_set_th M 0) 3))) hx hb hr (fun t ht hW => ⟨⟨nI (cm_st (mNote (cm_set_th M 0) 3)), mNote (cm_set_th M 0) 3, rfl, ⟨(by first | rfl | (simp only [rmCon, gmCon, rmCon2, gmCon2, if_neg h_2, if_neg h_3, if_pos h_4, if_neg h_12, if_pos h_13, if_neg h_14] <;> rfl)), (by first | rfl | (simp only [rmCon, gmCon, rmCon2, gmCon2, if_neg h_2, if_neg h_3, if_pos h_4, if_neg h_12, if_pos h_13, if_neg h_14] <;> rfl))⟩, by rw [ht]; exact hP, va_K.moved hW.alike hK, hD⟩, hS.F ht⟩) hS.2.2 dX3_contactor_135
        · refine lv_bipush (v := (-3)) hx hb dX3_contactor_45 (by decide) ?_
          exact W.iret (v := (-3)) hx hb hr (fun t ht hW => ⟨⟨(-3), (cm_set_th M 0), rfl, ⟨(by first | rfl | (simp only [rmCon, gmCon, rmCon2, gmCon2, if_neg h_2, if_neg h_3, if_pos h_4, if_pos h_12] <;> rfl)), (by first | rfl | (simp only [rmCon, gmCon, rmCon2, gmCon2, if_neg h_2, if_neg h_3, if_pos h_4, if_pos h_12] <;> rfl))⟩, by rw [ht]; exact hP, va_K.moved hW.alike hK, hD⟩, hS.F ht⟩) hS.2.2 dX3_contactor_47
  · refine lv_aload_n hx hb dX3_contactor_9 rfl (lv_at hl 0 rfl) ?_
    refine lv_iconst (v := 0) hx hb dX3_contactor_10 (by decide) ?_
    refine va_put (D := D) (ci := 4) (v := .int 0) (ty := .int) (C := RX3) (T := TX3) (N := 20) hx hb hts iX3_contactor_X3 tyX3 tyX3_ok nmX3 hown hK hP hD hS 0 rfl rfl 9 (by decide) (hts (.fieldLink RX3 79 "CellRows2Model" "stage" "I") (by decide +kernel)) (fun _ h9 => h9) rfl (by decide +kernel) rfl rfl (Nat.le_of_ble_eq_true rfl) dX3_contactor_11 (fun H22 locs22 hP hD hS => ?_)
    have hP : va_P D vwCl (wM cm b n (cm_set_st (cm_set_th M 0) 0)) H22 := hP
    have hD : va_D A (wM cm b n (cm_set_st (cm_set_th M 0) 0)) := hD
    refine lv_iconst (v := 0) hx hb dX3_contactor_14 (by decide) ?_
    exact W.iret (v := 0) hx hb hr (fun t ht hW => ⟨⟨0, (cm_set_st (cm_set_th M 0) 0), rfl, ⟨(by first | rfl | (simp only [rmCon, gmCon, rmCon2, gmCon2, if_pos h_2] <;> rfl)), (by first | rfl | (simp only [rmCon, gmCon, rmCon2, gmCon2, if_pos h_2] <;> rfl))⟩, by rw [ht]; exact hP, va_K.moved hW.alike hK, hD⟩, hS.F ht⟩) hS.2.2 dX3_contactor_15
set_option maxRecDepth 20000 in
theorem iX3_leastVolt_X3 : ∀ w ∈ wsX30, w ∈ wsX3_leastVolt := by decide +kernel
set_option maxHeartbeats 1000000 in
set_option maxRecDepth 100000 in
theorem kX3_leastVolt (l : Launch) (D : va_G) (cm : Nat → ClassId) (b : Nat → Nat) (n : Nat) (M : MS) (sz : Nat) (h1 : 1 ≤ n) (hn : n ≤ 24) : Met l yX3_leastVolt wsX3_leastVolt ({ frames := 0, cells := 0, slots := 0, locals := 0 }) (va_Pc [.ref (b 0)] (pM D cm b n M sz)) (vp_Sl (fun r => r = mLv (cm_vo M) (n - 1))) 0 0 (fun _ => False) := by
  refine Met.ofW (cc := cX3_leastVolt) (maxL := 4) (ret := (some .long)) (by decide) rfl ?_
  intro p e s m args below meth c s₁ B hml hv
  obtain ⟨rfl, hsz, hP, hK, hD0⟩ := hv
  have hx := B.exec
  have hb := B.bytes
  have hr := B.returns
  have hts := atoms_spec (ws := wsX3_leastVolt) B.pre
  have hown : s.vm.findClass RX3 = some m.cls := findClass_of_methodNamed B.named
  have hlocks := B.notSynchronized
  have hD := hD0
  have hl := lv_entry ([.ref (b 0)]) (n := 4) (Nat.le_of_ble_eq_true rfl)
  rw [lg_entry_eq]
  generalize (lg_sl ([.ref (b 0)]) ++ List.replicate (4 - (lg_sl ([.ref (b 0)])).length) Slot.unset).toArray = ls at hl ⊢
  have hl : lv_has ls 4 [(0, .ref (b 0))] := hl
  refine lv_aload_n hx hb dX3_leastVolt_0 rfl (lv_at hl 0 rfl) ?_
  refine va_get (D := D) (ci := 4) (v := .ref (b 3)) (C := RX3) (T := TX3) (N := 20) hx hb hts iX3_leastVolt_X3 hown hK hP 0 rfl rfl 4 (by decide) (hts (.fieldLink RX3 17 "CellRows2Model" "volts" "[J") (by decide +kernel)) (fun _ h9 => h9) rfl dX3_leastVolt_1 ?_
  refine lv_iconst (v := 0) hx hb dX3_leastVolt_4 (by decide) ?_
  refine ra_l (f := (cm_vo M)) hx hb hK hP 3 2 rfl rfl 0 rfl (Nat.le_of_ble_eq_true rfl) (Nat.le_of_ble_eq_true rfl) dX3_leastVolt_5 ?_
  refine lv_lstore_n (lv' := [(1, .long ((cm_vo M) 0)), (0, .ref (b 0))]) hx hb dX3_leastVolt_6 rfl hl (by decide) rfl (fun ls hl => ?_)
  refine lv_iconst (v := 1) hx hb dX3_leastVolt_7 (by decide) ?_
  refine lv_istore_n (lv' := [(3, .int 1), (1, .long ((cm_vo M) 0)), (0, .ref (b 0))]) hx hb dX3_leastVolt_8 rfl hl (by decide) rfl (fun ls hl => ?_)
  refine W.loop (α := Nat × Array Slot) (g := fun v9 => F0 m 9 v9.2 []) (fun k9 v9 => v9.1 + 1 + k9 = n ∧ lv_has v9.2 4 [(0, .ref (b 0)), (1, .long (mLv (cm_vo M) v9.1)), (3, .int (nI (v9.1 + 1)))]) ?_ ?_ (n - 1) (0, ls) ⟨by omega, lv_sub hl [2, 1, 0] rfl⟩
  · rintro ⟨z, ls⟩ ⟨h9, hl⟩
    have h9 : z + 1 + 0 = n := h9
    have e9 : z = n - 1 := by omega
    have hl : lv_has ls 4 [(0, .ref (b 0)), (1, .long (mLv (cm_vo M) z)), (3, .int (nI (z + 1)))] := hl
    rw [e9] at hl
    have hl : lv_has ls 4 [(0, .ref (b 0)), (1, .long (mLv (cm_vo M) (n - 1))), (3, .int (nI ((n - 1) + 1)))] := hl
    refine lv_iload_n hx hb dX3_leastVolt_9 rfl (lv_at hl 2 rfl) ?_
    refine lv_aload_n hx hb dX3_leastVolt_10 rfl (lv_at hl 0 rfl) ?_
    refine va_get (D := D) (ci := 4) (v := .int (nI n)) (C := RX3) (T := TX3) (N := 20) hx hb hts iX3_leastVolt_X3 hown hK hP 0 rfl rfl 1 (by decide) (hts (.fieldLink RX3 61 "CellRows2Model" "cells" "I") (by decide +kernel)) (fun _ h9 => h9) rfl dX3_leastVolt_11 ?_
    refine ib_ge (tgt := 45) hx hb dX3_leastVolt_14 (by decide) (fun h_2 => ?_) (fun h_2 => ?_)
    · refine lv_lload_n hx hb dX3_leastVolt_45 rfl (lv_at hl 1 rfl) ?_
      exact W.lret (v := mLv (cm_vo M) (n - 1)) hx hb hr (fun t ht hW => ⟨mLv (cm_vo M) (n - 1), rfl, rfl, ht⟩) (fun q hq => absurd hq List.not_mem_nil) dX3_leastVolt_46
    · exact absurd h_2 (nI_nlt (a := n - 1 + 1) (b := n) (by omega) (by omega))
  · rintro k9 ih ⟨z, ls⟩ ⟨h9, hl⟩
    have h9 : z + 1 + (k9 + 1) = n := h9
    have hl : lv_has ls 4 [(0, .ref (b 0)), (1, .long (mLv (cm_vo M) z)), (3, .int (nI (z + 1)))] := hl
    refine lv_iload_n hx hb dX3_leastVolt_9 rfl (lv_at hl 2 rfl) ?_
    refine lv_aload_n hx hb dX3_leastVolt_10 rfl (lv_at hl 0 rfl) ?_
    refine va_get (D := D) (ci := 4) (v := .int (nI n)) (C := RX3) (T := TX3) (N := 20) hx hb hts iX3_leastVolt_X3 hown hK hP 0 rfl rfl 1 (by decide) (hts (.fieldLink RX3 61 "CellRows2Model" "cells" "I") (by decide +kernel)) (fun _ h9 => h9) rfl dX3_leastVolt_11 ?_
    refine ib_ge (tgt := 45) hx hb dX3_leastVolt_14 (by decide) (fun h_3 => ?_) (fun h_3 => ?_)
    · exact absurd (nI_lt (a := z + 1) (b := n) (by omega) (by omega)) h_3
    · refine lv_aload_n hx hb dX3_leastVolt_17 rfl (lv_at hl 0 rfl) ?_
      refine va_get (D := D) (ci := 4) (v := .ref (b 3)) (C := RX3) (T := TX3) (N := 20) hx hb hts iX3_leastVolt_X3 hown hK hP 0 rfl rfl 4 (by decide) (hts (.fieldLink RX3 17 "CellRows2Model" "volts" "[J") (by decide +kernel)) (fun _ h9 => h9) rfl dX3_leastVolt_18 ?_
      refine lv_iload_n hx hb dX3_leastVolt_21 rfl (lv_at hl 2 rfl) ?_
      refine ra_l (f := (cm_vo M)) hx hb hK hP 3 2 rfl rfl (z + 1) rfl (by omega) (Nat.le_of_ble_eq_true rfl) dX3_leastVolt_22 ?_
      refine lv_lload_n hx hb dX3_leastVolt_23 rfl (lv_at hl 1 rfl) ?_
      refine W.join (P := fun v9 : Int64 => v9 = mLv (cm_vo M) (z + 1)) (g := fun v9 => F0 m 38 ls [.long v9]) (fun v4 hv4 => ?_) (fun J4 => ?_)
      · subst hv4
        refine lv_lstore_n (lv' := [(1, .long (mLv (cm_vo M) (z + 1))), (0, .ref (b 0)), (3, .int (nI (z + 1)))]) hx hb dX3_leastVolt_38 rfl hl (by decide) rfl (fun ls hl => ?_)
        refine lv_iinc (v := nI (z + 1 + 1)) (lv' := [(3, .int (nI (z + 1 + 1))), (1, .long (mLv (cm_vo M) (z + 1))), (0, .ref (b 0))]) hx hb dX3_leastVolt_39 hl (k := 2) rfl (nI_1 (z + 1)) (by decide) rfl (fun ls hl => ?_)
        refine lv_goto (tgt := 9) hx hb dX3_leastVolt_42 (by decide) ?_
        exact ih ((z + 1), ls) ⟨by show z + 1 + 1 + k9 = n; omega, lv_sub hl [2, 1, 0] rfl⟩
      · refine il_ge (tgt := 37) hx hb dX3_leastVolt_24 dX3_leastVolt_25 (by decide) (fun h_5 => ?_) (fun h_5 => ?_)
        · refine lv_lload_n hx hb dX3_leastVolt_37 rfl (lv_at hl 1 rfl) ?_
          exact J4 _ (by simp only [mLv, if_neg h_5])
        · refine lv_aload_n hx hb dX3_leastVolt_28 rfl (lv_at hl 0 rfl) ?_
          refine va_get (D := D) (ci := 4) (v := .ref (b 3)) (C := RX3) (T := TX3) (N := 20) hx hb hts iX3_leastVolt_X3 hown hK hP 0 rfl rfl 4 (by decide) (hts (.fieldLink RX3 17 "CellRows2Model" "volts" "[J") (by decide +kernel)) (fun _ h9 => h9) rfl dX3_leastVolt_29 ?_
          refine lv_iload_n hx hb dX3_leastVolt_32 rfl (lv_at hl 2 rfl) ?_
          refine ra_l (f := (cm_vo M)) hx hb hK hP 3 2 rfl rfl (z + 1) rfl (by omega) (Nat.le_of_ble_eq_true rfl) dX3_leastVolt_33 ?_
          refine lv_goto (tgt := 38) hx hb dX3_leastVolt_34 (by decide) ?_
          exact J4 _ (by simp only [mLv, if_pos h_5])
set_option maxRecDepth 20000 in
theorem iX3_bleed_X3 : ∀ w ∈ wsX30, w ∈ wsX3_bleed := by decide +kernel
set_option maxHeartbeats 1000000 in
set_option maxRecDepth 100000 in
theorem kX3_bleed (l : Launch) (D : va_G) (cm : Nat → ClassId) (b : Nat → Nat) (n : Nat) (M : MS) (sz : Nat) (p0 : Int32) (h1 : 1 ≤ n) (hn : n ≤ 24) : Met l yX3_bleed wsX3_bleed ({ frames := 1, cells := 0, slots := 0, locals := 23 }) (va_Pc [.ref (b 0), .int p0] (pM D cm b n M sz)) (va_Qi (fun r (u : MS) => r = rmBle M n p0 ∧ u = gmBle M n p0) (eM D cm b n (va_A (wM cm b n M) sz)) (va_A (wM cm b n M) sz)) 0 0 (va_A (wM cm b n M) sz) := by
  refine Met.ofW (cc := cX3_bleed) (maxL := 4) (ret := (some .int)) (by decide) rfl ?_
  intro p e s m args below meth c s₁ B hml hv
  obtain ⟨rfl, hsz, hP, hK, hD0⟩ := hv
  have hx := B.exec
  have hb := B.bytes
  have hr := B.returns
  have hts := atoms_spec (ws := wsX3_bleed) B.pre
  have hown : s.vm.findClass RX3 = some m.cls := findClass_of_methodNamed B.named
  have hlocks := B.notSynchronized
  subst hsz
  have hD := hD0.self (sz := s.heap.size)
  generalize hAe : va_A (wM cm b n M) s.heap.size = A at hD ⊢
  have hA : ∀ q : Nat, s.heap.size ≤ q → A q := fun q h => by rw [← hAe]; exact Or.inr h
  have hS : va_S A s.heap s.heap [] := va_S.rf
  have hl := lv_entry ([.ref (b 0), .int p0]) (n := 4) (Nat.le_of_ble_eq_true rfl)
  rw [lg_entry_eq]
  generalize (lg_sl ([.ref (b 0), .int p0]) ++ List.replicate (4 - (lg_sl ([.ref (b 0), .int p0])).length) Slot.unset).toArray = ls at hl ⊢
  have hl : lv_has ls 4 [(0, .ref (b 0)), (1, .int p0)] := hl
  refine lv_aload_n hx hb dX3_bleed_0 rfl (lv_at hl 0 rfl) ?_
  refine lv_iconst (v := 0) hx hb dX3_bleed_1 (by decide) ?_
  refine va_put (D := D) (ci := 4) (v := .int 0) (ty := .int) (C := RX3) (T := TX3) (N := 20) hx hb hts iX3_bleed_X3 tyX3 tyX3_ok nmX3 hown hK hP hD hS 0 rfl rfl 0 (by decide) (hts (.fieldLink RX3 73 "CellRows2Model" "thrown" "I") (by decide +kernel)) (fun _ h9 => h9) rfl (by decide +kernel) rfl rfl (Nat.le_of_ble_eq_true rfl) dX3_bleed_2 (fun H1 locs1 hP hD hS => ?_)
  have hP : va_P D vwCl (wM cm b n (cm_set_th M 0)) H1 := hP
  have hD : va_D A (wM cm b n (cm_set_th M 0)) := hD
  refine lv_aload_n hx hb dX3_bleed_5 rfl (lv_at hl 0 rfl) ?_
  refine lv_iload_n hx hb dX3_bleed_6 rfl (lv_at hl 1 rfl) ?_
  refine vp_callSi (W.runV (As := [.int p0]) (rest := []) ⟨hx, hb, hml, hown, hts⟩ (kX3_noCell l D cm b n (cm_set_th M 0) H1.size p0 hn) (cwV 1 hts gX3_bleed_X3_noCell rfl rfl rfl (by decide +kernel) ⟨Nat.le_of_ble_eq_true rfl, Nat.le_of_ble_eq_true rfl⟩) ⟨pM_blind, va_recv hK hP (ci := 4) (q0 := 0) rfl rfl, fun U hU hW => ⟨rfl, pM_mk hP hK hD hU hW⟩⟩ rfl rfl hl.1 rfl (lv_room (Nat.le_of_ble_eq_true rfl)) dX3_bleed_7 ⟨Nat.le_of_ble_eq_true rfl, Nat.le_of_ble_eq_true rfl⟩) (fun r2 hr2 => ?_)
  obtain rfl : r2 = mNo n p0 := hr2
  refine iz_eq (tgt := 15) hx hb dX3_bleed_10 (by decide) (fun h_3 => ?_) (fun h_3 => ?_)
  · obtain ⟨j, e_ix⟩ := mNo_0 h_3
    obtain ⟨hj, rfl⟩ := ix_some e_ix
    refine lv_aload_n hx hb dX3_bleed_15 rfl (lv_at hl 0 rfl) ?_
    refine va_get (D := D) (ci := 4) (v := .ref (b 6)) (C := RX3) (T := TX3) (N := 20) hx hb hts iX3_bleed_X3 hown hK hP 0 rfl rfl 7 (by decide) (hts (.fieldLink RX3 27 "CellRows2Model" "bleeds" "[Z") (by decide +kernel)) (fun _ h9 => h9) rfl dX3_bleed_16 ?_
    refine lv_iload_n hx hb dX3_bleed_19 rfl (lv_at hl 1 rfl) ?_
    refine ra_z (f := (cm_bl M)) hx hb hK hP 6 5 rfl rfl j rfl (by omega) (Nat.le_of_ble_eq_true rfl) dX3_bleed_20 ?_
    refine iz_ne (tgt := 61) hx hb dX3_bleed_21 (by decide) (fun h_4 => ?_) (fun h_4 => ?_)
    · refine W.joinH (P := fun (v9 : MS) (H' : Heap) (locs' : List Loc) => v9 = cm_set_bl (cm_set_th M 0) (va_up (cm_bl M) j (if cm_bl M j = 0 then 1 else 0)) ∧ va_P D vwCl (wM cm b n v9) H' ∧ va_D A (wM cm b n v9) ∧ va_S A s.heap H' locs') (g := fun _ => F0 m 81 ls []) (fun M1 H5 locs5 hj5 => ?_) (fun J5 => ?_)
      · obtain ⟨hs_M1, hP, hD, hS⟩ := hj5
        refine lv_iconst (v := 0) hx hb dX3_bleed_81 (by decide) ?_
        refine lv_istore_n (lv' := [(2, .int 0), (0, .ref (b 0)), (1, .int (nI j))]) hx hb dX3_bleed_82 rfl hl (by decide) rfl (fun ls hl => ?_)
        refine lv_iconst (v := 0) hx hb dX3_bleed_83 (by decide) ?_
        refine lv_istore_n (lv' := [(3, .int 0), (2, .int 0), (0, .ref (b 0)), (1, .int (nI j))]) hx hb dX3_bleed_84 rfl hl (by decide) rfl (fun ls hl => ?_)
        refine W.loop (α := Nat × Array Slot) (g := fun v9 => F0 m 85 v9.2 []) (fun k9 v9 => v9.1 + k9 = n ∧ lv_has v9.2 4 [(0, .ref (b 0)), (2, .int (sBc (cm_bl M1) v9.1)), (3, .int (nI v9.1))]) ?_ ?_ n (0, ls) ⟨by omega, lv_sub hl [2, 1, 0] rfl⟩
        · rintro ⟨i, ls⟩ ⟨h9, hl⟩
          have h9 : i + 0 = n := h9
          have e9 : i = n := by omega
          have hl : lv_has ls 4 [(0, .ref (b 0)), (2, .int (sBc (cm_bl M1) i)), (3, .int (nI i))] := hl
          rw [e9] at hl
          have hl : lv_has ls 4 [(0, .ref (b 0)), (2, .int (sBc (cm_bl M1) n)), (3, .int (nI n))] := hl
          refine lv_iload_n hx hb dX3_bleed_85 rfl (lv_at hl 2 rfl) ?_
          refine lv_aload_n hx hb dX3_bleed_86 rfl (lv_at hl 0 rfl) ?_
          refine va_get (D := D) (ci := 4) (v := .int (nI n)) (C := RX3) (T := TX3) (N := 20) hx hb hts iX3_bleed_X3 hown hK hP 0 rfl rfl 1 (by decide) (hts (.fieldLink RX3 61 "CellRows2Model" "cells" "I") (by decide +kernel)) (fun _ h9 => h9) rfl dX3_bleed_87 ?_
          refine ib_ge (tgt := 116) hx hb dX3_bleed_90 (by decide) (fun h_10 => ?_) (fun h_10 => ?_)
          · refine lv_iload_n hx hb dX3_bleed_116 rfl (lv_at hl 1 rfl) ?_
            subst hs_M1
            exact W.iret (v := sBc (cm_bl (cm_set_bl (cm_set_th M 0) (va_up (cm_bl M) j (if cm_bl M j = 0 then 1 else 0)))) n) hx hb hr (fun t ht hW => ⟨⟨sBc (cm_bl (cm_set_bl (cm_set_th M 0) (va_up (cm_bl M) j (if cm_bl M j = 0 then 1 else 0)))) n, (cm_set_bl (cm_set_th M 0) (va_up (cm_bl M) j (if cm_bl M j = 0 then 1 else 0))), rfl, ⟨(by first | rfl | (simp only [rmBle, gmBle, if_pos h_3, e_ix, Option.elim_some, if_neg h_4, if_neg h_10] <;> rfl)), (by first | rfl | (simp only [rmBle, gmBle, if_pos h_3, e_ix, Option.elim_some, if_neg h_4, if_neg h_10] <;> rfl))⟩, by rw [ht]; exact hP, va_K.moved hW.alike hK, hD⟩, hS.F ht⟩) hS.2.2 dX3_bleed_117
          · exact absurd h_10 (nI_nlt (a := n) (b := n) (Nat.le_refl _) (by omega))
        · rintro k9 ih ⟨i, ls⟩ ⟨h9, hl⟩
          have h9 : i + (k9 + 1) = n := h9
          have hi : i < n := by omega
          have hl : lv_has ls 4 [(0, .ref (b 0)), (2, .int (sBc (cm_bl M1) i)), (3, .int (nI i))] := hl
          refine lv_iload_n hx hb dX3_bleed_85 rfl (lv_at hl 2 rfl) ?_
          refine lv_aload_n hx hb dX3_bleed_86 rfl (lv_at hl 0 rfl) ?_
          refine va_get (D := D) (ci := 4) (v := .int (nI n)) (C := RX3) (T := TX3) (N := 20) hx hb hts iX3_bleed_X3 hown hK hP 0 rfl rfl 1 (by decide) (hts (.fieldLink RX3 61 "CellRows2Model" "cells" "I") (by decide +kernel)) (fun _ h9 => h9) rfl dX3_bleed_87 ?_
          refine ib_ge (tgt := 116) hx hb dX3_bleed_90 (by decide) (fun h_11 => ?_) (fun h_11 => ?_)
          · exact absurd (nI_lt (a := i) (b := n) (by omega) (by omega)) h_11
          · refine lv_aload_n hx hb dX3_bleed_93 rfl (lv_at hl 0 rfl) ?_
            refine va_get (D := D) (ci := 4) (v := .ref (b 6)) (C := RX3) (T := TX3) (N := 20) hx hb hts iX3_bleed_X3 hown hK hP 0 rfl rfl 7 (by decide) (hts (.fieldLink RX3 27 "CellRows2Model" "bleeds" "[Z") (by decide +kernel)) (fun _ h9 => h9) rfl dX3_bleed_94 ?_
            refine lv_iload_n hx hb dX3_bleed_97 rfl (lv_at hl 2 rfl) ?_
            refine ra_z (f := (cm_bl M1)) hx hb hK hP 6 5 rfl rfl i rfl (by omega) (Nat.le_of_ble_eq_true rfl) dX3_bleed_98 ?_
            refine W.join (P := fun v9 : Int32 => v9 = sBc (cm_bl M1) (i + 1)) (g := fun v9 => F0 m 109 ls [.int v9]) (fun v12 hv12 => ?_) (fun J12 => ?_)
            · subst hv12
              refine lv_istore_n (lv' := [(2, .int (sBc (cm_bl M1) (i + 1))), (0, .ref (b 0)), (3, .int (nI i))]) hx hb dX3_bleed_109 rfl hl (by decide) rfl (fun ls hl => ?_)
              refine lv_iinc (v := nI (i + 1)) (lv' := [(3, .int (nI (i + 1))), (2, .int (sBc (cm_bl M1) (i + 1))), (0, .ref (b 0))]) hx hb dX3_bleed_110 hl (k := 2) rfl (nI_1 i) (by decide) rfl (fun ls hl => ?_)
              refine lv_goto (tgt := 85) hx hb dX3_bleed_113 (by decide) ?_
              exact ih ((i + 1), ls) ⟨by show i + 1 + k9 = n; omega, lv_sub hl [2, 1, 0] rfl⟩
            · refine iz_eq (tgt := 108) hx hb dX3_bleed_99 (by decide) (fun h_13 => ?_) (fun h_13 => ?_)
              · refine lv_iload_n hx hb dX3_bleed_108 rfl (lv_at hl 1 rfl) ?_
                exact J12 _ (by simp only [sBc, if_pos h_13])
              · refine lv_iload_n hx hb dX3_bleed_102 rfl (lv_at hl 1 rfl) ?_
                refine lv_iconst (v := 1) hx hb dX3_bleed_103 (by decide) ?_
                refine lv_iadd hx hb dX3_bleed_104 ?_
                refine lv_goto (tgt := 109) hx hb dX3_bleed_105 (by decide) ?_
                exact J12 _ (by simp only [sBc, if_neg h_13])
      · refine lv_aload_n hx hb dX3_bleed_61 rfl (lv_at hl 0 rfl) ?_
        refine va_get (D := D) (ci := 4) (v := .ref (b 6)) (C := RX3) (T := TX3) (N := 20) hx hb hts iX3_bleed_X3 hown hK hP 0 rfl rfl 7 (by decide) (hts (.fieldLink RX3 27 "CellRows2Model" "bleeds" "[Z") (by decide +kernel)) (fun _ h9 => h9) rfl dX3_bleed_62 ?_
        refine lv_iload_n hx hb dX3_bleed_65 rfl (lv_at hl 1 rfl) ?_
        refine lv_aload_n hx hb dX3_bleed_66 rfl (lv_at hl 0 rfl) ?_
        refine va_get (D := D) (ci := 4) (v := .ref (b 6)) (C := RX3) (T := TX3) (N := 20) hx hb hts iX3_bleed_X3 hown hK hP 0 rfl rfl 7 (by decide) (hts (.fieldLink RX3 27 "CellRows2Model" "bleeds" "[Z") (by decide +kernel)) (fun _ h9 => h9) rfl dX3_bleed_67 ?_
        refine lv_iload_n hx hb dX3_bleed_70 rfl (lv_at hl 1 rfl) ?_
        refine ra_z (f := (cm_bl M)) hx hb hK hP 6 5 rfl rfl j rfl (by omega) (Nat.le_of_ble_eq_true rfl) dX3_bleed_71 ?_
        refine W.join (P := fun v9 : Int32 => v9 = 0) (g := fun v9 => F0 m 80 ls [.int v9, .int (nI j), .ref (b 6)]) (fun v6 hv6 => ?_) (fun J6 => ?_)
        · subst hv6
          refine rs_z (f := (cm_bl M)) hx hb hK hP hD hS 6 5 rfl rfl (Or.inl rfl) j rfl (by omega) (Nat.le_of_ble_eq_true rfl) dX3_bleed_80 (fun H8 locs8 hP hD hS => ?_)
          have hP : va_P D vwCl (wM cm b n (cm_set_bl (cm_set_th M 0) (va_up (cm_bl M) j 0))) H8 := hP
          have hD : va_D A (wM cm b n (cm_set_bl (cm_set_th M 0) (va_up (cm_bl M) j 0))) := hD
          exact J5 (cm_set_bl (cm_set_th M 0) (va_up (cm_bl M) j 0)) _ _ ⟨by first | rfl | (simp only [if_pos h_3, e_ix, Option.elim_some, if_neg h_4]), hP, hD, hS⟩
        · refine iz_ne (tgt := 79) hx hb dX3_bleed_72 (by decide) (fun h_7 => ?_) (fun h_7 => ?_)
          · refine lv_iconst (v := 0) hx hb dX3_bleed_79 (by decide) ?_
            exact J6 _ (by simp only [if_neg h_7])
          · exact absurd h_7 h_4
    · refine lv_aload_n hx hb dX3_bleed_24 rfl (lv_at hl 0 rfl) ?_
      refine va_get (D := D) (ci := 4) (v := .ref (b 1)) (C := RX3) (T := TX3) (N := 20) hx hb hts iX3_bleed_X3 hown hK hP 0 rfl rfl 2 (by decide) (hts (.fieldLink RX3 7 "CellRows2Model" "charges" "[J") (by decide +kernel)) (fun _ h9 => h9) rfl dX3_bleed_25 ?_
      refine lv_iload_n hx hb dX3_bleed_28 rfl (lv_at hl 1 rfl) ?_
      refine ra_l (f := (cm_ch M)) hx hb hK hP 1 0 rfl rfl j rfl (by omega) (Nat.le_of_ble_eq_true rfl) dX3_bleed_29 ?_
      refine lv_aload_n hx hb dX3_bleed_30 rfl (lv_at hl 0 rfl) ?_
      refine va_get (D := D) (ci := 4) (v := .ref (b 7)) (C := RX3) (T := TX3) (N := 20) hx hb hts iX3_bleed_X3 hown hK hP 0 rfl rfl 8 (by decide) (hts (.fieldLink RX3 43 "CellRows2Model" "limits" "[J") (by decide +kernel)) (fun _ h9 => h9) rfl dX3_bleed_31 ?_
      refine lv_iconst (v := 4) hx hb dX3_bleed_34 (by decide) ?_
      refine ra_l (f := (cm_lim M)) hx hb hK hP 7 6 rfl rfl 4 rfl (Nat.le_of_ble_eq_true rfl) (Nat.le_of_ble_eq_true rfl) dX3_bleed_35 ?_
      refine il_lt (tgt := 58) hx hb dX3_bleed_36 dX3_bleed_37 (by decide) (fun h_14 => ?_) (fun h_14 => ?_)
      · refine lv_bipush (v := (-3)) hx hb dX3_bleed_58 (by decide) ?_
        exact W.iret (v := (-3)) hx hb hr (fun t ht hW => ⟨⟨(-3), (cm_set_th M 0), rfl, ⟨(by first | rfl | (simp only [rmBle, gmBle, if_pos h_3, e_ix, Option.elim_some, if_pos h_4, if_pos h_14] <;> rfl)), (by first | rfl | (simp only [rmBle, gmBle, if_pos h_3, e_ix, Option.elim_some, if_pos h_4, if_pos h_14] <;> rfl))⟩, by rw [ht]; exact hP, va_K.moved hW.alike hK, hD⟩, hS.F ht⟩) hS.2.2 dX3_bleed_60
      · refine lv_aload_n hx hb dX3_bleed_40 rfl (lv_at hl 0 rfl) ?_
        refine va_get (D := D) (ci := 4) (v := .ref (b 3)) (C := RX3) (T := TX3) (N := 20) hx hb hts iX3_bleed_X3 hown hK hP 0 rfl rfl 4 (by decide) (hts (.fieldLink RX3 17 "CellRows2Model" "volts" "[J") (by decide +kernel)) (fun _ h9 => h9) rfl dX3_bleed_41 ?_
        refine lv_iload_n hx hb dX3_bleed_44 rfl (lv_at hl 1 rfl) ?_
        refine ra_l (f := (cm_vo M)) hx hb hK hP 3 2 rfl rfl j rfl (by omega) (Nat.le_of_ble_eq_true rfl) dX3_bleed_45 ?_
        refine lv_aload_n hx hb dX3_bleed_46 rfl (lv_at hl 0 rfl) ?_
        refine vp_callSl (W.runV (As := []) (rest := [.long ((cm_vo M) j)]) ⟨hx, hb, hml, hown, hts⟩ (kX3_leastVolt l D cm b n (cm_set_th M 0) H1.size h1 hn) (cwV 0 hts gX3_bleed_X3_leastVolt rfl rfl rfl (by decide +kernel) ⟨Nat.le_of_ble_eq_true rfl, Nat.le_of_ble_eq_true rfl⟩) ⟨pM_blind, va_recv hK hP (ci := 4) (q0 := 0) rfl rfl, fun U hU hW => ⟨rfl, pM_mk hP hK hD hU hW⟩⟩ rfl rfl hl.1 rfl (lv_room (Nat.le_of_ble_eq_true rfl)) dX3_bleed_47 ⟨Nat.le_of_ble_eq_true rfl, Nat.le_of_ble_eq_true rfl⟩) (fun r15 hr15 => ?_)
        obtain rfl : r15 = mLv (cm_vo M) (n - 1) := hr15
        refine lv_ldc2 hx hb hown (hts (.constantLong RX3 138 (10)) (by decide +kernel)) dX3_bleed_50 ?_
        refine lv_ladd hx hb dX3_bleed_53 ?_
        refine il_ge (tgt := 61) hx hb dX3_bleed_54 dX3_bleed_55 (by decide) (fun h_16 => ?_) (fun h_16 => ?_)
        · refine W.joinH (P := fun (v9 : MS) (H' : Heap) (locs' : List Loc) => v9 = cm_set_bl (cm_set_th M 0) (va_up (cm_bl M) j (if cm_bl M j = 0 then 1 else 0)) ∧ va_P D vwCl (wM cm b n v9) H' ∧ va_D A (wM cm b n v9) ∧ va_S A s.heap H' locs') (g := fun _ => F0 m 81 ls []) (fun M1 H17 locs17 hj17 => ?_) (fun J17 => ?_)
          · obtain ⟨hs_M1, hP, hD, hS⟩ := hj17
            refine lv_iconst (v := 0) hx hb dX3_bleed_81 (by decide) ?_
            refine lv_istore_n (lv' := [(2, .int 0), (0, .ref (b 0)), (1, .int (nI j))]) hx hb dX3_bleed_82 rfl hl (by decide) rfl (fun ls hl => ?_)
            refine lv_iconst (v := 0) hx hb dX3_bleed_83 (by decide) ?_
            refine lv_istore_n (lv' := [(3, .int 0), (2, .int 0), (0, .ref (b 0)), (1, .int (nI j))]) hx hb dX3_bleed_84 rfl hl (by decide) rfl (fun ls hl => ?_)
            refine W.loop (α := Nat × Array Slot) (g := fun v9 => F0 m 85 v9.2 []) (fun k9 v9 => v9.1 + k9 = n ∧ lv_has v9.2 4 [(0, .ref (b 0)), (2, .int (sBc (cm_bl M1) v9.1)), (3, .int (nI v9.1))]) ?_ ?_ n (0, ls) ⟨by omega, lv_sub hl [2, 1, 0] rfl⟩
            · rintro ⟨i, ls⟩ ⟨h9, hl⟩
              have h9 : i + 0 = n := h9
              have e9 : i = n := by omega
              have hl : lv_has ls 4 [(0, .ref (b 0)), (2, .int (sBc (cm_bl M1) i)), (3, .int (nI i))] := hl
              rw [e9] at hl
              have hl : lv_has ls 4 [(0, .ref (b 0)), (2, .int (sBc (cm_bl M1) n)), (3, .int (nI n))] := hl
              refine lv_iload_n hx hb dX3_bleed_85 rfl (lv_at hl 2 rfl) ?_
              refine lv_aload_n hx hb dX3_bleed_86 rfl (lv_at hl 0 rfl) ?_
              refine va_get (D := D) (ci := 4) (v := .int (nI n)) (C := RX3) (T := TX3) (N := 20) hx hb hts iX3_bleed_X3 hown hK hP 0 rfl rfl 1 (by decide) (hts (.fieldLink RX3 61 "CellRows2Model" "cells" "I") (by decide +kernel)) (fun _ h9 => h9) rfl dX3_bleed_87 ?_
              refine ib_ge (tgt := 116) hx hb dX3_bleed_90 (by decide) (fun h_22 => ?_) (fun h_22 => ?_)
              · refine lv_iload_n hx hb dX3_bleed_116 rfl (lv_at hl 1 rfl) ?_
                subst hs_M1
                exact W.iret (v := sBc (cm_bl (cm_set_bl (cm_set_th M 0) (va_up (cm_bl M) j (if cm_bl M j = 0 then 1 else 0)))) n) hx hb hr (fun t ht hW => ⟨⟨sBc (cm_bl (cm_set_bl (cm_set_th M 0) (va_up (cm_bl M) j (if cm_bl M j = 0 then 1 else 0)))) n, (cm_set_bl (cm_set_th M 0) (va_up (cm_bl M) j (if cm_bl M j = 0 then 1 else 0))), rfl, ⟨(by first | rfl | (simp only [rmBle, gmBle, if_pos h_3, e_ix, Option.elim_some, if_pos h_4, if_neg h_14, if_neg h_16, if_neg h_22] <;> rfl)), (by first | rfl | (simp only [rmBle, gmBle, if_pos h_3, e_ix, Option.elim_some, if_pos h_4, if_neg h_14, if_neg h_16, if_neg h_22] <;> rfl))⟩, by rw [ht]; exact hP, va_K.moved hW.alike hK, hD⟩, hS.F ht⟩) hS.2.2 dX3_bleed_117
              · exact absurd h_22 (nI_nlt (a := n) (b := n) (Nat.le_refl _) (by omega))
            · rintro k9 ih ⟨i, ls⟩ ⟨h9, hl⟩
              have h9 : i + (k9 + 1) = n := h9
              have hi : i < n := by omega
              have hl : lv_has ls 4 [(0, .ref (b 0)), (2, .int (sBc (cm_bl M1) i)), (3, .int (nI i))] := hl
              refine lv_iload_n hx hb dX3_bleed_85 rfl (lv_at hl 2 rfl) ?_
              refine lv_aload_n hx hb dX3_bleed_86 rfl (lv_at hl 0 rfl) ?_
              refine va_get (D := D) (ci := 4) (v := .int (nI n)) (C := RX3) (T := TX3) (N := 20) hx hb hts iX3_bleed_X3 hown hK hP 0 rfl rfl 1 (by decide) (hts (.fieldLink RX3 61 "CellRows2Model" "cells" "I") (by decide +kernel)) (fun _ h9 => h9) rfl dX3_bleed_87 ?_
              refine ib_ge (tgt := 116) hx hb dX3_bleed_90 (by decide) (fun h_23 => ?_) (fun h_23 => ?_)
              · exact absurd (nI_lt (a := i) (b := n) (by omega) (by omega)) h_23
              · refine lv_aload_n hx hb dX3_bleed_93 rfl (lv_at hl 0 rfl) ?_
                refine va_get (D := D) (ci := 4) (v := .ref (b 6)) (C := RX3) (T := TX3) (N := 20) hx hb hts iX3_bleed_X3 hown hK hP 0 rfl rfl 7 (by decide) (hts (.fieldLink RX3 27 "CellRows2Model" "bleeds" "[Z") (by decide +kernel)) (fun _ h9 => h9) rfl dX3_bleed_94 ?_
                refine lv_iload_n hx hb dX3_bleed_97 rfl (lv_at hl 2 rfl) ?_
                refine ra_z (f := (cm_bl M1)) hx hb hK hP 6 5 rfl rfl i rfl (by omega) (Nat.le_of_ble_eq_true rfl) dX3_bleed_98 ?_
                refine W.join (P := fun v9 : Int32 => v9 = sBc (cm_bl M1) (i + 1)) (g := fun v9 => F0 m 109 ls [.int v9]) (fun v24 hv24 => ?_) (fun J24 => ?_)
                · subst hv24
                  refine lv_istore_n (lv' := [(2, .int (sBc (cm_bl M1) (i + 1))), (0, .ref (b 0)), (3, .int (nI i))]) hx hb dX3_bleed_109 rfl hl (by decide) rfl (fun ls hl => ?_)
                  refine lv_iinc (v := nI (i + 1)) (lv' := [(3, .int (nI (i + 1))), (2, .int (sBc (cm_bl M1) (i + 1))), (0, .ref (b 0))]) hx hb dX3_bleed_110 hl (k := 2) rfl (nI_1 i) (by decide) rfl (fun ls hl => ?_)
                  refine lv_goto (tgt := 85) hx hb dX3_bleed_113 (by decide) ?_
                  exact ih ((i + 1), ls) ⟨by show i + 1 + k9 = n; omega, lv_sub hl [2, 1, 0] rfl⟩
                · refine iz_eq (tgt := 108) hx hb dX3_bleed_99 (by decide) (fun h_25 => ?_) (fun h_25 => ?_)
                  · refine lv_iload_n hx hb dX3_bleed_108 rfl (lv_at hl 1 rfl) ?_
                    exact J24 _ (by simp only [sBc, if_pos h_25])
                  · refine lv_iload_n hx hb dX3_bleed_102 rfl (lv_at hl 1 rfl) ?_
                    refine lv_iconst (v := 1) hx hb dX3_bleed_103 (by decide) ?_
                    refine lv_iadd hx hb dX3_bleed_104 ?_
                    refine lv_goto (tgt := 109) hx hb dX3_bleed_105 (by decide) ?_
                    exact J24 _ (by simp only [sBc, if_neg h_25])
          · refine lv_aload_n hx hb dX3_bleed_61 rfl (lv_at hl 0 rfl) ?_
            refine va_get (D := D) (ci := 4) (v := .ref (b 6)) (C := RX3) (T := TX3) (N := 20) hx hb hts iX3_bleed_X3 hown hK hP 0 rfl rfl 7 (by decide) (hts (.fieldLink RX3 27 "CellRows2Model" "bleeds" "[Z") (by decide +kernel)) (fun _ h9 => h9) rfl dX3_bleed_62 ?_
            refine lv_iload_n hx hb dX3_bleed_65 rfl (lv_at hl 1 rfl) ?_
            refine lv_aload_n hx hb dX3_bleed_66 rfl (lv_at hl 0 rfl) ?_
            refine va_get (D := D) (ci := 4) (v := .ref (b 6)) (C := RX3) (T := TX3) (N := 20) hx hb hts iX3_bleed_X3 hown hK hP 0 rfl rfl 7 (by decide) (hts (.fieldLink RX3 27 "CellRows2Model" "bleeds" "[Z") (by decide +kernel)) (fun _ h9 => h9) rfl dX3_bleed_67 ?_
            refine lv_iload_n hx hb dX3_bleed_70 rfl (lv_at hl 1 rfl) ?_
            refine ra_z (f := (cm_bl M)) hx hb hK hP 6 5 rfl rfl j rfl (by omega) (Nat.le_of_ble_eq_true rfl) dX3_bleed_71 ?_
            refine W.join (P := fun v9 : Int32 => v9 = 1) (g := fun v9 => F0 m 80 ls [.int v9, .int (nI j), .ref (b 6)]) (fun v18 hv18 => ?_) (fun J18 => ?_)
            · subst hv18
              refine rs_z (f := (cm_bl M)) hx hb hK hP hD hS 6 5 rfl rfl (Or.inr rfl) j rfl (by omega) (Nat.le_of_ble_eq_true rfl) dX3_bleed_80 (fun H20 locs20 hP hD hS => ?_)
              have hP : va_P D vwCl (wM cm b n (cm_set_bl (cm_set_th M 0) (va_up (cm_bl M) j 1))) H20 := hP
              have hD : va_D A (wM cm b n (cm_set_bl (cm_set_th M 0) (va_up (cm_bl M) j 1))) := hD
              exact J17 (cm_set_bl (cm_set_th M 0) (va_up (cm_bl M) j 1)) _ _ ⟨by first | rfl | (simp only [if_pos h_3, e_ix, Option.elim_some, if_pos h_4, if_neg h_14, if_neg h_16]), hP, hD, hS⟩
            · refine iz_ne (tgt := 79) hx hb dX3_bleed_72 (by decide) (fun h_19 => ?_) (fun h_19 => ?_)
              · exact absurd h_4 h_19
              · refine lv_iconst (v := 1) hx hb dX3_bleed_75 (by decide) ?_
                refine lv_goto (tgt := 80) hx hb dX3_bleed_76 (by decide) ?_
                exact J18 _ (by simp only [if_pos h_19])
        · refine lv_bipush (v := (-3)) hx hb dX3_bleed_58 (by decide) ?_
          exact W.iret (v := (-3)) hx hb hr (fun t ht hW => ⟨⟨(-3), (cm_set_th M 0), rfl, ⟨(by first | rfl | (simp only [rmBle, gmBle, if_pos h_3, e_ix, Option.elim_some, if_pos h_4, if_neg h_14, if_pos h_16] <;> rfl)), (by first | rfl | (simp only [rmBle, gmBle, if_pos h_3, e_ix, Option.elim_some, if_pos h_4, if_neg h_14, if_pos h_16] <;> rfl))⟩, by rw [ht]; exact hP, va_K.moved hW.alike hK, hD⟩, hS.F ht⟩) hS.2.2 dX3_bleed_60
  · have e_ixn := mNo_1 h_3
    refine lv_iconst (v := (-1)) hx hb dX3_bleed_13 (by decide) ?_
    exact W.iret (v := (-1)) hx hb hr (fun t ht hW => ⟨⟨(-1), (cm_set_th M 0), rfl, ⟨(by first | rfl | (simp only [rmBle, gmBle, if_neg h_3, e_ixn, Option.elim_none] <;> rfl)), (by first | rfl | (simp only [rmBle, gmBle, if_neg h_3, e_ixn, Option.elim_none] <;> rfl))⟩, by rw [ht]; exact hP, va_K.moved hW.alike hK, hD⟩, hS.F ht⟩) hS.2.2 dX3_bleed_14
set_option maxRecDepth 20000 in
theorem iX3_limit_X3 : ∀ w ∈ wsX30, w ∈ wsX3_limit := by decide +kernel
set_option maxHeartbeats 1000000 in
set_option maxRecDepth 100000 in
theorem kX3_limit (l : Launch) (D : va_G) (cm : Nat → ClassId) (b : Nat → Nat) (n : Nat) (M : MS) (sz : Nat) (p0 : Int32) (v : Int64) : Met l yX3_limit wsX3_limit ({ frames := 0, cells := 0, slots := 0, locals := 0 }) (va_Pc [.ref (b 0), .int p0, .long v] (pM D cm b n M sz)) (va_Qi (fun r (u : MS) => r = rmLim p0 v ∧ u = cm_set_th (gmLim M p0 v) 0) (eM D cm b n (va_A (wM cm b n M) sz)) (va_A (wM cm b n M) sz)) 0 0 (va_A (wM cm b n M) sz) := by
  refine Met.ofW (cc := cX3_limit) (maxL := 4) (ret := (some .int)) (by decide) rfl ?_
  intro p e s m args below meth c s₁ B hml hv
  obtain ⟨rfl, hsz, hP, hK, hD0⟩ := hv
  have hx := B.exec
  have hb := B.bytes
  have hr := B.returns
  have hts := atoms_spec (ws := wsX3_limit) B.pre
  have hown : s.vm.findClass RX3 = some m.cls := findClass_of_methodNamed B.named
  have hlocks := B.notSynchronized
  subst hsz
  have hD := hD0.self (sz := s.heap.size)
  generalize hAe : va_A (wM cm b n M) s.heap.size = A at hD ⊢
  have hA : ∀ q : Nat, s.heap.size ≤ q → A q := fun q h => by rw [← hAe]; exact Or.inr h
  have hS : va_S A s.heap s.heap [] := va_S.rf
  have hl := lv_entry ([.ref (b 0), .int p0, .long v]) (n := 4) (Nat.le_of_ble_eq_true rfl)
  rw [lg_entry_eq]
  generalize (lg_sl ([.ref (b 0), .int p0, .long v]) ++ List.replicate (4 - (lg_sl ([.ref (b 0), .int p0, .long v])).length) Slot.unset).toArray = ls at hl ⊢
  have hl : lv_has ls 4 [(0, .ref (b 0)), (1, .int p0), (2, .long v)] := hl
  refine lv_aload_n hx hb dX3_limit_0 rfl (lv_at hl 0 rfl) ?_
  refine lv_iconst (v := 0) hx hb dX3_limit_1 (by decide) ?_
  refine va_put (D := D) (ci := 4) (v := .int 0) (ty := .int) (C := RX3) (T := TX3) (N := 20) hx hb hts iX3_limit_X3 tyX3 tyX3_ok nmX3 hown hK hP hD hS 0 rfl rfl 0 (by decide) (hts (.fieldLink RX3 73 "CellRows2Model" "thrown" "I") (by decide +kernel)) (fun _ h9 => h9) rfl (by decide +kernel) rfl rfl (Nat.le_of_ble_eq_true rfl) dX3_limit_2 (fun H1 locs1 hP hD hS => ?_)
  have hP : va_P D vwCl (wM cm b n (cm_set_th M 0)) H1 := hP
  have hD : va_D A (wM cm b n (cm_set_th M 0)) := hD
  refine lv_iload_n hx hb dX3_limit_5 rfl (lv_at hl 1 rfl) ?_
  refine iz_lt (tgt := 14) hx hb dX3_limit_6 (by decide) (fun h_2 => ?_) (fun h_2 => ?_)
  · refine lv_iconst (v := (-1)) hx hb dX3_limit_14 (by decide) ?_
    exact W.iret (v := (-1)) hx hb hr (fun t ht hW => ⟨⟨(-1), (cm_set_th M 0), rfl, ⟨(by first | rfl | (simp only [rmLim, gmLim, Option.elim_none, Option.map_none, if_pos h_2, ix_neg h_2] <;> rfl)), (by first | rfl | (simp only [rmLim, gmLim, Option.elim_none, Option.map_none, if_pos h_2, ix_neg h_2] <;> rfl))⟩, by rw [ht]; exact hP, va_K.moved hW.alike hK, hD⟩, hS.F ht⟩) hS.2.2 dX3_limit_15
  · refine lv_iload_n hx hb dX3_limit_9 rfl (lv_at hl 1 rfl) ?_
    refine lv_iconst (v := 5) hx hb dX3_limit_10 (by decide) ?_
    refine ib_le (tgt := 16) hx hb dX3_limit_11 (by decide) (fun h_3 => ?_) (fun h_3 => ?_)
    · obtain ⟨j, hj, rfl⟩ := ix_of (n := 6) (by omega) h_2 (ix_le5 h_3)
      have e_ix := ix_at (n := 6) (by omega) hj
      refine lv_lload_n hx hb dX3_limit_16 rfl (lv_at hl 2 rfl) ?_
      refine lv_ldc2 hx hb hown (hts (.constantLong RX3 100 (-1000)) (by decide +kernel)) dX3_limit_17 ?_
      refine il_lt (tgt := 43) hx hb dX3_limit_20 dX3_limit_21 (by decide) (fun h_4 => ?_) (fun h_4 => ?_)
      · refine lv_bipush (v := (-2)) hx hb dX3_limit_43 (by decide) ?_
        exact W.iret (v := (-2)) hx hb hr (fun t ht hW => ⟨⟨(-2), (cm_set_th M 0), rfl, ⟨(by first | rfl | (simp only [rmLim, gmLim, Option.elim_none, Option.map_none, if_neg h_2, if_neg h_3, e_ix, Option.elim_some, if_pos h_4] <;> rfl)), (by first | rfl | (simp only [rmLim, gmLim, Option.elim_none, Option.map_none, if_neg h_2, if_neg h_3, e_ix, Option.elim_some, if_pos h_4] <;> rfl))⟩, by rw [ht]; exact hP, va_K.moved hW.alike hK, hD⟩, hS.F ht⟩) hS.2.2 dX3_limit_45
      · refine lv_lload_n hx hb dX3_limit_24 rfl (lv_at hl 2 rfl) ?_
        refine lv_ldc2 hx hb hown (hts (.constantLong RX3 140 (1000000)) (by decide +kernel)) dX3_limit_25 ?_
        refine il_gt (tgt := 43) hx hb dX3_limit_28 dX3_limit_29 (by decide) (fun h_5 => ?_) (fun h_5 => ?_)
        · refine lv_bipush (v := (-2)) hx hb dX3_limit_43 (by decide) ?_
          exact W.iret (v := (-2)) hx hb hr (fun t ht hW => ⟨⟨(-2), (cm_set_th M 0), rfl, ⟨(by first | rfl | (simp only [rmLim, gmLim, Option.elim_none, Option.map_none, if_neg h_2, if_neg h_3, e_ix, Option.elim_some, if_neg h_4, if_pos h_5] <;> rfl)), (by first | rfl | (simp only [rmLim, gmLim, Option.elim_none, Option.map_none, if_neg h_2, if_neg h_3, e_ix, Option.elim_some, if_neg h_4, if_pos h_5] <;> rfl))⟩, by rw [ht]; exact hP, va_K.moved hW.alike hK, hD⟩, hS.F ht⟩) hS.2.2 dX3_limit_45
        · refine lv_iload_n hx hb dX3_limit_32 rfl (lv_at hl 1 rfl) ?_
          refine lv_iconst (v := 5) hx hb dX3_limit_33 (by decide) ?_
          refine ib_ne (tgt := 46) hx hb dX3_limit_34 (by decide) (fun h_6 => ?_) (fun h_6 => ?_)
          · refine lv_aload_n hx hb dX3_limit_46 rfl (lv_at hl 0 rfl) ?_
            refine va_get (D := D) (ci := 4) (v := .ref (b 7)) (C := RX3) (T := TX3) (N := 20) hx hb hts iX3_limit_X3 hown hK hP 0 rfl rfl 8 (by decide) (hts (.fieldLink RX3 43 "CellRows2Model" "limits" "[J") (by decide +kernel)) (fun _ h9 => h9) rfl dX3_limit_47 ?_
            refine lv_iload_n hx hb dX3_limit_50 rfl (lv_at hl 1 rfl) ?_
            refine lv_lload_n hx hb dX3_limit_51 rfl (lv_at hl 2 rfl) ?_
            refine rs_l (f := (cm_lim M)) hx hb hK hP hD hS 7 6 rfl rfl j rfl (by omega) (Nat.le_of_ble_eq_true rfl) dX3_limit_52 (fun H7 locs7 hP hD hS => ?_)
            have hP : va_P D vwCl (wM cm b n (cm_set_lim (cm_set_th M 0) (va_up (cm_lim M) j v))) H7 := hP
            have hD : va_D A (wM cm b n (cm_set_lim (cm_set_th M 0) (va_up (cm_lim M) j v))) := hD
            refine lv_iconst (v := 1) hx hb dX3_limit_53 (by decide) ?_
            exact W.iret (v := 1) hx hb hr (fun t ht hW => ⟨⟨1, (cm_set_lim (cm_set_th M 0) (va_up (cm_lim M) j v)), rfl, ⟨(by first | rfl | (simp only [rmLim, gmLim, Option.elim_none, Option.map_none, if_neg h_2, if_neg h_3, e_ix, Option.elim_some, if_neg h_4, if_neg h_5, if_neg h_6] <;> rfl)), (by first | rfl | (simp only [rmLim, gmLim, Option.elim_none, Option.map_none, if_neg h_2, if_neg h_3, e_ix, Option.elim_some, if_neg h_4, if_neg h_5, if_neg h_6] <;> rfl))⟩, by rw [ht]; exact hP, va_K.moved hW.alike hK, hD⟩, hS.F ht⟩) hS.2.2 dX3_limit_54
          · refine lv_lload_n hx hb dX3_limit_37 rfl (lv_at hl 2 rfl) ?_
            refine lv_lconst (v := 0) hx hb dX3_limit_38 (by decide) ?_
            refine il_ge (tgt := 46) hx hb dX3_limit_39 dX3_limit_40 (by decide) (fun h_8 => ?_) (fun h_8 => ?_)
            · refine lv_aload_n hx hb dX3_limit_46 rfl (lv_at hl 0 rfl) ?_
              refine va_get (D := D) (ci := 4) (v := .ref (b 7)) (C := RX3) (T := TX3) (N := 20) hx hb hts iX3_limit_X3 hown hK hP 0 rfl rfl 8 (by decide) (hts (.fieldLink RX3 43 "CellRows2Model" "limits" "[J") (by decide +kernel)) (fun _ h9 => h9) rfl dX3_limit_47 ?_
              refine lv_iload_n hx hb dX3_limit_50 rfl (lv_at hl 1 rfl) ?_
              refine lv_lload_n hx hb dX3_limit_51 rfl (lv_at hl 2 rfl) ?_
              refine rs_l (f := (cm_lim M)) hx hb hK hP hD hS 7 6 rfl rfl j rfl (by omega) (Nat.le_of_ble_eq_true rfl) dX3_limit_52 (fun H9 locs9 hP hD hS => ?_)
              have hP : va_P D vwCl (wM cm b n (cm_set_lim (cm_set_th M 0) (va_up (cm_lim M) j v))) H9 := hP
              have hD : va_D A (wM cm b n (cm_set_lim (cm_set_th M 0) (va_up (cm_lim M) j v))) := hD
              refine lv_iconst (v := 1) hx hb dX3_limit_53 (by decide) ?_
              exact W.iret (v := 1) hx hb hr (fun t ht hW => ⟨⟨1, (cm_set_lim (cm_set_th M 0) (va_up (cm_lim M) j v)), rfl, ⟨(by first | rfl | (simp only [rmLim, gmLim, Option.elim_none, Option.map_none, if_neg h_2, if_neg h_3, e_ix, Option.elim_some, if_neg h_4, if_neg h_5, if_pos h_6, if_neg h_8] <;> rfl)), (by first | rfl | (simp only [rmLim, gmLim, Option.elim_none, Option.map_none, if_neg h_2, if_neg h_3, e_ix, Option.elim_some, if_neg h_4, if_neg h_5, if_pos h_6, if_neg h_8] <;> rfl))⟩, by rw [ht]; exact hP, va_K.moved hW.alike hK, hD⟩, hS.F ht⟩) hS.2.2 dX3_limit_54
            · refine lv_bipush (v := (-2)) hx hb dX3_limit_43 (by decide) ?_
              exact W.iret (v := (-2)) hx hb hr (fun t ht hW => ⟨⟨(-2), (cm_set_th M 0), rfl, ⟨(by first | rfl | (simp only [rmLim, gmLim, Option.elim_none, Option.map_none, if_neg h_2, if_neg h_3, e_ix, Option.elim_some, if_neg h_4, if_neg h_5, if_pos h_6, if_pos h_8] <;> rfl)), (by first | rfl | (simp only [rmLim, gmLim, Option.elim_none, Option.map_none, if_neg h_2, if_neg h_3, e_ix, Option.elim_some, if_neg h_4, if_neg h_5, if_pos h_6, if_pos h_8] <;> rfl))⟩, by rw [ht]; exact hP, va_K.moved hW.alike hK, hD⟩, hS.F ht⟩) hS.2.2 dX3_limit_45
    · refine lv_iconst (v := (-1)) hx hb dX3_limit_14 (by decide) ?_
      exact W.iret (v := (-1)) hx hb hr (fun t ht hW => ⟨⟨(-1), (cm_set_th M 0), rfl, ⟨(by first | rfl | (simp only [rmLim, gmLim, Option.elim_none, Option.map_none, if_neg h_2, if_pos h_3, ix_gt5 h_3] <;> rfl)), (by first | rfl | (simp only [rmLim, gmLim, Option.elim_none, Option.map_none, if_neg h_2, if_pos h_3, ix_gt5 h_3] <;> rfl))⟩, by rw [ht]; exact hP, va_K.moved hW.alike hK, hD⟩, hS.F ht⟩) hS.2.2 dX3_limit_15
set_option maxRecDepth 20000 in
theorem iX3_weakest_X3 : ∀ w ∈ wsX30, w ∈ wsX3_weakest := by decide +kernel
set_option maxHeartbeats 1000000 in
set_option maxRecDepth 100000 in
theorem kX3_weakest (l : Launch) (D : va_G) (cm : Nat → ClassId) (b : Nat → Nat) (n : Nat) (M : MS) (sz : Nat) (h1 : 1 ≤ n) (hn : n ≤ 24) : Met l yX3_weakest wsX3_weakest ({ frames := 0, cells := 0, slots := 0, locals := 0 }) (va_Pc [.ref (b 0)] (pM D cm b n M sz)) (va_Qi (fun r (u : MS) => r = nI (mWk (cm_ch M) (n - 1)) ∧ u = cm_set_th M 0) (eM D cm b n (va_A (wM cm b n M) sz)) (va_A (wM cm b n M) sz)) 0 0 (va_A (wM cm b n M) sz) := by
  refine Met.ofW (cc := cX3_weakest) (maxL := 3) (ret := (some .int)) (by decide) rfl ?_
  intro p e s m args below meth c s₁ B hml hv
  obtain ⟨rfl, hsz, hP, hK, hD0⟩ := hv
  have hx := B.exec
  have hb := B.bytes
  have hr := B.returns
  have hts := atoms_spec (ws := wsX3_weakest) B.pre
  have hown : s.vm.findClass RX3 = some m.cls := findClass_of_methodNamed B.named
  have hlocks := B.notSynchronized
  subst hsz
  have hD := hD0.self (sz := s.heap.size)
  generalize hAe : va_A (wM cm b n M) s.heap.size = A at hD ⊢
  have hA : ∀ q : Nat, s.heap.size ≤ q → A q := fun q h => by rw [← hAe]; exact Or.inr h
  have hS : va_S A s.heap s.heap [] := va_S.rf
  have hl := lv_entry ([.ref (b 0)]) (n := 3) (Nat.le_of_ble_eq_true rfl)
  rw [lg_entry_eq]
  generalize (lg_sl ([.ref (b 0)]) ++ List.replicate (3 - (lg_sl ([.ref (b 0)])).length) Slot.unset).toArray = ls at hl ⊢
  have hl : lv_has ls 3 [(0, .ref (b 0))] := hl
  refine lv_aload_n hx hb dX3_weakest_0 rfl (lv_at hl 0 rfl) ?_
  refine lv_iconst (v := 0) hx hb dX3_weakest_1 (by decide) ?_
  refine va_put (D := D) (ci := 4) (v := .int 0) (ty := .int) (C := RX3) (T := TX3) (N := 20) hx hb hts iX3_weakest_X3 tyX3 tyX3_ok nmX3 hown hK hP hD hS 0 rfl rfl 0 (by decide) (hts (.fieldLink RX3 73 "CellRows2Model" "thrown" "I") (by decide +kernel)) (fun _ h9 => h9) rfl (by decide +kernel) rfl rfl (Nat.le_of_ble_eq_true rfl) dX3_weakest_2 (fun H1 locs1 hP hD hS => ?_)
  have hP : va_P D vwCl (wM cm b n (cm_set_th M 0)) H1 := hP
  have hD : va_D A (wM cm b n (cm_set_th M 0)) := hD
  refine lv_iconst (v := 0) hx hb dX3_weakest_5 (by decide) ?_
  refine lv_istore_n (lv' := [(1, .int 0), (0, .ref (b 0))]) hx hb dX3_weakest_6 rfl hl (by decide) rfl (fun ls hl => ?_)
  refine lv_iconst (v := 1) hx hb dX3_weakest_7 (by decide) ?_
  refine lv_istore_n (lv' := [(2, .int 1), (1, .int 0), (0, .ref (b 0))]) hx hb dX3_weakest_8 rfl hl (by decide) rfl (fun ls hl => ?_)
  refine W.loop (α := Nat × Array Slot) (g := fun v9 => F0 m 9 v9.2 []) (fun k9 v9 => v9.1 + 1 + k9 = n ∧ lv_has v9.2 3 [(0, .ref (b 0)), (1, .int (nI (mWk (cm_ch M) v9.1))), (2, .int (nI (v9.1 + 1)))]) ?_ ?_ (n - 1) (0, ls) ⟨by omega, lv_sub hl [2, 1, 0] rfl⟩
  · rintro ⟨z, ls⟩ ⟨h9, hl⟩
    have h9 : z + 1 + 0 = n := h9
    have e9 : z = n - 1 := by omega
    have hl : lv_has ls 3 [(0, .ref (b 0)), (1, .int (nI (mWk (cm_ch M) z))), (2, .int (nI (z + 1)))] := hl
    rw [e9] at hl
    have hl : lv_has ls 3 [(0, .ref (b 0)), (1, .int (nI (mWk (cm_ch M) (n - 1)))), (2, .int (nI ((n - 1) + 1)))] := hl
    refine lv_iload_n hx hb dX3_weakest_9 rfl (lv_at hl 2 rfl) ?_
    refine lv_aload_n hx hb dX3_weakest_10 rfl (lv_at hl 0 rfl) ?_
    refine va_get (D := D) (ci := 4) (v := .int (nI n)) (C := RX3) (T := TX3) (N := 20) hx hb hts iX3_weakest_X3 hown hK hP 0 rfl rfl 1 (by decide) (hts (.fieldLink RX3 61 "CellRows2Model" "cells" "I") (by decide +kernel)) (fun _ h9 => h9) rfl dX3_weakest_11 ?_
    refine ib_ge (tgt := 45) hx hb dX3_weakest_14 (by decide) (fun h_3 => ?_) (fun h_3 => ?_)
    · refine lv_iload_n hx hb dX3_weakest_45 rfl (lv_at hl 1 rfl) ?_
      exact W.iret (v := nI (mWk (cm_ch M) (n - 1))) hx hb hr (fun t ht hW => ⟨⟨nI (mWk (cm_ch M) (n - 1)), (cm_set_th M 0), rfl, ⟨rfl, rfl⟩, by rw [ht]; exact hP, va_K.moved hW.alike hK, hD⟩, hS.F ht⟩) hS.2.2 dX3_weakest_46
    · exact absurd h_3 (nI_nlt (a := n - 1 + 1) (b := n) (by omega) (by omega))
  · rintro k9 ih ⟨z, ls⟩ ⟨h9, hl⟩
    have h9 : z + 1 + (k9 + 1) = n := h9
    have hw9 := mWk_le (cm_ch M) z
    have hl : lv_has ls 3 [(0, .ref (b 0)), (1, .int (nI (mWk (cm_ch M) z))), (2, .int (nI (z + 1)))] := hl
    refine lv_iload_n hx hb dX3_weakest_9 rfl (lv_at hl 2 rfl) ?_
    refine lv_aload_n hx hb dX3_weakest_10 rfl (lv_at hl 0 rfl) ?_
    refine va_get (D := D) (ci := 4) (v := .int (nI n)) (C := RX3) (T := TX3) (N := 20) hx hb hts iX3_weakest_X3 hown hK hP 0 rfl rfl 1 (by decide) (hts (.fieldLink RX3 61 "CellRows2Model" "cells" "I") (by decide +kernel)) (fun _ h9 => h9) rfl dX3_weakest_11 ?_
    refine ib_ge (tgt := 45) hx hb dX3_weakest_14 (by decide) (fun h_4 => ?_) (fun h_4 => ?_)
    · exact absurd (nI_lt (a := z + 1) (b := n) (by omega) (by omega)) h_4
    · refine lv_aload_n hx hb dX3_weakest_17 rfl (lv_at hl 0 rfl) ?_
      refine va_get (D := D) (ci := 4) (v := .ref (b 1)) (C := RX3) (T := TX3) (N := 20) hx hb hts iX3_weakest_X3 hown hK hP 0 rfl rfl 2 (by decide) (hts (.fieldLink RX3 7 "CellRows2Model" "charges" "[J") (by decide +kernel)) (fun _ h9 => h9) rfl dX3_weakest_18 ?_
      refine lv_iload_n hx hb dX3_weakest_21 rfl (lv_at hl 2 rfl) ?_
      refine ra_l (f := (cm_ch M)) hx hb hK hP 1 0 rfl rfl (z + 1) rfl (by omega) (Nat.le_of_ble_eq_true rfl) dX3_weakest_22 ?_
      refine lv_aload_n hx hb dX3_weakest_23 rfl (lv_at hl 0 rfl) ?_
      refine va_get (D := D) (ci := 4) (v := .ref (b 1)) (C := RX3) (T := TX3) (N := 20) hx hb hts iX3_weakest_X3 hown hK hP 0 rfl rfl 2 (by decide) (hts (.fieldLink RX3 7 "CellRows2Model" "charges" "[J") (by decide +kernel)) (fun _ h9 => h9) rfl dX3_weakest_24 ?_
      refine lv_iload_n hx hb dX3_weakest_27 rfl (lv_at hl 1 rfl) ?_
      refine ra_l (f := (cm_ch M)) hx hb hK hP 1 0 rfl rfl (mWk (cm_ch M) z) rfl (by omega) (Nat.le_of_ble_eq_true rfl) dX3_weakest_28 ?_
      refine W.join (P := fun v9 : Int32 => v9 = nI (mWk (cm_ch M) (z + 1))) (g := fun v9 => F0 m 38 ls [.int v9]) (fun v5 hv5 => ?_) (fun J5 => ?_)
      · subst hv5
        refine lv_istore_n (lv' := [(1, .int (nI (mWk (cm_ch M) (z + 1)))), (0, .ref (b 0)), (2, .int (nI (z + 1)))]) hx hb dX3_weakest_38 rfl hl (by decide) rfl (fun ls hl => ?_)
        refine lv_iinc (v := nI (z + 1 + 1)) (lv' := [(2, .int (nI (z + 1 + 1))), (1, .int (nI (mWk (cm_ch M) (z + 1)))), (0, .ref (b 0))]) hx hb dX3_weakest_39 hl (k := 2) rfl (nI_1 (z + 1)) (by decide) rfl (fun ls hl => ?_)
        refine lv_goto (tgt := 9) hx hb dX3_weakest_42 (by decide) ?_
        exact ih ((z + 1), ls) ⟨by show z + 1 + 1 + k9 = n; omega, lv_sub hl [2, 1, 0] rfl⟩
      · refine il_ge (tgt := 37) hx hb dX3_weakest_29 dX3_weakest_30 (by decide) (fun h_6 => ?_) (fun h_6 => ?_)
        · refine lv_iload_n hx hb dX3_weakest_37 rfl (lv_at hl 1 rfl) ?_
          exact J5 _ (by simp only [mWk, if_neg h_6])
        · refine lv_iload_n hx hb dX3_weakest_33 rfl (lv_at hl 2 rfl) ?_
          refine lv_goto (tgt := 38) hx hb dX3_weakest_34 (by decide) ?_
          exact J5 _ (by simp only [mWk, if_pos h_6])
set_option maxRecDepth 20000 in
theorem iX3_insulate_X3 : ∀ w ∈ wsX30, w ∈ wsX3_insulate := by decide +kernel
set_option maxHeartbeats 1000000 in
set_option maxRecDepth 100000 in
theorem kX3_insulate (l : Launch) (D : va_G) (cm : Nat → ClassId) (b : Nat → Nat) (n : Nat) (M : MS) (sz : Nat) (v : Int64) (hf : cm_fc M < 2048) : Met l yX3_insulate wsX3_insulate ({ frames := 1, cells := 0, slots := 0, locals := 21 }) (va_Pc [.ref (b 0), .long v] (pM D cm b n M sz)) (va_Qi (fun r (u : MS) => r = rIns v ∧ u = cm_set_th (gmIns M v) 0) (eM D cm b n (va_A (wM cm b n M) sz)) (va_A (wM cm b n M) sz)) 0 0 (va_A (wM cm b n M) sz) := by
  refine Met.ofW (cc := cX3_insulate) (maxL := 3) (ret := (some .int)) (by decide) rfl ?_
  intro p e s m args below meth c s₁ B hml hv
  obtain ⟨rfl, hsz, hP, hK, hD0⟩ := hv
  have hx := B.exec
  have hb := B.bytes
  have hr := B.returns
  have hts := atoms_spec (ws := wsX3_insulate) B.pre
  have hown : s.vm.findClass RX3 = some m.cls := findClass_of_methodNamed B.named
  have hlocks := B.notSynchronized
  subst hsz
  have hD := hD0.self (sz := s.heap.size)
  generalize hAe : va_A (wM cm b n M) s.heap.size = A at hD ⊢
  have hA : ∀ q : Nat, s.heap.size ≤ q → A q := fun q h => by rw [← hAe]; exact Or.inr h
  have hS : va_S A s.heap s.heap [] := va_S.rf
  have hl := lv_entry ([.ref (b 0), .long v]) (n := 3) (Nat.le_of_ble_eq_true rfl)
  rw [lg_entry_eq]
  generalize (lg_sl ([.ref (b 0), .long v]) ++ List.replicate (3 - (lg_sl ([.ref (b 0), .long v])).length) Slot.unset).toArray = ls at hl ⊢
  have hl : lv_has ls 3 [(0, .ref (b 0)), (1, .long v)] := hl
  refine lv_aload_n hx hb dX3_insulate_0 rfl (lv_at hl 0 rfl) ?_
  refine lv_iconst (v := 0) hx hb dX3_insulate_1 (by decide) ?_
  refine va_put (D := D) (ci := 4) (v := .int 0) (ty := .int) (C := RX3) (T := TX3) (N := 20) hx hb hts iX3_insulate_X3 tyX3 tyX3_ok nmX3 hown hK hP hD hS 0 rfl rfl 0 (by decide) (hts (.fieldLink RX3 73 "CellRows2Model" "thrown" "I") (by decide +kernel)) (fun _ h9 => h9) rfl (by decide +kernel) rfl rfl (Nat.le_of_ble_eq_true rfl) dX3_insulate_2 (fun H1 locs1 hP hD hS => ?_)
  have hP : va_P D vwCl (wM cm b n (cm_set_th M 0)) H1 := hP
  have hD : va_D A (wM cm b n (cm_set_th M 0)) := hD
  refine lv_lload_n hx hb dX3_insulate_5 rfl (lv_at hl 1 rfl) ?_
  refine lv_lconst (v := 0) hx hb dX3_insulate_6 (by decide) ?_
  refine il_ge (tgt := 14) hx hb dX3_insulate_7 dX3_insulate_8 (by decide) (fun h_2 => ?_) (fun h_2 => ?_)
  · refine lv_lload_n hx hb dX3_insulate_14 rfl (lv_at hl 1 rfl) ?_
    refine lv_ldc2 hx hb hown (hts (.constantLong RX3 142 (100)) (by decide +kernel)) dX3_insulate_15 ?_
    refine il_ge (tgt := 29) hx hb dX3_insulate_18 dX3_insulate_19 (by decide) (fun h_3 => ?_) (fun h_3 => ?_)
    · refine lv_iconst (v := 1) hx hb dX3_insulate_29 (by decide) ?_
      exact W.iret (v := 1) hx hb hr (fun t ht hW => ⟨⟨1, (cm_set_th M 0), rfl, ⟨(by first | rfl | (simp only [rIns, gmIns, if_neg h_2, if_neg h_3] <;> rfl)), (by first | rfl | (simp only [rIns, gmIns, if_neg h_2, if_neg h_3] <;> rfl))⟩, by rw [ht]; exact hP, va_K.moved hW.alike hK, hD⟩, hS.F ht⟩) hS.2.2 dX3_insulate_30
    · refine lv_aload_n hx hb dX3_insulate_22 rfl (lv_at hl 0 rfl) ?_
      refine lv_iconst (v := 5) hx hb dX3_insulate_23 (by decide) ?_
      have hSo := hS
      refine va_callv (va_runV (As := [.int 5]) (rest := []) ⟨hx, hb, hml, hown, hts⟩ (kX3_fails l D cm b n (cm_set_th M 0) H1.size 5 (by first | assumption | omega)) (cwV 1 hts gX3_insulate_X3_fails rfl rfl rfl (by decide +kernel) ⟨Nat.le_of_ble_eq_true rfl, Nat.le_of_ble_eq_true rfl⟩) ⟨pM_blind, va_recv hK hP (ci := 4) (q0 := 0) rfl rfl, fun U hU hW => ⟨rfl, pM_mk hP hK hD hU hW⟩⟩ rfl rfl hl.1 rfl (lv_room (Nat.le_of_ble_eq_true rfl)) dX3_insulate_24 ⟨Nat.le_of_ble_eq_true rfl, Nat.le_of_ble_eq_true rfl⟩) hS (fun q _ h => freeAll hD hS hA q h) (freeAll hD hS hA) (fun u4 t4 H4 locs4 ht hvm hw hB hz1 hk1 hS => ?_)
      obtain ⟨hP1, hK1, hD1⟩ := hB
      rw [ht] at hP1
      have hK := va_K.moved hvm.symm hK1
      obtain rfl : u4 = mNote (cm_set_th M 0) 5 := hw
      have hD := hD1.weaken (fun _ q _ h => freeAll hD hSo hA q.1 h)
      have hP := hP1
      refine lv_iconst (v := 0) hx hb dX3_insulate_27 (by decide) ?_
      exact W.iret (v := 0) hx hb hr (fun t ht hW => ⟨⟨0, mNote (cm_set_th M 0) 5, rfl, ⟨(by first | rfl | (simp only [rIns, gmIns, if_neg h_2, if_pos h_3] <;> rfl)), (by first | rfl | (simp only [rIns, gmIns, if_neg h_2, if_pos h_3] <;> rfl))⟩, by rw [ht]; exact hP, va_K.moved hW.alike hK, hD⟩, hS.F ht⟩) hS.2.2 dX3_insulate_28
  · refine lv_bipush (v := (-2)) hx hb dX3_insulate_11 (by decide) ?_
    exact W.iret (v := (-2)) hx hb hr (fun t ht hW => ⟨⟨(-2), (cm_set_th M 0), rfl, ⟨(by first | rfl | (simp only [rIns, gmIns, if_pos h_2] <;> rfl)), (by first | rfl | (simp only [rIns, gmIns, if_pos h_2] <;> rfl))⟩, by rw [ht]; exact hP, va_K.moved hW.alike hK, hD⟩, hS.F ht⟩) hS.2.2 dX3_insulate_13
set_option maxRecDepth 20000 in
theorem iX3_stuck_X3 : ∀ w ∈ wsX30, w ∈ wsX3_stuck := by decide +kernel
set_option maxHeartbeats 1000000 in
set_option maxRecDepth 100000 in
theorem kX3_stuck (l : Launch) (D : va_G) (cm : Nat → ClassId) (b : Nat → Nat) (n : Nat) (M : MS) (sz : Nat) (p0 : Int32) : Met l yX3_stuck wsX3_stuck ({ frames := 0, cells := 0, slots := 0, locals := 0 }) (va_Pc [.ref (b 0), .int p0] (pM D cm b n M sz)) (va_Qi (fun r (u : MS) => r = rmStu M p0 ∧ u = cm_set_th (gmStu M p0) 0) (eM D cm b n (va_A (wM cm b n M) sz)) (va_A (wM cm b n M) sz)) 0 0 (va_A (wM cm b n M) sz) := by
  refine Met.ofW (cc := cX3_stuck) (maxL := 2) (ret := (some .int)) (by decide) rfl ?_
  intro p e s m args below meth c s₁ B hml hv
  obtain ⟨rfl, hsz, hP, hK, hD0⟩ := hv
  have hx := B.exec
  have hb := B.bytes
  have hr := B.returns
  have hts := atoms_spec (ws := wsX3_stuck) B.pre
  have hown : s.vm.findClass RX3 = some m.cls := findClass_of_methodNamed B.named
  have hlocks := B.notSynchronized
  subst hsz
  have hD := hD0.self (sz := s.heap.size)
  generalize hAe : va_A (wM cm b n M) s.heap.size = A at hD ⊢
  have hA : ∀ q : Nat, s.heap.size ≤ q → A q := fun q h => by rw [← hAe]; exact Or.inr h
  have hS : va_S A s.heap s.heap [] := va_S.rf
  have hl := lv_entry ([.ref (b 0), .int p0]) (n := 2) (Nat.le_of_ble_eq_true rfl)
  rw [lg_entry_eq]
  generalize (lg_sl ([.ref (b 0), .int p0]) ++ List.replicate (2 - (lg_sl ([.ref (b 0), .int p0])).length) Slot.unset).toArray = ls at hl ⊢
  have hl : lv_has ls 2 [(0, .ref (b 0)), (1, .int p0)] := hl
  refine lv_aload_n hx hb dX3_stuck_0 rfl (lv_at hl 0 rfl) ?_
  refine lv_iconst (v := 0) hx hb dX3_stuck_1 (by decide) ?_
  refine va_put (D := D) (ci := 4) (v := .int 0) (ty := .int) (C := RX3) (T := TX3) (N := 20) hx hb hts iX3_stuck_X3 tyX3 tyX3_ok nmX3 hown hK hP hD hS 0 rfl rfl 0 (by decide) (hts (.fieldLink RX3 73 "CellRows2Model" "thrown" "I") (by decide +kernel)) (fun _ h9 => h9) rfl (by decide +kernel) rfl rfl (Nat.le_of_ble_eq_true rfl) dX3_stuck_2 (fun H1 locs1 hP hD hS => ?_)
  have hP : va_P D vwCl (wM cm b n (cm_set_th M 0)) H1 := hP
  have hD : va_D A (wM cm b n (cm_set_th M 0)) := hD
  refine lv_iload_n hx hb dX3_stuck_5 rfl (lv_at hl 1 rfl) ?_
  refine iz_lt (tgt := 14) hx hb dX3_stuck_6 (by decide) (fun h_2 => ?_) (fun h_2 => ?_)
  · refine lv_iconst (v := (-1)) hx hb dX3_stuck_14 (by decide) ?_
    exact W.iret (v := (-1)) hx hb hr (fun t ht hW => ⟨⟨(-1), (cm_set_th M 0), rfl, ⟨(by first | rfl | (simp only [rmStu, gmStu, Option.elim_none, Option.map_none, if_pos h_2, ix_neg h_2] <;> rfl)), (by first | rfl | (simp only [rmStu, gmStu, Option.elim_none, Option.map_none, if_pos h_2, ix_neg h_2] <;> rfl))⟩, by rw [ht]; exact hP, va_K.moved hW.alike hK, hD⟩, hS.F ht⟩) hS.2.2 dX3_stuck_15
  · refine lv_iload_n hx hb dX3_stuck_9 rfl (lv_at hl 1 rfl) ?_
    refine lv_iconst (v := 2) hx hb dX3_stuck_10 (by decide) ?_
    refine ib_le (tgt := 16) hx hb dX3_stuck_11 (by decide) (fun h_3 => ?_) (fun h_3 => ?_)
    · obtain ⟨j, hj, rfl⟩ := ix_of (n := 3) (by omega) h_2 (ix_le2 h_3)
      have e_ix := ix_at (n := 3) (by omega) hj
      refine lv_aload_n hx hb dX3_stuck_16 rfl (lv_at hl 0 rfl) ?_
      refine va_get (D := D) (ci := 4) (v := .ref (b 8)) (C := RX3) (T := TX3) (N := 20) hx hb hts iX3_stuck_X3 hown hK hP 0 rfl rfl 12 (by decide) (hts (.fieldLink RX3 46 "CellRows2Model" "stucks" "[Z") (by decide +kernel)) (fun _ h9 => h9) rfl dX3_stuck_17 ?_
      refine lv_iload_n hx hb dX3_stuck_20 rfl (lv_at hl 1 rfl) ?_
      refine lv_aload_n hx hb dX3_stuck_21 rfl (lv_at hl 0 rfl) ?_
      refine va_get (D := D) (ci := 4) (v := .ref (b 8)) (C := RX3) (T := TX3) (N := 20) hx hb hts iX3_stuck_X3 hown hK hP 0 rfl rfl 12 (by decide) (hts (.fieldLink RX3 46 "CellRows2Model" "stucks" "[Z") (by decide +kernel)) (fun _ h9 => h9) rfl dX3_stuck_22 ?_
      refine lv_iload_n hx hb dX3_stuck_25 rfl (lv_at hl 1 rfl) ?_
      refine ra_z (f := (cm_stk M)) hx hb hK hP 8 7 rfl rfl j rfl (by omega) (Nat.le_of_ble_eq_true rfl) dX3_stuck_26 ?_
      refine W.join (P := fun v9 : Int32 => v9 = if (cm_stk M) j = 0 then 1 else 0) (g := fun v9 => F0 m 35 ls [.int v9, .int (nI j), .ref (b 8)]) (fun v4 hv4 => ?_) (fun J4 => ?_)
      · subst hv4
        refine rs_z (f := (cm_stk M)) hx hb hK hP hD hS 8 7 rfl rfl i01 j rfl (by omega) (Nat.le_of_ble_eq_true rfl) dX3_stuck_35 (fun H6 locs6 hP hD hS => ?_)
        have hP : va_P D vwCl (wM cm b n (cm_set_stk (cm_set_th M 0) (va_up (cm_stk M) j (if (cm_stk M) j = 0 then 1 else 0)))) H6 := hP
        have hD : va_D A (wM cm b n (cm_set_stk (cm_set_th M 0) (va_up (cm_stk M) j (if (cm_stk M) j = 0 then 1 else 0)))) := hD
        refine lv_aload_n hx hb dX3_stuck_36 rfl (lv_at hl 0 rfl) ?_
        refine va_get (D := D) (ci := 4) (v := .ref (b 8)) (C := RX3) (T := TX3) (N := 20) hx hb hts iX3_stuck_X3 hown hK hP 0 rfl rfl 12 (by decide) (hts (.fieldLink RX3 46 "CellRows2Model" "stucks" "[Z") (by decide +kernel)) (fun _ h9 => h9) rfl dX3_stuck_37 ?_
        refine lv_iload_n hx hb dX3_stuck_40 rfl (lv_at hl 1 rfl) ?_
        refine ra_z (f := (va_up (cm_stk M) j (if (cm_stk M) j = 0 then 1 else 0))) hx hb hK hP 8 7 rfl rfl j rfl (by omega) (Nat.le_of_ble_eq_true rfl) dX3_stuck_41 ?_
        refine iz_eq (tgt := 49) hx hb dX3_stuck_42 (by decide) (fun h_7 => ?_) (fun h_7 => ?_)
        · refine lv_iconst (v := 0) hx hb dX3_stuck_49 (by decide) ?_
          exact W.iret (v := 0) hx hb hr (fun t ht hW => ⟨⟨0, (cm_set_stk (cm_set_th M 0) (va_up (cm_stk M) j (if (cm_stk M) j = 0 then 1 else 0))), rfl, ⟨(by first | rfl | (simp only [rmStu, gmStu, Option.elim_none, Option.map_none, if_neg h_2, if_neg h_3, e_ix, Option.elim_some, if_pos h_7] <;> rfl)), (by first | rfl | (simp only [rmStu, gmStu, Option.elim_none, Option.map_none, if_neg h_2, if_neg h_3, e_ix, Option.elim_some, if_pos h_7] <;> rfl))⟩, by rw [ht]; exact hP, va_K.moved hW.alike hK, hD⟩, hS.F ht⟩) hS.2.2 dX3_stuck_50
        · refine lv_iconst (v := 1) hx hb dX3_stuck_45 (by decide) ?_
          refine lv_goto (tgt := 50) hx hb dX3_stuck_46 (by decide) ?_
          exact W.iret (v := 1) hx hb hr (fun t ht hW => ⟨⟨1, (cm_set_stk (cm_set_th M 0) (va_up (cm_stk M) j (if (cm_stk M) j = 0 then 1 else 0))), rfl, ⟨(by first | rfl | (simp only [rmStu, gmStu, Option.elim_none, Option.map_none, if_neg h_2, if_neg h_3, e_ix, Option.elim_some, if_neg h_7] <;> rfl)), (by first | rfl | (simp only [rmStu, gmStu, Option.elim_none, Option.map_none, if_neg h_2, if_neg h_3, e_ix, Option.elim_some, if_neg h_7] <;> rfl))⟩, by rw [ht]; exact hP, va_K.moved hW.alike hK, hD⟩, hS.F ht⟩) hS.2.2 dX3_stuck_50
      · refine iz_ne (tgt := 34) hx hb dX3_stuck_27 (by decide) (fun h_5 => ?_) (fun h_5 => ?_)
        · refine lv_iconst (v := 0) hx hb dX3_stuck_34 (by decide) ?_
          exact J4 _ (by simp only [if_neg h_5])
        · refine lv_iconst (v := 1) hx hb dX3_stuck_30 (by decide) ?_
          refine lv_goto (tgt := 35) hx hb dX3_stuck_31 (by decide) ?_
          exact J4 _ (by simp only [if_pos h_5])
    · refine lv_iconst (v := (-1)) hx hb dX3_stuck_14 (by decide) ?_
      exact W.iret (v := (-1)) hx hb hr (fun t ht hW => ⟨⟨(-1), (cm_set_th M 0), rfl, ⟨(by first | rfl | (simp only [rmStu, gmStu, Option.elim_none, Option.map_none, if_neg h_2, if_pos h_3, ix_gt2 h_3] <;> rfl)), (by first | rfl | (simp only [rmStu, gmStu, Option.elim_none, Option.map_none, if_neg h_2, if_pos h_3, ix_gt2 h_3] <;> rfl))⟩, by rw [ht]; exact hP, va_K.moved hW.alike hK, hD⟩, hS.F ht⟩) hS.2.2 dX3_stuck_15
set_option maxRecDepth 20000 in
theorem iX3_cycle_X3 : ∀ w ∈ wsX30, w ∈ wsX3_cycle := by decide +kernel
set_option maxHeartbeats 1000000 in
set_option maxRecDepth 100000 in
theorem kX3_cycle (l : Launch) (D : va_G) (cm : Nat → ClassId) (b : Nat → Nat) (n : Nat) (M : MS) (sz : Nat) (p0 p1 : Int32) (hc : cm_cyc M ≤ 1024) : Met l yX3_cycle wsX3_cycle ({ frames := 0, cells := 0, slots := 0, locals := 0 }) (va_Pc [.ref (b 0), .int p0, .int p1] (pM D cm b n M sz)) (va_Qi (fun r (u : MS) => r = rmCyc M p0 p1 ∧ u = cm_set_th M 0) (eM D cm b n (va_A (wM cm b n M) sz)) (va_A (wM cm b n M) sz)) 0 0 (va_A (wM cm b n M) sz) := by
  refine Met.ofW (cc := cX3_cycle) (maxL := 3) (ret := (some .int)) (by decide) rfl ?_
  intro p e s m args below meth c s₁ B hml hv
  obtain ⟨rfl, hsz, hP, hK, hD0⟩ := hv
  have hx := B.exec
  have hb := B.bytes
  have hr := B.returns
  have hts := atoms_spec (ws := wsX3_cycle) B.pre
  have hown : s.vm.findClass RX3 = some m.cls := findClass_of_methodNamed B.named
  have hlocks := B.notSynchronized
  subst hsz
  have hD := hD0.self (sz := s.heap.size)
  generalize hAe : va_A (wM cm b n M) s.heap.size = A at hD ⊢
  have hA : ∀ q : Nat, s.heap.size ≤ q → A q := fun q h => by rw [← hAe]; exact Or.inr h
  have hS : va_S A s.heap s.heap [] := va_S.rf
  have hl := lv_entry ([.ref (b 0), .int p0, .int p1]) (n := 3) (Nat.le_of_ble_eq_true rfl)
  rw [lg_entry_eq]
  generalize (lg_sl ([.ref (b 0), .int p0, .int p1]) ++ List.replicate (3 - (lg_sl ([.ref (b 0), .int p0, .int p1])).length) Slot.unset).toArray = ls at hl ⊢
  have hl : lv_has ls 3 [(0, .ref (b 0)), (1, .int p0), (2, .int p1)] := hl
  refine lv_aload_n hx hb dX3_cycle_0 rfl (lv_at hl 0 rfl) ?_
  refine lv_iconst (v := 0) hx hb dX3_cycle_1 (by decide) ?_
  refine va_put (D := D) (ci := 4) (v := .int 0) (ty := .int) (C := RX3) (T := TX3) (N := 20) hx hb hts iX3_cycle_X3 tyX3 tyX3_ok nmX3 hown hK hP hD hS 0 rfl rfl 0 (by decide) (hts (.fieldLink RX3 73 "CellRows2Model" "thrown" "I") (by decide +kernel)) (fun _ h9 => h9) rfl (by decide +kernel) rfl rfl (Nat.le_of_ble_eq_true rfl) dX3_cycle_2 (fun H1 locs1 hP hD hS => ?_)
  have hP : va_P D vwCl (wM cm b n (cm_set_th M 0)) H1 := hP
  have hD : va_D A (wM cm b n (cm_set_th M 0)) := hD
  refine lv_iload_n hx hb dX3_cycle_5 rfl (lv_at hl 1 rfl) ?_
  refine lv_iconst (v := (-1)) hx hb dX3_cycle_6 (by decide) ?_
  refine ib_ne (tgt := 19) hx hb dX3_cycle_7 (by decide) (fun h_2 => ?_) (fun h_2 => ?_)
  · refine lv_iload_n hx hb dX3_cycle_19 rfl (lv_at hl 1 rfl) ?_
    refine iz_lt (tgt := 31) hx hb dX3_cycle_20 (by decide) (fun h_3 => ?_) (fun h_3 => ?_)
    · refine lv_iconst (v := (-1)) hx hb dX3_cycle_31 (by decide) ?_
      exact W.iret (v := (-1)) hx hb hr (fun t ht hW => ⟨⟨(-1), (cm_set_th M 0), rfl, ⟨(by first | rfl | (simp only [rmCyc, rmCyc2, Option.elim_none, Option.map_none, if_neg h_2, if_pos h_3, ix_neg h_3] <;> rfl)), (by first | rfl | (simp only [rmCyc, rmCyc2, Option.elim_none, Option.map_none, if_neg h_2, if_pos h_3, ix_neg h_3] <;> rfl))⟩, by rw [ht]; exact hP, va_K.moved hW.alike hK, hD⟩, hS.F ht⟩) hS.2.2 dX3_cycle_32
    · refine lv_iload_n hx hb dX3_cycle_23 rfl (lv_at hl 1 rfl) ?_
      refine lv_aload_n hx hb dX3_cycle_24 rfl (lv_at hl 0 rfl) ?_
      refine va_get (D := D) (ci := 4) (v := .int (nI (cm_cyc M))) (C := RX3) (T := TX3) (N := 20) hx hb hts iX3_cycle_X3 hown hK hP 0 rfl rfl 19 (by decide) (hts (.fieldLink RX3 93 "CellRows2Model" "cycles" "I") (by decide +kernel)) (fun _ h9 => h9) rfl dX3_cycle_25 ?_
      refine ib_lt (tgt := 33) hx hb dX3_cycle_28 (by decide) (fun h_4 => ?_) (fun h_4 => ?_)
      · obtain ⟨j, hj, rfl⟩ := ix_of (n := cm_cyc M) (by omega) h_3 h_4
        have e_ix := ix_at (n := cm_cyc M) (by omega) hj
        refine lv_iload_n hx hb dX3_cycle_33 rfl (lv_at hl 2 rfl) ?_
        refine iz_ne (tgt := 46) hx hb dX3_cycle_34 (by decide) (fun h_5 => ?_) (fun h_5 => ?_)
        · refine lv_iload_n hx hb dX3_cycle_46 rfl (lv_at hl 2 rfl) ?_
          refine lv_iconst (v := 1) hx hb dX3_cycle_47 (by decide) ?_
          refine ib_ne (tgt := 60) hx hb dX3_cycle_48 (by decide) (fun h_6 => ?_) (fun h_6 => ?_)
          · refine lv_bipush (v := (-2)) hx hb dX3_cycle_60 (by decide) ?_
            exact W.iret (v := (-2)) hx hb hr (fun t ht hW => ⟨⟨(-2), (cm_set_th M 0), rfl, ⟨(by first | rfl | (simp only [rmCyc, rmCyc2, Option.elim_none, Option.map_none, if_neg h_2, if_neg h_3, if_pos h_4, e_ix, Option.elim_some, Option.map_some, if_neg h_5, if_neg h_6] <;> rfl)), (by first | rfl | (simp only [rmCyc, rmCyc2, Option.elim_none, Option.map_none, if_neg h_2, if_neg h_3, if_pos h_4, e_ix, Option.elim_some, Option.map_some, if_neg h_5, if_neg h_6] <;> rfl))⟩, by rw [ht]; exact hP, va_K.moved hW.alike hK, hD⟩, hS.F ht⟩) hS.2.2 dX3_cycle_62
          · refine lv_aload_n hx hb dX3_cycle_51 rfl (lv_at hl 0 rfl) ?_
            refine va_get (D := D) (ci := 4) (v := .ref (b 12)) (C := RX3) (T := TX3) (N := 20) hx hb hts iX3_cycle_X3 hown hK hP 0 rfl rfl 18 (by decide) (hts (.fieldLink RX3 58 "CellRows2Model" "lows" "[I") (by decide +kernel)) (fun _ h9 => h9) rfl dX3_cycle_52 ?_
            refine lv_iload_n hx hb dX3_cycle_55 rfl (lv_at hl 1 rfl) ?_
            refine ra_i (f := (cm_low M)) hx hb hK hP 12 11 rfl rfl j rfl (by omega) (Nat.le_of_ble_eq_true rfl) dX3_cycle_56 ?_
            refine lv_goto (tgt := 62) hx hb dX3_cycle_57 (by decide) ?_
            exact W.iret (v := (cm_low M) j) hx hb hr (fun t ht hW => ⟨⟨(cm_low M) j, (cm_set_th M 0), rfl, ⟨(by first | rfl | (simp only [rmCyc, rmCyc2, Option.elim_none, Option.map_none, if_neg h_2, if_neg h_3, if_pos h_4, e_ix, Option.elim_some, Option.map_some, if_neg h_5, if_pos h_6] <;> rfl)), (by first | rfl | (simp only [rmCyc, rmCyc2, Option.elim_none, Option.map_none, if_neg h_2, if_neg h_3, if_pos h_4, e_ix, Option.elim_some, Option.map_some, if_neg h_5, if_pos h_6] <;> rfl))⟩, by rw [ht]; exact hP, va_K.moved hW.alike hK, hD⟩, hS.F ht⟩) hS.2.2 dX3_cycle_62
        · refine lv_aload_n hx hb dX3_cycle_37 rfl (lv_at hl 0 rfl) ?_
          refine va_get (D := D) (ci := 4) (v := .ref (b 11)) (C := RX3) (T := TX3) (N := 20) hx hb hts iX3_cycle_X3 hown hK hP 0 rfl rfl 17 (by decide) (hts (.fieldLink RX3 55 "CellRows2Model" "ranges" "[I") (by decide +kernel)) (fun _ h9 => h9) rfl dX3_cycle_38 ?_
          refine lv_iload_n hx hb dX3_cycle_41 rfl (lv_at hl 1 rfl) ?_
          refine ra_i (f := (cm_rng M)) hx hb hK hP 11 10 rfl rfl j rfl (by omega) (Nat.le_of_ble_eq_true rfl) dX3_cycle_42 ?_
          refine lv_goto (tgt := 62) hx hb dX3_cycle_43 (by decide) ?_
          exact W.iret (v := (cm_rng M) j) hx hb hr (fun t ht hW => ⟨⟨(cm_rng M) j, (cm_set_th M 0), rfl, ⟨(by first | rfl | (simp only [rmCyc, rmCyc2, Option.elim_none, Option.map_none, if_neg h_2, if_neg h_3, if_pos h_4, e_ix, Option.elim_some, Option.map_some, if_pos h_5] <;> rfl)), (by first | rfl | (simp only [rmCyc, rmCyc2, Option.elim_none, Option.map_none, if_neg h_2, if_neg h_3, if_pos h_4, e_ix, Option.elim_some, Option.map_some, if_pos h_5] <;> rfl))⟩, by rw [ht]; exact hP, va_K.moved hW.alike hK, hD⟩, hS.F ht⟩) hS.2.2 dX3_cycle_62
      · refine lv_iconst (v := (-1)) hx hb dX3_cycle_31 (by decide) ?_
        exact W.iret (v := (-1)) hx hb hr (fun t ht hW => ⟨⟨(-1), (cm_set_th M 0), rfl, ⟨(by first | rfl | (simp only [rmCyc, rmCyc2, Option.elim_none, Option.map_none, if_neg h_2, if_neg h_3, if_neg h_4, ix_big h_4] <;> rfl)), (by first | rfl | (simp only [rmCyc, rmCyc2, Option.elim_none, Option.map_none, if_neg h_2, if_neg h_3, if_neg h_4, ix_big h_4] <;> rfl))⟩, by rw [ht]; exact hP, va_K.moved hW.alike hK, hD⟩, hS.F ht⟩) hS.2.2 dX3_cycle_32
  · refine lv_iload_n hx hb dX3_cycle_10 rfl (lv_at hl 2 rfl) ?_
    refine iz_ne (tgt := 19) hx hb dX3_cycle_11 (by decide) (fun h_7 => ?_) (fun h_7 => ?_)
    · refine lv_iload_n hx hb dX3_cycle_19 rfl (lv_at hl 1 rfl) ?_
      refine iz_lt (tgt := 31) hx hb dX3_cycle_20 (by decide) (fun h_8 => ?_) (fun h_8 => ?_)
      · refine lv_iconst (v := (-1)) hx hb dX3_cycle_31 (by decide) ?_
        exact W.iret (v := (-1)) hx hb hr (fun t ht hW => ⟨⟨(-1), (cm_set_th M 0), rfl, ⟨(by first | rfl | (simp only [rmCyc, rmCyc2, Option.elim_none, Option.map_none, if_pos h_2, if_neg h_7, if_pos h_8, ix_neg h_8] <;> rfl)), (by first | rfl | (simp only [rmCyc, rmCyc2, Option.elim_none, Option.map_none, if_pos h_2, if_neg h_7, if_pos h_8, ix_neg h_8] <;> rfl))⟩, by rw [ht]; exact hP, va_K.moved hW.alike hK, hD⟩, hS.F ht⟩) hS.2.2 dX3_cycle_32
      · refine lv_iload_n hx hb dX3_cycle_23 rfl (lv_at hl 1 rfl) ?_
        refine lv_aload_n hx hb dX3_cycle_24 rfl (lv_at hl 0 rfl) ?_
        refine va_get (D := D) (ci := 4) (v := .int (nI (cm_cyc M))) (C := RX3) (T := TX3) (N := 20) hx hb hts iX3_cycle_X3 hown hK hP 0 rfl rfl 19 (by decide) (hts (.fieldLink RX3 93 "CellRows2Model" "cycles" "I") (by decide +kernel)) (fun _ h9 => h9) rfl dX3_cycle_25 ?_
        refine ib_lt (tgt := 33) hx hb dX3_cycle_28 (by decide) (fun h_9 => ?_) (fun h_9 => ?_)
        · obtain ⟨j, hj, rfl⟩ := ix_of (n := cm_cyc M) (by omega) h_8 h_9
          have e_ix := ix_at (n := cm_cyc M) (by omega) hj
          refine lv_iload_n hx hb dX3_cycle_33 rfl (lv_at hl 2 rfl) ?_
          refine iz_ne (tgt := 46) hx hb dX3_cycle_34 (by decide) (fun h_10 => ?_) (fun h_10 => ?_)
          · refine lv_iload_n hx hb dX3_cycle_46 rfl (lv_at hl 2 rfl) ?_
            refine lv_iconst (v := 1) hx hb dX3_cycle_47 (by decide) ?_
            refine ib_ne (tgt := 60) hx hb dX3_cycle_48 (by decide) (fun h_11 => ?_) (fun h_11 => ?_)
            · refine lv_bipush (v := (-2)) hx hb dX3_cycle_60 (by decide) ?_
              exact W.iret (v := (-2)) hx hb hr (fun t ht hW => ⟨⟨(-2), (cm_set_th M 0), rfl, ⟨(by first | rfl | (simp only [rmCyc, rmCyc2, Option.elim_none, Option.map_none, if_pos h_2, if_neg h_7, if_neg h_8, if_pos h_9, e_ix, Option.elim_some, Option.map_some, if_neg h_10, if_neg h_11] <;> rfl)), (by first | rfl | (simp only [rmCyc, rmCyc2, Option.elim_none, Option.map_none, if_pos h_2, if_neg h_7, if_neg h_8, if_pos h_9, e_ix, Option.elim_some, Option.map_some, if_neg h_10, if_neg h_11] <;> rfl))⟩, by rw [ht]; exact hP, va_K.moved hW.alike hK, hD⟩, hS.F ht⟩) hS.2.2 dX3_cycle_62
            · refine lv_aload_n hx hb dX3_cycle_51 rfl (lv_at hl 0 rfl) ?_
              refine va_get (D := D) (ci := 4) (v := .ref (b 12)) (C := RX3) (T := TX3) (N := 20) hx hb hts iX3_cycle_X3 hown hK hP 0 rfl rfl 18 (by decide) (hts (.fieldLink RX3 58 "CellRows2Model" "lows" "[I") (by decide +kernel)) (fun _ h9 => h9) rfl dX3_cycle_52 ?_
              refine lv_iload_n hx hb dX3_cycle_55 rfl (lv_at hl 1 rfl) ?_
              refine ra_i (f := (cm_low M)) hx hb hK hP 12 11 rfl rfl j rfl (by omega) (Nat.le_of_ble_eq_true rfl) dX3_cycle_56 ?_
              refine lv_goto (tgt := 62) hx hb dX3_cycle_57 (by decide) ?_
              exact W.iret (v := (cm_low M) j) hx hb hr (fun t ht hW => ⟨⟨(cm_low M) j, (cm_set_th M 0), rfl, ⟨(by first | rfl | (simp only [rmCyc, rmCyc2, Option.elim_none, Option.map_none, if_pos h_2, if_neg h_7, if_neg h_8, if_pos h_9, e_ix, Option.elim_some, Option.map_some, if_neg h_10, if_pos h_11] <;> rfl)), (by first | rfl | (simp only [rmCyc, rmCyc2, Option.elim_none, Option.map_none, if_pos h_2, if_neg h_7, if_neg h_8, if_pos h_9, e_ix, Option.elim_some, Option.map_some, if_neg h_10, if_pos h_11] <;> rfl))⟩, by rw [ht]; exact hP, va_K.moved hW.alike hK, hD⟩, hS.F ht⟩) hS.2.2 dX3_cycle_62
          · exact absurd h_10 h_7
        · refine lv_iconst (v := (-1)) hx hb dX3_cycle_31 (by decide) ?_
          exact W.iret (v := (-1)) hx hb hr (fun t ht hW => ⟨⟨(-1), (cm_set_th M 0), rfl, ⟨(by first | rfl | (simp only [rmCyc, rmCyc2, Option.elim_none, Option.map_none, if_pos h_2, if_neg h_7, if_neg h_8, if_neg h_9, ix_big h_9] <;> rfl)), (by first | rfl | (simp only [rmCyc, rmCyc2, Option.elim_none, Option.map_none, if_pos h_2, if_neg h_7, if_neg h_8, if_neg h_9, ix_big h_9] <;> rfl))⟩, by rw [ht]; exact hP, va_K.moved hW.alike hK, hD⟩, hS.F ht⟩) hS.2.2 dX3_cycle_32
    · refine lv_aload_n hx hb dX3_cycle_14 rfl (lv_at hl 0 rfl) ?_
      refine va_get (D := D) (ci := 4) (v := .int (nI (cm_cyc M))) (C := RX3) (T := TX3) (N := 20) hx hb hts iX3_cycle_X3 hown hK hP 0 rfl rfl 19 (by decide) (hts (.fieldLink RX3 93 "CellRows2Model" "cycles" "I") (by decide +kernel)) (fun _ h9 => h9) rfl dX3_cycle_15 ?_
      exact W.iret (v := nI (cm_cyc M)) hx hb hr (fun t ht hW => ⟨⟨nI (cm_cyc M), (cm_set_th M 0), rfl, ⟨(by first | rfl | (simp only [rmCyc, rmCyc2, Option.elim_none, Option.map_none, if_pos h_2, if_pos h_7] <;> rfl)), (by first | rfl | (simp only [rmCyc, rmCyc2, Option.elim_none, Option.map_none, if_pos h_2, if_pos h_7] <;> rfl))⟩, by rw [ht]; exact hP, va_K.moved hW.alike hK, hD⟩, hS.F ht⟩) hS.2.2 dX3_cycle_18
set_option maxRecDepth 20000 in
theorem iX3_cool_X3 : ∀ w ∈ wsX30, w ∈ wsX3_cool := by decide +kernel
set_option maxHeartbeats 1000000 in
set_option maxRecDepth 100000 in
theorem kX3_cool (l : Launch) (D : va_G) (cm : Nat → ClassId) (b : Nat → Nat) (n : Nat) (M : MS) (sz : Nat) (h1 : 1 ≤ n) (hn : n ≤ 24) : Met l yX3_cool wsX3_cool ({ frames := 0, cells := 0, slots := 0, locals := 0 }) (va_Pc [.ref (b 0)] (pM D cm b n M sz)) (va_Qi (fun r (u : MS) => r = rmCool M n ∧ u = cm_set_th M 0) (eM D cm b n (va_A (wM cm b n M) sz)) (va_A (wM cm b n M) sz)) 0 0 (va_A (wM cm b n M) sz) := by
  refine Met.ofW (cc := cX3_cool) (maxL := 4) (ret := (some .int)) (by decide) rfl ?_
  intro p e s m args below meth c s₁ B hml hv
  obtain ⟨rfl, hsz, hP, hK, hD0⟩ := hv
  have hx := B.exec
  have hb := B.bytes
  have hr := B.returns
  have hts := atoms_spec (ws := wsX3_cool) B.pre
  have hown : s.vm.findClass RX3 = some m.cls := findClass_of_methodNamed B.named
  have hlocks := B.notSynchronized
  subst hsz
  have hD := hD0.self (sz := s.heap.size)
  generalize hAe : va_A (wM cm b n M) s.heap.size = A at hD ⊢
  have hA : ∀ q : Nat, s.heap.size ≤ q → A q := fun q h => by rw [← hAe]; exact Or.inr h
  have hS : va_S A s.heap s.heap [] := va_S.rf
  have hl := lv_entry ([.ref (b 0)]) (n := 4) (Nat.le_of_ble_eq_true rfl)
  rw [lg_entry_eq]
  generalize (lg_sl ([.ref (b 0)]) ++ List.replicate (4 - (lg_sl ([.ref (b 0)])).length) Slot.unset).toArray = ls at hl ⊢
  have hl : lv_has ls 4 [(0, .ref (b 0))] := hl
  refine lv_aload_n hx hb dX3_cool_0 rfl (lv_at hl 0 rfl) ?_
  refine lv_iconst (v := 0) hx hb dX3_cool_1 (by decide) ?_
  refine va_put (D := D) (ci := 4) (v := .int 0) (ty := .int) (C := RX3) (T := TX3) (N := 20) hx hb hts iX3_cool_X3 tyX3 tyX3_ok nmX3 hown hK hP hD hS 0 rfl rfl 0 (by decide) (hts (.fieldLink RX3 73 "CellRows2Model" "thrown" "I") (by decide +kernel)) (fun _ h9 => h9) rfl (by decide +kernel) rfl rfl (Nat.le_of_ble_eq_true rfl) dX3_cool_2 (fun H1 locs1 hP hD hS => ?_)
  have hP : va_P D vwCl (wM cm b n (cm_set_th M 0)) H1 := hP
  have hD : va_D A (wM cm b n (cm_set_th M 0)) := hD
  refine lv_aload_n hx hb dX3_cool_5 rfl (lv_at hl 0 rfl) ?_
  refine va_get (D := D) (ci := 4) (v := .ref (b 4)) (C := RX3) (T := TX3) (N := 20) hx hb hts iX3_cool_X3 hown hK hP 0 rfl rfl 5 (by decide) (hts (.fieldLink RX3 20 "CellRows2Model" "warms" "[J") (by decide +kernel)) (fun _ h9 => h9) rfl dX3_cool_6 ?_
  refine lv_iconst (v := 0) hx hb dX3_cool_9 (by decide) ?_
  refine ra_l (f := (cm_wa M)) hx hb hK hP 4 3 rfl rfl 0 rfl (Nat.le_of_ble_eq_true rfl) (Nat.le_of_ble_eq_true rfl) dX3_cool_10 ?_
  refine lv_lstore_n (lv' := [(1, .long ((cm_wa M) 0)), (0, .ref (b 0))]) hx hb dX3_cool_11 rfl hl (by decide) rfl (fun ls hl => ?_)
  refine lv_iconst (v := 1) hx hb dX3_cool_12 (by decide) ?_
  refine lv_istore_n (lv' := [(3, .int 1), (1, .long ((cm_wa M) 0)), (0, .ref (b 0))]) hx hb dX3_cool_13 rfl hl (by decide) rfl (fun ls hl => ?_)
  refine W.loop (α := Nat × Array Slot) (g := fun v9 => F0 m 14 v9.2 []) (fun k9 v9 => v9.1 + 1 + k9 = n ∧ lv_has v9.2 4 [(0, .ref (b 0)), (1, .long (mMx (cm_wa M) v9.1)), (3, .int (nI (v9.1 + 1)))]) ?_ ?_ (n - 1) (0, ls) ⟨by omega, lv_sub hl [2, 1, 0] rfl⟩
  · rintro ⟨z, ls⟩ ⟨h9, hl⟩
    have h9 : z + 1 + 0 = n := h9
    have e9 : z = n - 1 := by omega
    have hl : lv_has ls 4 [(0, .ref (b 0)), (1, .long (mMx (cm_wa M) z)), (3, .int (nI (z + 1)))] := hl
    rw [e9] at hl
    have hl : lv_has ls 4 [(0, .ref (b 0)), (1, .long (mMx (cm_wa M) (n - 1))), (3, .int (nI ((n - 1) + 1)))] := hl
    refine lv_iload_n hx hb dX3_cool_14 rfl (lv_at hl 2 rfl) ?_
    refine lv_aload_n hx hb dX3_cool_15 rfl (lv_at hl 0 rfl) ?_
    refine va_get (D := D) (ci := 4) (v := .int (nI n)) (C := RX3) (T := TX3) (N := 20) hx hb hts iX3_cool_X3 hown hK hP 0 rfl rfl 1 (by decide) (hts (.fieldLink RX3 61 "CellRows2Model" "cells" "I") (by decide +kernel)) (fun _ h9 => h9) rfl dX3_cool_16 ?_
    refine ib_ge (tgt := 50) hx hb dX3_cool_19 (by decide) (fun h_3 => ?_) (fun h_3 => ?_)
    · refine lv_lload_n hx hb dX3_cool_50 rfl (lv_at hl 1 rfl) ?_
      refine lv_ldc2 hx hb hown (hts (.constantLong RX3 144 (550)) (by decide +kernel)) dX3_cool_51 ?_
      refine il_le (tgt := 62) hx hb dX3_cool_54 dX3_cool_55 (by decide) (fun h_4 => ?_) (fun h_4 => ?_)
      · refine lv_lload_n hx hb dX3_cool_62 rfl (lv_at hl 1 rfl) ?_
        refine lv_ldc2 hx hb hown (hts (.constantLong RX3 146 (450)) (by decide +kernel)) dX3_cool_63 ?_
        refine il_le (tgt := 74) hx hb dX3_cool_66 dX3_cool_67 (by decide) (fun h_5 => ?_) (fun h_5 => ?_)
        · refine lv_lload_n hx hb dX3_cool_74 rfl (lv_at hl 1 rfl) ?_
          refine lv_ldc2 hx hb hown (hts (.constantLong RX3 148 (350)) (by decide +kernel)) dX3_cool_75 ?_
          refine il_le (tgt := 86) hx hb dX3_cool_78 dX3_cool_79 (by decide) (fun h_6 => ?_) (fun h_6 => ?_)
          · refine lv_iconst (v := 0) hx hb dX3_cool_86 (by decide) ?_
            exact W.iret (v := 0) hx hb hr (fun t ht hW => ⟨⟨0, (cm_set_th M 0), rfl, ⟨(by first | rfl | (simp only [rmCool, if_neg h_3, if_neg h_4, if_neg h_5, if_neg h_6] <;> rfl)), (by first | rfl | (simp only [rmCool, if_neg h_3, if_neg h_4, if_neg h_5, if_neg h_6] <;> rfl))⟩, by rw [ht]; exact hP, va_K.moved hW.alike hK, hD⟩, hS.F ht⟩) hS.2.2 dX3_cool_87
          · refine lv_iconst (v := 1) hx hb dX3_cool_82 (by decide) ?_
            refine lv_goto (tgt := 87) hx hb dX3_cool_83 (by decide) ?_
            exact W.iret (v := 1) hx hb hr (fun t ht hW => ⟨⟨1, (cm_set_th M 0), rfl, ⟨(by first | rfl | (simp only [rmCool, if_neg h_3, if_neg h_4, if_neg h_5, if_pos h_6] <;> rfl)), (by first | rfl | (simp only [rmCool, if_neg h_3, if_neg h_4, if_neg h_5, if_pos h_6] <;> rfl))⟩, by rw [ht]; exact hP, va_K.moved hW.alike hK, hD⟩, hS.F ht⟩) hS.2.2 dX3_cool_87
        · refine lv_iconst (v := 2) hx hb dX3_cool_70 (by decide) ?_
          refine lv_goto (tgt := 87) hx hb dX3_cool_71 (by decide) ?_
          exact W.iret (v := 2) hx hb hr (fun t ht hW => ⟨⟨2, (cm_set_th M 0), rfl, ⟨(by first | rfl | (simp only [rmCool, if_neg h_3, if_neg h_4, if_pos h_5] <;> rfl)), (by first | rfl | (simp only [rmCool, if_neg h_3, if_neg h_4, if_pos h_5] <;> rfl))⟩, by rw [ht]; exact hP, va_K.moved hW.alike hK, hD⟩, hS.F ht⟩) hS.2.2 dX3_cool_87
      · refine lv_iconst (v := 3) hx hb dX3_cool_58 (by decide) ?_
        refine lv_goto (tgt := 87) hx hb dX3_cool_59 (by decide) ?_
        exact W.iret (v := 3) hx hb hr (fun t ht hW => ⟨⟨3, (cm_set_th M 0), rfl, ⟨(by first | rfl | (simp only [rmCool, if_neg h_3, if_pos h_4] <;> rfl)), (by first | rfl | (simp only [rmCool, if_neg h_3, if_pos h_4] <;> rfl))⟩, by rw [ht]; exact hP, va_K.moved hW.alike hK, hD⟩, hS.F ht⟩) hS.2.2 dX3_cool_87
    · exact absurd h_3 (nI_nlt (a := n - 1 + 1) (b := n) (by omega) (by omega))
  · rintro k9 ih ⟨z, ls⟩ ⟨h9, hl⟩
    have h9 : z + 1 + (k9 + 1) = n := h9
    have hl : lv_has ls 4 [(0, .ref (b 0)), (1, .long (mMx (cm_wa M) z)), (3, .int (nI (z + 1)))] := hl
    refine lv_iload_n hx hb dX3_cool_14 rfl (lv_at hl 2 rfl) ?_
    refine lv_aload_n hx hb dX3_cool_15 rfl (lv_at hl 0 rfl) ?_
    refine va_get (D := D) (ci := 4) (v := .int (nI n)) (C := RX3) (T := TX3) (N := 20) hx hb hts iX3_cool_X3 hown hK hP 0 rfl rfl 1 (by decide) (hts (.fieldLink RX3 61 "CellRows2Model" "cells" "I") (by decide +kernel)) (fun _ h9 => h9) rfl dX3_cool_16 ?_
    refine ib_ge (tgt := 50) hx hb dX3_cool_19 (by decide) (fun h_7 => ?_) (fun h_7 => ?_)
    · exact absurd (nI_lt (a := z + 1) (b := n) (by omega) (by omega)) h_7
    · refine lv_aload_n hx hb dX3_cool_22 rfl (lv_at hl 0 rfl) ?_
      refine va_get (D := D) (ci := 4) (v := .ref (b 4)) (C := RX3) (T := TX3) (N := 20) hx hb hts iX3_cool_X3 hown hK hP 0 rfl rfl 5 (by decide) (hts (.fieldLink RX3 20 "CellRows2Model" "warms" "[J") (by decide +kernel)) (fun _ h9 => h9) rfl dX3_cool_23 ?_
      refine lv_iload_n hx hb dX3_cool_26 rfl (lv_at hl 2 rfl) ?_
      refine ra_l (f := (cm_wa M)) hx hb hK hP 4 3 rfl rfl (z + 1) rfl (by omega) (Nat.le_of_ble_eq_true rfl) dX3_cool_27 ?_
      refine lv_lload_n hx hb dX3_cool_28 rfl (lv_at hl 1 rfl) ?_
      refine W.join (P := fun v9 : Int64 => v9 = mMx (cm_wa M) (z + 1)) (g := fun v9 => F0 m 43 ls [.long v9]) (fun v8 hv8 => ?_) (fun J8 => ?_)
      · subst hv8
        refine lv_lstore_n (lv' := [(1, .long (mMx (cm_wa M) (z + 1))), (0, .ref (b 0)), (3, .int (nI (z + 1)))]) hx hb dX3_cool_43 rfl hl (by decide) rfl (fun ls hl => ?_)
        refine lv_iinc (v := nI (z + 1 + 1)) (lv' := [(3, .int (nI (z + 1 + 1))), (1, .long (mMx (cm_wa M) (z + 1))), (0, .ref (b 0))]) hx hb dX3_cool_44 hl (k := 2) rfl (nI_1 (z + 1)) (by decide) rfl (fun ls hl => ?_)
        refine lv_goto (tgt := 14) hx hb dX3_cool_47 (by decide) ?_
        exact ih ((z + 1), ls) ⟨by show z + 1 + 1 + k9 = n; omega, lv_sub hl [2, 1, 0] rfl⟩
      · refine il_le (tgt := 42) hx hb dX3_cool_29 dX3_cool_30 (by decide) (fun h_9 => ?_) (fun h_9 => ?_)
        · refine lv_lload_n hx hb dX3_cool_42 rfl (lv_at hl 1 rfl) ?_
          exact J8 _ (by simp only [mMx, if_neg h_9])
        · refine lv_aload_n hx hb dX3_cool_33 rfl (lv_at hl 0 rfl) ?_
          refine va_get (D := D) (ci := 4) (v := .ref (b 4)) (C := RX3) (T := TX3) (N := 20) hx hb hts iX3_cool_X3 hown hK hP 0 rfl rfl 5 (by decide) (hts (.fieldLink RX3 20 "CellRows2Model" "warms" "[J") (by decide +kernel)) (fun _ h9 => h9) rfl dX3_cool_34 ?_
          refine lv_iload_n hx hb dX3_cool_37 rfl (lv_at hl 2 rfl) ?_
          refine ra_l (f := (cm_wa M)) hx hb hK hP 4 3 rfl rfl (z + 1) rfl (by omega) (Nat.le_of_ble_eq_true rfl) dX3_cool_38 ?_
          refine lv_goto (tgt := 43) hx hb dX3_cool_39 (by decide) ?_
          exact J8 _ (by simp only [mMx, if_pos h_9])
set_option maxRecDepth 20000 in
theorem iX3_fault_X3 : ∀ w ∈ wsX30, w ∈ wsX3_fault := by decide +kernel
set_option maxHeartbeats 1000000 in
set_option maxRecDepth 100000 in
theorem kX3_fault (l : Launch) (D : va_G) (cm : Nat → ClassId) (b : Nat → Nat) (n : Nat) (M : MS) (sz : Nat) (p0 : Int32) (hf : cm_fc M ≤ 2048) : Met l yX3_fault wsX3_fault ({ frames := 0, cells := 0, slots := 0, locals := 0 }) (va_Pc [.ref (b 0), .int p0] (pM D cm b n M sz)) (va_Qi (fun r (u : MS) => r = (ix (cm_fc M) p0).elim 0 (cm_flt M) ∧ u = cm_set_th M 0) (eM D cm b n (va_A (wM cm b n M) sz)) (va_A (wM cm b n M) sz)) 0 0 (va_A (wM cm b n M) sz) := by
  refine Met.ofW (cc := cX3_fault) (maxL := 2) (ret := (some .int)) (by decide) rfl ?_
  intro p e s m args below meth c s₁ B hml hv
  obtain ⟨rfl, hsz, hP, hK, hD0⟩ := hv
  have hx := B.exec
  have hb := B.bytes
  have hr := B.returns
  have hts := atoms_spec (ws := wsX3_fault) B.pre
  have hown : s.vm.findClass RX3 = some m.cls := findClass_of_methodNamed B.named
  have hlocks := B.notSynchronized
  subst hsz
  have hD := hD0.self (sz := s.heap.size)
  generalize hAe : va_A (wM cm b n M) s.heap.size = A at hD ⊢
  have hA : ∀ q : Nat, s.heap.size ≤ q → A q := fun q h => by rw [← hAe]; exact Or.inr h
  have hS : va_S A s.heap s.heap [] := va_S.rf
  have hl := lv_entry ([.ref (b 0), .int p0]) (n := 2) (Nat.le_of_ble_eq_true rfl)
  rw [lg_entry_eq]
  generalize (lg_sl ([.ref (b 0), .int p0]) ++ List.replicate (2 - (lg_sl ([.ref (b 0), .int p0])).length) Slot.unset).toArray = ls at hl ⊢
  have hl : lv_has ls 2 [(0, .ref (b 0)), (1, .int p0)] := hl
  refine lv_aload_n hx hb dX3_fault_0 rfl (lv_at hl 0 rfl) ?_
  refine lv_iconst (v := 0) hx hb dX3_fault_1 (by decide) ?_
  refine va_put (D := D) (ci := 4) (v := .int 0) (ty := .int) (C := RX3) (T := TX3) (N := 20) hx hb hts iX3_fault_X3 tyX3 tyX3_ok nmX3 hown hK hP hD hS 0 rfl rfl 0 (by decide) (hts (.fieldLink RX3 73 "CellRows2Model" "thrown" "I") (by decide +kernel)) (fun _ h9 => h9) rfl (by decide +kernel) rfl rfl (Nat.le_of_ble_eq_true rfl) dX3_fault_2 (fun H1 locs1 hP hD hS => ?_)
  have hP : va_P D vwCl (wM cm b n (cm_set_th M 0)) H1 := hP
  have hD : va_D A (wM cm b n (cm_set_th M 0)) := hD
  refine lv_iload_n hx hb dX3_fault_5 rfl (lv_at hl 1 rfl) ?_
  refine iz_lt (tgt := 17) hx hb dX3_fault_6 (by decide) (fun h_2 => ?_) (fun h_2 => ?_)
  · refine lv_iconst (v := 0) hx hb dX3_fault_17 (by decide) ?_
    refine lv_goto (tgt := 27) hx hb dX3_fault_18 (by decide) ?_
    exact W.iret (v := 0) hx hb hr (fun t ht hW => ⟨⟨0, (cm_set_th M 0), rfl, ⟨(by first | rfl | (simp only [Option.elim_none, Option.map_none, if_pos h_2, ix_neg h_2] <;> rfl)), (by first | rfl | (simp only [Option.elim_none, Option.map_none, if_pos h_2, ix_neg h_2] <;> rfl))⟩, by rw [ht]; exact hP, va_K.moved hW.alike hK, hD⟩, hS.F ht⟩) hS.2.2 dX3_fault_27
  · refine lv_iload_n hx hb dX3_fault_9 rfl (lv_at hl 1 rfl) ?_
    refine lv_aload_n hx hb dX3_fault_10 rfl (lv_at hl 0 rfl) ?_
    refine va_get (D := D) (ci := 4) (v := .int (nI (cm_fc M))) (C := RX3) (T := TX3) (N := 20) hx hb hts iX3_fault_X3 hown hK hP 0 rfl rfl 14 (by decide) (hts (.fieldLink RX3 76 "CellRows2Model" "faultCount" "I") (by decide +kernel)) (fun _ h9 => h9) rfl dX3_fault_11 ?_
    refine ib_lt (tgt := 21) hx hb dX3_fault_14 (by decide) (fun h_3 => ?_) (fun h_3 => ?_)
    · obtain ⟨j, hj, rfl⟩ := ix_of (n := cm_fc M) (by omega) h_2 h_3
      have e_ix := ix_at (n := cm_fc M) (by omega) hj
      refine lv_aload_n hx hb dX3_fault_21 rfl (lv_at hl 0 rfl) ?_
      refine va_get (D := D) (ci := 4) (v := .ref (b 9)) (C := RX3) (T := TX3) (N := 20) hx hb hts iX3_fault_X3 hown hK hP 0 rfl rfl 13 (by decide) (hts (.fieldLink RX3 49 "CellRows2Model" "faults" "[I") (by decide +kernel)) (fun _ h9 => h9) rfl dX3_fault_22 ?_
      refine lv_iload_n hx hb dX3_fault_25 rfl (lv_at hl 1 rfl) ?_
      refine ra_i (f := (cm_flt M)) hx hb hK hP 9 8 rfl rfl j rfl (by omega) (Nat.le_of_ble_eq_true rfl) dX3_fault_26 ?_
      exact W.iret (v := (cm_flt M) j) hx hb hr (fun t ht hW => ⟨⟨(cm_flt M) j, (cm_set_th M 0), rfl, ⟨(by first | rfl | (simp only [Option.elim_none, Option.map_none, if_neg h_2, if_pos h_3, e_ix, Option.elim_some, Option.map_some] <;> rfl)), (by first | rfl | (simp only [Option.elim_none, Option.map_none, if_neg h_2, if_pos h_3, e_ix, Option.elim_some, Option.map_some] <;> rfl))⟩, by rw [ht]; exact hP, va_K.moved hW.alike hK, hD⟩, hS.F ht⟩) hS.2.2 dX3_fault_27
    · refine lv_iconst (v := 0) hx hb dX3_fault_17 (by decide) ?_
      refine lv_goto (tgt := 27) hx hb dX3_fault_18 (by decide) ?_
      exact W.iret (v := 0) hx hb hr (fun t ht hW => ⟨⟨0, (cm_set_th M 0), rfl, ⟨(by first | rfl | (simp only [Option.elim_none, Option.map_none, if_neg h_2, if_neg h_3, ix_big h_3] <;> rfl)), (by first | rfl | (simp only [Option.elim_none, Option.map_none, if_neg h_2, if_neg h_3, ix_big h_3] <;> rfl))⟩, by rw [ht]; exact hP, va_K.moved hW.alike hK, hD⟩, hS.F ht⟩) hS.2.2 dX3_fault_27
