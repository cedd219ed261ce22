set_option maxHeartbeats 4000000 in
set_option maxRecDepth 100000 in
theorem kX2_isOutside (l : Launch) (v lo hi : Int64) : Met l yX2_isOutside wsX2_isOutside ({ frames := 0, cells := 0, slots := 0, locals := 0 }) (va_Pc [.long v, .long lo, .long hi] (fun _ => True)) (vp_Si (fun r => r = sOut v lo hi)) 0 0 (fun _ => False) := by
  refine Met.ofW (cc := cX2_isOutside) (maxL := 6) (ret := (some .boolean)) (by decide) rfl ?_
  intro p e s m args below meth c s₁ B hml hv
  obtain ⟨rfl, -⟩ := hv
  have hx := B.exec
  have hb := B.bytes
  have hr := B.returns
  have hts := atoms_spec (ws := wsX2_isOutside) B.pre
  have hown : s.vm.findClass RX2 = some m.cls := findClass_of_methodNamed B.named
  have hlocks := B.notSynchronized
  have hl := lv_entry ([.long v, .long lo, .long hi]) (n := 6) (Nat.le_of_ble_eq_true rfl)
  rw [lg_entry_eq]
  generalize (lg_sl ([.long v, .long lo, .long hi]) ++ List.replicate (6 - (lg_sl ([.long v, .long lo, .long hi])).length) Slot.unset).toArray = ls at hl ⊢
  have hl : lv_has ls 6 [(0, .long v), (2, .long lo), (4, .long hi)] := hl
  refine lv_lload_n hx hb dX2_isOutside_0 rfl (lv_at hl 0 rfl) ?_
  refine lv_lload_n hx hb dX2_isOutside_1 rfl (lv_at hl 1 rfl) ?_
  refine il_lt (tgt := 13) hx hb dX2_isOutside_2 dX2_isOutside_3 (by decide) (fun h_1 => ?_) (fun h_1 => ?_)
  · refine lv_iconst (v := 1) hx hb dX2_isOutside_13 (by decide) ?_
    refine lv_goto (tgt := 18) hx hb dX2_isOutside_14 (by decide) ?_
    exact W.zret (v := 1) hx hb hr rfl (fun t ht hW => ⟨1, rfl, (by simp only [sOut, if_pos h_1]), ht⟩) (fun q hq => absurd hq List.not_mem_nil) dX2_isOutside_18
  · refine lv_lload_n hx hb dX2_isOutside_6 rfl (lv_at hl 0 rfl) ?_
    refine lv_lload hx hb dX2_isOutside_7 (lv_at hl 2 rfl) ?_
    refine il_le (tgt := 17) hx hb dX2_isOutside_9 dX2_isOutside_10 (by decide) (fun h_2 => ?_) (fun h_2 => ?_)
    · refine lv_iconst (v := 0) hx hb dX2_isOutside_17 (by decide) ?_
      exact W.zret (v := 0) hx hb hr rfl (fun t ht hW => ⟨0, rfl, (by simp only [sOut, if_neg h_1, if_neg h_2]), ht⟩) (fun q hq => absurd hq List.not_mem_nil) dX2_isOutside_18
    · refine lv_iconst (v := 1) hx hb dX2_isOutside_13 (by decide) ?_
      refine lv_goto (tgt := 18) hx hb dX2_isOutside_14 (by decide) ?_
      exact W.zret (v := 1) hx hb hr rfl (fun t ht hW => ⟨1, rfl, (by simp only [sOut, if_neg h_1, if_pos h_2]), ht⟩) (fun q hq => absurd hq List.not_mem_nil) dX2_isOutside_18
set_option maxRecDepth 20000 in
theorem iX2_cellOf_X2 : ∀ w ∈ wsX20, w ∈ wsX2_cellOf := by decide +kernel
set_option maxHeartbeats 4000000 in
set_option maxRecDepth 100000 in
theorem kX2_cellOf (l : Launch) (D : va_G) (cy : Nat → ClassId) (a : Nat → Nat) (n : Nat) (S : CS) (sz : Nat) (p0 : Int32) (hn : n ≤ 24) : Met l yX2_cellOf wsX2_cellOf ({ frames := 0, cells := 0, slots := 0, locals := 0 }) (va_Pc [.ref (a 0), .int p0] (pX D cy a n S sz)) (va_Sq (fun r => r = (ix n p0).map (fun j => a (9 + j)))) 0 0 (fun _ => False) := by
  refine Met.ofW (cc := cX2_cellOf) (maxL := 2) (ret := (some (.object "CellRows2$Cell"))) (by decide) rfl ?_
  intro p e s m args below meth c s₁ B hml hv
  obtain ⟨rfl, hsz, hP, hK, hD0, hN⟩ := hv
  have hx := B.exec
  have hb := B.bytes
  have hr := B.returns
  have hts := atoms_spec (ws := wsX2_cellOf) B.pre
  have hown : s.vm.findClass RX2 = some m.cls := findClass_of_methodNamed B.named
  have hlocks := B.notSynchronized
  have hD := hD0
  have hl := lv_entry ([.ref (a 0), .int p0]) (n := 2) (Nat.le_of_ble_eq_true rfl)
  rw [lg_entry_eq]
  generalize (lg_sl ([.ref (a 0), .int p0]) ++ List.replicate (2 - (lg_sl ([.ref (a 0), .int p0])).length) Slot.unset).toArray = ls at hl ⊢
  have hl : lv_has ls 2 [(0, .ref (a 0)), (1, .int p0)] := hl
  refine lv_iload_n hx hb dX2_cellOf_0 rfl (lv_at hl 1 rfl) ?_
  refine iz_lt (tgt := 13) hx hb dX2_cellOf_1 (by decide) (fun h_1 => ?_) (fun h_1 => ?_)
  · refine lv_null hx hb dX2_cellOf_13 ?_
    refine lv_goto (tgt := 23) hx hb dX2_cellOf_14 (by decide) ?_
    exact W.aret hx hb hr (Or.inl ⟨_, rfl⟩) (Or.inl rfl) (fun t ht hW => ⟨none, rfl, (by simp only [Option.elim_none, Option.map_none, if_pos h_1, ix_neg h_1]), ht⟩) (fun q hq => absurd hq List.not_mem_nil) dX2_cellOf_23
  · refine lv_iload_n hx hb dX2_cellOf_4 rfl (lv_at hl 1 rfl) ?_
    refine lv_aload_n hx hb dX2_cellOf_5 rfl (lv_at hl 0 rfl) ?_
    refine va_get (D := D) (ci := 3) (v := .ref (a 1)) (C := RX2) (T := TX2) (N := 8) hx hb hts iX2_cellOf_X2 hown hK hP 0 rfl rfl 0 (by decide) (hts (.fieldLink RX2 11 "CellRows2" "cells" "[LCellRows2$Cell;") (by decide +kernel)) (fun _ h9 => h9) rfl dX2_cellOf_6 ?_
    refine va_alen (v := nI n) hx hb hK hP 1 0 rfl rfl rfl dX2_cellOf_9 ?_
    refine ib_lt (tgt := 17) hx hb dX2_cellOf_10 (by decide) (fun h_2 => ?_) (fun h_2 => ?_)
    · obtain ⟨j, hj, rfl⟩ := ix_of (n := n) (by omega) h_1 h_2
      have e_ix := ix_at (n := n) (by omega) hj
      refine lv_aload_n hx hb dX2_cellOf_17 rfl (lv_at hl 0 rfl) ?_
      refine va_get (D := D) (ci := 3) (v := .ref (a 1)) (C := RX2) (T := TX2) (N := 8) hx hb hts iX2_cellOf_X2 hown hK hP 0 rfl rfl 0 (by decide) (hts (.fieldLink RX2 11 "CellRows2" "cells" "[LCellRows2$Cell;") (by decide +kernel)) (fun _ h9 => h9) rfl dX2_cellOf_18 ?_
      refine lv_iload_n hx hb dX2_cellOf_21 rfl (lv_at hl 1 rfl) ?_
      refine ra_q hx hb hK hP 1 0 rfl rfl j rfl (by omega) (by omega) dX2_cellOf_22 ?_
      refine W.eqs (st2 := [.ref (a (9 + j))]) rfl ?_
      exact W.aret hx hb hr (Or.inl ⟨_, rfl⟩) (Or.inr ⟨_, rfl⟩) (fun t ht hW => ⟨(some (a (9 + j))), rfl, (by simp only [Option.elim_none, Option.map_none, if_neg h_1, if_pos h_2, e_ix, Option.elim_some, Option.map_some]), ht⟩) (fun q hq => absurd hq List.not_mem_nil) dX2_cellOf_23
    · refine lv_null hx hb dX2_cellOf_13 ?_
      refine lv_goto (tgt := 23) hx hb dX2_cellOf_14 (by decide) ?_
      exact W.aret hx hb hr (Or.inl ⟨_, rfl⟩) (Or.inl rfl) (fun t ht hW => ⟨none, rfl, (by simp only [Option.elim_none, Option.map_none, if_neg h_1, if_neg h_2, ix_big h_2]), ht⟩) (fun q hq => absurd hq List.not_mem_nil) dX2_cellOf_23
set_option maxRecDepth 20000 in
theorem iX2_charge_X0 : ∀ w ∈ wsX00, w ∈ wsX2_charge := by decide +kernel
set_option maxHeartbeats 4000000 in
set_option maxRecDepth 100000 in
theorem kX2_charge (l : Launch) (D : va_G) (cy : Nat → ClassId) (a : Nat → Nat) (n : Nat) (S : CS) (sz : Nat) (p0 : Int32) (hn : n ≤ 24) : Met l yX2_charge wsX2_charge ({ frames := 1, cells := 0, slots := 0, locals := 21 }) (va_Pc [.ref (a 0), .int p0] (pX D cy a n S sz)) (vp_Sl (fun r => r = (ix n p0).elim 0 (cs_ch S))) 0 0 (fun _ => False) := by
  refine Met.ofW (cc := cX2_charge) (maxL := 3) (ret := (some .long)) (by decide) rfl ?_
  intro p e s m args below meth c s₁ B hml hv
  obtain ⟨rfl, hsz, hP, hK, hD0, hN⟩ := hv
  have hx := B.exec
  have hb := B.bytes
  have hr := B.returns
  have hts := atoms_spec (ws := wsX2_charge) B.pre
  have hown : s.vm.findClass RX2 = some m.cls := findClass_of_methodNamed B.named
  have hlocks := B.notSynchronized
  have hD := hD0
  have hl := lv_entry ([.ref (a 0), .int p0]) (n := 3) (Nat.le_of_ble_eq_true rfl)
  rw [lg_entry_eq]
  generalize (lg_sl ([.ref (a 0), .int p0]) ++ List.replicate (3 - (lg_sl ([.ref (a 0), .int p0])).length) Slot.unset).toArray = ls at hl ⊢
  have hl : lv_has ls 3 [(0, .ref (a 0)), (1, .int p0)] := hl
  refine lv_aload_n hx hb dX2_charge_0 rfl (lv_at hl 0 rfl) ?_
  refine lv_iload_n hx hb dX2_charge_1 rfl (lv_at hl 1 rfl) ?_
  refine va_csq (W.runV (As := [.int p0]) (rest := []) ⟨hx, hb, hml, hown, hts⟩ (kX2_cellOf l D cy a n S s.heap.size p0 hn) (cwV 1 hts gX2_charge_X2_cellOf rfl rfl rfl (by decide +kernel) ⟨Nat.le_of_ble_eq_true rfl, Nat.le_of_ble_eq_true rfl⟩) ⟨pX_blind, va_recv hK hP (ci := 3) (q0 := 0) rfl rfl, fun U hU hW => ⟨rfl, pX_mk hP hK hD hN hU hW⟩⟩ rfl rfl hl.1 rfl (lv_room (Nat.le_of_ble_eq_true rfl)) dX2_charge_2 ⟨Nat.le_of_ble_eq_true rfl, Nat.le_of_ble_eq_true rfl⟩) (fun r1 hr1 => ?_)
  obtain rfl : r1 = (ix n p0).map (fun j => a (9 + j)) := hr1
  rcases hix : ix n p0 with _ | j
  · refine W.eqs (st2 := [.null]) rfl ?_
    refine lv_astore_nN (lv' := [(2, .null), (0, .ref (a 0)), (1, .int p0)]) hx hb dX2_charge_5 rfl hl (by decide) rfl (fun ls hl => ?_)
    refine lv_aload_nN hx hb dX2_charge_6 rfl (lv_at hl 0 rfl) ?_
    refine lv_ifnonnullN hx hb dX2_charge_7 ?_
    refine lv_lconst (v := 0) hx hb dX2_charge_10 (by decide) ?_
    refine lv_goto (tgt := 18) hx hb dX2_charge_11 (by decide) ?_
    exact W.lret (v := 0) hx hb hr (fun t ht hW => ⟨0, rfl, (by simp only [Option.elim_none, Option.map_none, Option.elim_some, hix]), ht⟩) (fun q hq => absurd hq List.not_mem_nil) dX2_charge_18
  · obtain ⟨hj, rfl⟩ := ix_some hix
    refine W.eqs (st2 := [.ref (a (9 + j))]) rfl ?_
    refine lv_astore_n (lv' := [(2, .ref (a (9 + j))), (0, .ref (a 0)), (1, .int (nI j))]) hx hb dX2_charge_5 rfl hl (by decide) rfl (fun ls hl => ?_)
    refine lv_aload_n hx hb dX2_charge_6 rfl (lv_at hl 0 rfl) ?_
    refine lv_ifnonnull (tgt := 14) hx hb dX2_charge_7 (by decide) ?_
    refine lv_aload_n hx hb dX2_charge_14 rfl (lv_at hl 0 rfl) ?_
    refine va_getN (D := D) (ci := 1) (v := .long ((cs_ch S) j)) (C := RX0) (T := TX0) (N := 6) hx hb hts iX2_charge_X0 hown hK hP (9 + j) (wX_c hj) rfl 0 (by decide) (va_Nw.use rfl (hN _ (List.mem_of_getElem? (i := 6) rfl))) (fun _ h9 => h9) rfl dX2_charge_15 ?_
    exact W.lret (v := (cs_ch S) j) hx hb hr (fun t ht hW => ⟨(cs_ch S) j, rfl, (by simp only [Option.elim_none, Option.map_none, Option.elim_some, hix]), ht⟩) (fun q hq => absurd hq List.not_mem_nil) dX2_charge_18
set_option maxRecDepth 20000 in
theorem iX2_share_X0 : ∀ w ∈ wsX00, w ∈ wsX2_share := by decide +kernel
set_option maxHeartbeats 4000000 in
set_option maxRecDepth 100000 in
theorem kX2_share (l : Launch) (D : va_G) (cy : Nat → ClassId) (a : Nat → Nat) (n : Nat) (S : CS) (sz : Nat) (p0 : Int32) (hn : n ≤ 24) : Met l yX2_share wsX2_share ({ frames := 1, cells := 0, slots := 0, locals := 21 }) (va_Pc [.ref (a 0), .int p0] (pX D cy a n S sz)) (vp_Sd (fun r => r = (ix n p0).elim FP.dconst0 (cs_es S))) 0 0 (fun _ => False) := by
  refine Met.ofW (cc := cX2_share) (maxL := 3) (ret := (some .double)) (by decide) rfl ?_
  intro p e s m args below meth c s₁ B hml hv
  obtain ⟨rfl, hsz, hP, hK, hD0, hN⟩ := hv
  have hx := B.exec
  have hb := B.bytes
  have hr := B.returns
  have hts := atoms_spec (ws := wsX2_share) B.pre
  have hown : s.vm.findClass RX2 = some m.cls := findClass_of_methodNamed B.named
  have hlocks := B.notSynchronized
  have hD := hD0
  have hl := lv_entry ([.ref (a 0), .int p0]) (n := 3) (Nat.le_of_ble_eq_true rfl)
  rw [lg_entry_eq]
  generalize (lg_sl ([.ref (a 0), .int p0]) ++ List.replicate (3 - (lg_sl ([.ref (a 0), .int p0])).length) Slot.unset).toArray = ls at hl ⊢
  have hl : lv_has ls 3 [(0, .ref (a 0)), (1, .int p0)] := hl
  refine lv_aload_n hx hb dX2_share_0 rfl (lv_at hl 0 rfl) ?_
  refine lv_iload_n hx hb dX2_share_1 rfl (lv_at hl 1 rfl) ?_
  refine va_csq (W.runV (As := [.int p0]) (rest := []) ⟨hx, hb, hml, hown, hts⟩ (kX2_cellOf l D cy a n S s.heap.size p0 hn) (cwV 1 hts gX2_share_X2_cellOf rfl rfl rfl (by decide +kernel) ⟨Nat.le_of_ble_eq_true rfl, Nat.le_of_ble_eq_true rfl⟩) ⟨pX_blind, va_recv hK hP (ci := 3) (q0 := 0) rfl rfl, fun U hU hW => ⟨rfl, pX_mk hP hK hD hN hU hW⟩⟩ rfl rfl hl.1 rfl (lv_room (Nat.le_of_ble_eq_true rfl)) dX2_share_2 ⟨Nat.le_of_ble_eq_true rfl, Nat.le_of_ble_eq_true rfl⟩) (fun r1 hr1 => ?_)
  obtain rfl : r1 = (ix n p0).map (fun j => a (9 + j)) := hr1
  rcases hix : ix n p0 with _ | j
  · refine W.eqs (st2 := [.null]) rfl ?_
    refine lv_astore_nN (lv' := [(2, .null), (0, .ref (a 0)), (1, .int p0)]) hx hb dX2_share_5 rfl hl (by decide) rfl (fun ls hl => ?_)
    refine lv_aload_nN hx hb dX2_share_6 rfl (lv_at hl 0 rfl) ?_
    refine lv_ifnonnullN hx hb dX2_share_7 ?_
    refine lv_dconst0 hx hb dX2_share_10 ?_
    refine lv_goto (tgt := 18) hx hb dX2_share_11 (by decide) ?_
    exact W.dret (v := FP.dconst0) hx hb hr (fun t ht hW => ⟨FP.dconst0, rfl, (by simp only [Option.elim_none, Option.map_none, Option.elim_some, hix]), ht⟩) (fun q hq => absurd hq List.not_mem_nil) dX2_share_18
  · obtain ⟨hj, rfl⟩ := ix_some hix
    refine W.eqs (st2 := [.ref (a (9 + j))]) rfl ?_
    refine lv_astore_n (lv' := [(2, .ref (a (9 + j))), (0, .ref (a 0)), (1, .int (nI j))]) hx hb dX2_share_5 rfl hl (by decide) rfl (fun ls hl => ?_)
    refine lv_aload_n hx hb dX2_share_6 rfl (lv_at hl 0 rfl) ?_
    refine lv_ifnonnull (tgt := 14) hx hb dX2_share_7 (by decide) ?_
    refine lv_aload_n hx hb dX2_share_14 rfl (lv_at hl 0 rfl) ?_
    refine va_getN (D := D) (ci := 1) (v := .double ((cs_es S) j)) (C := RX0) (T := TX0) (N := 6) hx hb hts iX2_share_X0 hown hK hP (9 + j) (wX_c hj) rfl 1 (by decide) (va_Nw.use rfl (hN _ (List.mem_of_getElem? (i := 8) rfl))) (fun _ h9 => h9) rfl dX2_share_15 ?_
    exact W.dret (v := (cs_es S) j) hx hb hr (fun t ht hW => ⟨(cs_es S) j, rfl, (by simp only [Option.elim_none, Option.map_none, Option.elim_some, hix]), ht⟩) (fun q hq => absurd hq List.not_mem_nil) dX2_share_18
set_option maxRecDepth 20000 in
theorem iX2_isBeyond_X0 : ∀ w ∈ wsX00, w ∈ wsX2_isBeyond := by decide +kernel
set_option maxRecDepth 20000 in
theorem iX2_isBeyond_X2 : ∀ w ∈ wsX20, w ∈ wsX2_isBeyond := by decide +kernel
set_option maxHeartbeats 4000000 in
set_option maxRecDepth 100000 in
theorem kX2_isBeyond (l : Launch) (D : va_G) (cy : Nat → ClassId) (a : Nat → Nat) (n : Nat) (S : CS) (sz : Nat) (j : Nat) (hj : j < n) (cur : Int64) : Met l yX2_isBeyond wsX2_isBeyond ({ frames := 1, cells := 0, slots := 0, locals := 25 }) (va_Pc [.ref (a 0), .ref (a (9 + j)), .long cur] (pX D cy a n S sz)) (vp_Si (fun r => r = sBey S j cur)) 0 0 (fun _ => False) := by
  refine Met.ofW (cc := cX2_isBeyond) (maxL := 4) (ret := (some .boolean)) (by decide) rfl ?_
  intro p e s m args below meth c s₁ B hml hv
  obtain ⟨rfl, hsz, hP, hK, hD0, hN⟩ := hv
  have hx := B.exec
  have hb := B.bytes
  have hr := B.returns
  have hts := atoms_spec (ws := wsX2_isBeyond) B.pre
  have hown : s.vm.findClass RX2 = some m.cls := findClass_of_methodNamed B.named
  have hlocks := B.notSynchronized
  have hD := hD0
  have hl := lv_entry ([.ref (a 0), .ref (a (9 + j)), .long cur]) (n := 4) (Nat.le_of_ble_eq_true rfl)
  rw [lg_entry_eq]
  generalize (lg_sl ([.ref (a 0), .ref (a (9 + j)), .long cur]) ++ List.replicate (4 - (lg_sl ([.ref (a 0), .ref (a (9 + j)), .long cur])).length) Slot.unset).toArray = ls at hl ⊢
  have hl : lv_has ls 4 [(0, .ref (a 0)), (1, .ref (a (9 + j))), (2, .long cur)] := hl
  refine lv_aload_n hx hb dX2_isBeyond_0 rfl (lv_at hl 1 rfl) ?_
  refine va_getN (D := D) (ci := 1) (v := .long ((cs_vo S) j)) (C := RX0) (T := TX0) (N := 6) hx hb hts iX2_isBeyond_X0 hown hK hP (9 + j) (wX_c hj) rfl 2 (by decide) (va_Nw.use rfl (hN _ (List.mem_of_getElem? (i := 4) rfl))) (fun _ h9 => h9) rfl dX2_isBeyond_1 ?_
  refine lv_aload_n hx hb dX2_isBeyond_4 rfl (lv_at hl 0 rfl) ?_
  refine va_get (D := D) (ci := 3) (v := .ref (a 2)) (C := RX2) (T := TX2) (N := 8) hx hb hts iX2_isBeyond_X2 hown hK hP 0 rfl rfl 1 (by decide) (hts (.fieldLink RX2 25 "CellRows2" "limits" "[J") (by decide +kernel)) (fun _ h9 => h9) rfl dX2_isBeyond_5 ?_
  refine lv_iconst (v := 0) hx hb dX2_isBeyond_8 (by decide) ?_
  refine ra_l (f := (cs_lim S)) hx hb hK hP 2 1 rfl rfl 0 rfl (Nat.le_of_ble_eq_true rfl) (Nat.le_of_ble_eq_true rfl) dX2_isBeyond_9 ?_
  refine lv_aload_n hx hb dX2_isBeyond_10 rfl (lv_at hl 0 rfl) ?_
  refine va_get (D := D) (ci := 3) (v := .ref (a 2)) (C := RX2) (T := TX2) (N := 8) hx hb hts iX2_isBeyond_X2 hown hK hP 0 rfl rfl 1 (by decide) (hts (.fieldLink RX2 25 "CellRows2" "limits" "[J") (by decide +kernel)) (fun _ h9 => h9) rfl dX2_isBeyond_11 ?_
  refine lv_iconst (v := 1) hx hb dX2_isBeyond_14 (by decide) ?_
  refine ra_l (f := (cs_lim S)) hx hb hK hP 2 1 rfl rfl 1 rfl (Nat.le_of_ble_eq_true rfl) (Nat.le_of_ble_eq_true rfl) dX2_isBeyond_15 ?_
  refine vp_callSi (W.runS (As := [.long ((cs_vo S) j), .long ((cs_lim S) 0), .long ((cs_lim S) 1)]) (rest := []) ⟨hx, hb, hml, hown, hts⟩ (kX2_isOutside l ((cs_vo S) j) ((cs_lim S) 0) ((cs_lim S) 1)) (va_cwS 3 hts gX2_isBeyond_X2_isOutside rfl rfl rfl (by decide +kernel) ⟨Nat.le_of_ble_eq_true rfl, Nat.le_of_ble_eq_true rfl⟩) ⟨fun _ _ _ _ q => q, fun U hU hW => ⟨rfl, trivial⟩⟩ rfl rfl hl.1 rfl (lv_room (Nat.le_of_ble_eq_true rfl)) dX2_isBeyond_16 ⟨Nat.le_of_ble_eq_true rfl, Nat.le_of_ble_eq_true rfl⟩) (fun r1 hr1 => ?_)
  obtain rfl : r1 = sOut ((cs_vo S) j) ((cs_lim S) 0) ((cs_lim S) 1) := hr1
  refine iz_ne (tgt := 50) hx hb dX2_isBeyond_19 (by decide) (fun h_2 => ?_) (fun h_2 => ?_)
  · refine lv_iconst (v := 1) hx hb dX2_isBeyond_50 (by decide) ?_
    refine lv_goto (tgt := 55) hx hb dX2_isBeyond_51 (by decide) ?_
    exact W.zret (v := 1) hx hb hr rfl (fun t ht hW => ⟨1, rfl, (by simp only [sBey, if_neg h_2]), ht⟩) (fun q hq => absurd hq List.not_mem_nil) dX2_isBeyond_55
  · refine lv_aload_n hx hb dX2_isBeyond_22 rfl (lv_at hl 1 rfl) ?_
    refine va_getN (D := D) (ci := 1) (v := .long ((cs_wa S) j)) (C := RX0) (T := TX0) (N := 6) hx hb hts iX2_isBeyond_X0 hown hK hP (9 + j) (wX_c hj) rfl 3 (by decide) (va_Nw.use rfl (hN _ (List.mem_of_getElem? (i := 5) rfl))) (fun _ h9 => h9) rfl dX2_isBeyond_23 ?_
    refine lv_aload_n hx hb dX2_isBeyond_26 rfl (lv_at hl 0 rfl) ?_
    refine va_get (D := D) (ci := 3) (v := .ref (a 2)) (C := RX2) (T := TX2) (N := 8) hx hb hts iX2_isBeyond_X2 hown hK hP 0 rfl rfl 1 (by decide) (hts (.fieldLink RX2 25 "CellRows2" "limits" "[J") (by decide +kernel)) (fun _ h9 => h9) rfl dX2_isBeyond_27 ?_
    refine lv_iconst (v := 2) hx hb dX2_isBeyond_30 (by decide) ?_
    refine ra_l (f := (cs_lim S)) hx hb hK hP 2 1 rfl rfl 2 rfl (Nat.le_of_ble_eq_true rfl) (Nat.le_of_ble_eq_true rfl) dX2_isBeyond_31 ?_
    refine il_gt (tgt := 50) hx hb dX2_isBeyond_32 dX2_isBeyond_33 (by decide) (fun h_3 => ?_) (fun h_3 => ?_)
    · refine lv_iconst (v := 1) hx hb dX2_isBeyond_50 (by decide) ?_
      refine lv_goto (tgt := 55) hx hb dX2_isBeyond_51 (by decide) ?_
      exact W.zret (v := 1) hx hb hr rfl (fun t ht hW => ⟨1, rfl, (by simp only [sBey, if_pos h_2, if_pos h_3]), ht⟩) (fun q hq => absurd hq List.not_mem_nil) dX2_isBeyond_55
    · refine lv_lload_n hx hb dX2_isBeyond_36 rfl (lv_at hl 2 rfl) ?_
      refine va_mabs_long hx hb (hml.trans hl.1.symm) hown (hts (.methodLink RX2 167 Lib.MathLoose.abs_long.x) (by decide +kernel)) (hts (.static Lib.MathLoose.abs_long.x) (by decide +kernel)) (hts (.initialized "java/lang/Math") (by decide +kernel)) (hts (.code Lib.MathLoose.abs_long.x Lib.MathLoose.abs_long.code 2 (some .long)) (by decide +kernel)) (Nat.le_of_ble_eq_true rfl) (Nat.le_of_ble_eq_true rfl) (Nat.le_of_ble_eq_true rfl) (Nat.le_of_ble_eq_true rfl) dX2_isBeyond_37 ?_
      refine W.eqs (st2 := [.long (labs cur)]) rfl ?_
      refine lv_aload_n hx hb dX2_isBeyond_40 rfl (lv_at hl 0 rfl) ?_
      refine va_get (D := D) (ci := 3) (v := .ref (a 2)) (C := RX2) (T := TX2) (N := 8) hx hb hts iX2_isBeyond_X2 hown hK hP 0 rfl rfl 1 (by decide) (hts (.fieldLink RX2 25 "CellRows2" "limits" "[J") (by decide +kernel)) (fun _ h9 => h9) rfl dX2_isBeyond_41 ?_
      refine lv_iconst (v := 3) hx hb dX2_isBeyond_44 (by decide) ?_
      refine ra_l (f := (cs_lim S)) hx hb hK hP 2 1 rfl rfl 3 rfl (Nat.le_of_ble_eq_true rfl) (Nat.le_of_ble_eq_true rfl) dX2_isBeyond_45 ?_
      refine il_le (tgt := 54) hx hb dX2_isBeyond_46 dX2_isBeyond_47 (by decide) (fun h_4 => ?_) (fun h_4 => ?_)
      · refine lv_iconst (v := 0) hx hb dX2_isBeyond_54 (by decide) ?_
        exact W.zret (v := 0) hx hb hr rfl (fun t ht hW => ⟨0, rfl, (by simp only [sBey, if_pos h_2, if_neg h_3, if_neg h_4]), ht⟩) (fun q hq => absurd hq List.not_mem_nil) dX2_isBeyond_55
      · refine lv_iconst (v := 1) hx hb dX2_isBeyond_50 (by decide) ?_
        refine lv_goto (tgt := 55) hx hb dX2_isBeyond_51 (by decide) ?_
        exact W.zret (v := 1) hx hb hr rfl (fun t ht hW => ⟨1, rfl, (by simp only [sBey, if_pos h_2, if_neg h_3, if_pos h_4]), ht⟩) (fun q hq => absurd hq List.not_mem_nil) dX2_isBeyond_55
set_option maxRecDepth 20000 in
theorem iX2_isStuck_X2 : ∀ w ∈ wsX20, w ∈ wsX2_isStuck := by decide +kernel
set_option maxHeartbeats 4000000 in
set_option maxRecDepth 100000 in
theorem kX2_isStuck (l : Launch) (D : va_G) (cy : Nat → ClassId) (a : Nat → Nat) (n : Nat) (S : CS) (sz : Nat) (p0 : Int32) : Met l yX2_isStuck wsX2_isStuck ({ frames := 0, cells := 0, slots := 0, locals := 0 }) (va_Pc [.ref (a 0), .int p0] (pX D cy a n S sz)) (vp_Si (fun r => r = sStk S p0)) 0 0 (fun _ => False) := by
  refine Met.ofW (cc := cX2_isStuck) (maxL := 2) (ret := (some .boolean)) (by decide) rfl ?_
  intro p e s m args below meth c s₁ B hml hv
  obtain ⟨rfl, hsz, hP, hK, hD0, hN⟩ := hv
  have hx := B.exec
  have hb := B.bytes
  have hr := B.returns
  have hts := atoms_spec (ws := wsX2_isStuck) B.pre
  have hown : s.vm.findClass RX2 = some m.cls := findClass_of_methodNamed B.named
  have hlocks := B.notSynchronized
  have hD := hD0
  have hl := lv_entry ([.ref (a 0), .int p0]) (n := 2) (Nat.le_of_ble_eq_true rfl)
  rw [lg_entry_eq]
  generalize (lg_sl ([.ref (a 0), .int p0]) ++ List.replicate (2 - (lg_sl ([.ref (a 0), .int p0])).length) Slot.unset).toArray = ls at hl ⊢
  have hl : lv_has ls 2 [(0, .ref (a 0)), (1, .int p0)] := hl
  refine lv_iload_n hx hb dX2_isStuck_0 rfl (lv_at hl 1 rfl) ?_
  refine iz_lt (tgt := 26) hx hb dX2_isStuck_1 (by decide) (fun h_1 => ?_) (fun h_1 => ?_)
  · refine lv_iconst (v := 0) hx hb dX2_isStuck_26 (by decide) ?_
    exact W.zret (v := 0) hx hb hr rfl (fun t ht hW => ⟨0, rfl, (by simp only [sStk, Option.elim_none, Option.map_none, if_pos h_1, ix_neg h_1]), ht⟩) (fun q hq => absurd hq List.not_mem_nil) dX2_isStuck_27
  · refine lv_iload_n hx hb dX2_isStuck_4 rfl (lv_at hl 1 rfl) ?_
    refine lv_aload_n hx hb dX2_isStuck_5 rfl (lv_at hl 0 rfl) ?_
    refine va_get (D := D) (ci := 3) (v := .ref (a 3)) (C := RX2) (T := TX2) (N := 8) hx hb hts iX2_isStuck_X2 hown hK hP 0 rfl rfl 2 (by decide) (hts (.fieldLink RX2 28 "CellRows2" "stuckContactors" "[Z") (by decide +kernel)) (fun _ h9 => h9) rfl dX2_isStuck_6 ?_
    refine va_alen (v := nI 3) hx hb hK hP 3 2 rfl rfl rfl dX2_isStuck_9 ?_
    refine ib_ge (tgt := 26) hx hb dX2_isStuck_10 (by decide) (fun h_2 => ?_) (fun h_2 => ?_)
    · refine lv_iconst (v := 0) hx hb dX2_isStuck_26 (by decide) ?_
      exact W.zret (v := 0) hx hb hr rfl (fun t ht hW => ⟨0, rfl, (by simp only [sStk, Option.elim_none, Option.map_none, if_neg h_1, if_neg h_2, ix_big h_2]), ht⟩) (fun q hq => absurd hq List.not_mem_nil) dX2_isStuck_27
    · obtain ⟨j, hj, rfl⟩ := ix_of (n := 3) (by omega) h_1 h_2
      have e_ix := ix_at (n := 3) (by omega) hj
      refine lv_aload_n hx hb dX2_isStuck_13 rfl (lv_at hl 0 rfl) ?_
      refine va_get (D := D) (ci := 3) (v := .ref (a 3)) (C := RX2) (T := TX2) (N := 8) hx hb hts iX2_isStuck_X2 hown hK hP 0 rfl rfl 2 (by decide) (hts (.fieldLink RX2 28 "CellRows2" "stuckContactors" "[Z") (by decide +kernel)) (fun _ h9 => h9) rfl dX2_isStuck_14 ?_
      refine lv_iload_n hx hb dX2_isStuck_17 rfl (lv_at hl 1 rfl) ?_
      refine ra_z (f := (cs_stk S)) hx hb hK hP 3 2 rfl rfl j rfl (by omega) (Nat.le_of_ble_eq_true rfl) dX2_isStuck_18 ?_
      refine iz_eq (tgt := 26) hx hb dX2_isStuck_19 (by decide) (fun h_3 => ?_) (fun h_3 => ?_)
      · refine lv_iconst (v := 0) hx hb dX2_isStuck_26 (by decide) ?_
        exact W.zret (v := 0) hx hb hr rfl (fun t ht hW => ⟨0, rfl, (by simp only [sStk, Option.elim_none, Option.map_none, if_neg h_1, if_pos h_2, e_ix, Option.elim_some, Option.map_some, if_pos h_3]), ht⟩) (fun q hq => absurd hq List.not_mem_nil) dX2_isStuck_27
      · refine lv_iconst (v := 1) hx hb dX2_isStuck_22 (by decide) ?_
        refine lv_goto (tgt := 27) hx hb dX2_isStuck_23 (by decide) ?_
        exact W.zret (v := 1) hx hb hr rfl (fun t ht hW => ⟨1, rfl, (by simp only [sStk, Option.elim_none, Option.map_none, if_neg h_1, if_pos h_2, e_ix, Option.elim_some, Option.map_some, if_neg h_3]), ht⟩) (fun q hq => absurd hq List.not_mem_nil) dX2_isStuck_27
set_option maxRecDepth 20000 in
theorem iX2_noteFault_X2 : ∀ w ∈ wsX20, w ∈ wsX2_noteFault := by decide +kernel
set_option maxHeartbeats 4000000 in
set_option maxRecDepth 100000 in
theorem kX2_noteFault (l : Launch) (D : va_G) (cy : Nat → ClassId) (a : Nat → Nat) (n : Nat) (S : CS) (sz : Nat) (k : Int32) (hf : cs_fc S < 1024) : Met l yX2_noteFault wsX2_noteFault ({ frames := 0, cells := 0, slots := 0, locals := 0 }) (va_Pc [.ref (a 0), .int k] (pX D cy a n S sz)) (va_Qv (fun u : CS => u = sNote S k) (eX D cy a n (va_A (wX cy a n S) sz)) (va_A (wX cy a n S) sz)) 0 0 (va_A (wX cy a n S) sz) := by
  refine Met.ofW (cc := cX2_noteFault) (maxL := 2) (ret := none) (by decide) rfl ?_
  intro p e s m args below meth c s₁ B hml hv
  obtain ⟨rfl, hsz, hP, hK, hD0, hN⟩ := hv
  have hx := B.exec
  have hb := B.bytes
  have hr := B.returns
  have hts := atoms_spec (ws := wsX2_noteFault) B.pre
  have hown : s.vm.findClass RX2 = some m.cls := findClass_of_methodNamed B.named
  have hlocks := B.notSynchronized
  subst hsz
  have hD := hD0.self (sz := s.heap.size)
  generalize hAe : va_A (wX cy a n S) s.heap.size = A at hD ⊢
  have hA : ∀ q : Nat, s.heap.size ≤ q → A q := fun q h => by rw [← hAe]; exact Or.inr h
  have hS : va_S A s.heap s.heap [] := va_S.rf
  have hl := lv_entry ([.ref (a 0), .int k]) (n := 2) (Nat.le_of_ble_eq_true rfl)
  rw [lg_entry_eq]
  generalize (lg_sl ([.ref (a 0), .int k]) ++ List.replicate (2 - (lg_sl ([.ref (a 0), .int k])).length) Slot.unset).toArray = ls at hl ⊢
  have hl : lv_has ls 2 [(0, .ref (a 0)), (1, .int k)] := hl
  refine lv_aload_n hx hb dX2_noteFault_0 rfl (lv_at hl 0 rfl) ?_
  refine lv_iconst (v := 0) hx hb dX2_noteFault_1 (by decide) ?_
  refine va_put (D := D) (ci := 3) (v := .int 0) (ty := .int) (C := RX2) (T := TX2) (N := 8) hx hb hts iX2_noteFault_X2 tyX2 tyX2_ok nmX2 hown hK hP hD hS 0 rfl rfl 5 (by decide) (hts (.fieldLink RX2 110 "CellRows2" "stage" "I") (by decide +kernel)) (fun _ h9 => h9) rfl (by decide +kernel) rfl rfl (Nat.le_of_ble_eq_true rfl) dX2_noteFault_2 (fun H1 locs1 hP hD hS => ?_)
  have hP : va_P D vwCl (wX cy a n (cs_set_st S 0)) H1 := hP
  have hD : va_D A (wX cy a n (cs_set_st S 0)) := hD
  refine lv_aload_n hx hb dX2_noteFault_5 rfl (lv_at hl 0 rfl) ?_
  refine va_get (D := D) (ci := 3) (v := .int (nI (cs_fc S))) (C := RX2) (T := TX2) (N := 8) hx hb hts iX2_noteFault_X2 hown hK hP 0 rfl rfl 7 (by decide) (hts (.fieldLink RX2 158 "CellRows2" "faultCount" "I") (by decide +kernel)) (fun _ h9 => h9) rfl dX2_noteFault_6 ?_
  refine lv_aload_n hx hb dX2_noteFault_9 rfl (lv_at hl 0 rfl) ?_
  refine va_get (D := D) (ci := 3) (v := .ref (a 4)) (C := RX2) (T := TX2) (N := 8) hx hb hts iX2_noteFault_X2 hown hK hP 0 rfl rfl 3 (by decide) (hts (.fieldLink RX2 32 "CellRows2" "faults" "[I") (by decide +kernel)) (fun _ h9 => h9) rfl dX2_noteFault_10 ?_
  refine va_alen (v := nI 1024) hx hb hK hP 4 3 rfl rfl rfl dX2_noteFault_13 ?_
  refine ib_ge (tgt := 37) hx hb dX2_noteFault_14 (by decide) (fun h_2 => ?_) (fun h_2 => ?_)
  · exact absurd (nI_lt hf (by omega)) h_2
  · refine lv_aload_n hx hb dX2_noteFault_17 rfl (lv_at hl 0 rfl) ?_
    refine va_get (D := D) (ci := 3) (v := .ref (a 4)) (C := RX2) (T := TX2) (N := 8) hx hb hts iX2_noteFault_X2 hown hK hP 0 rfl rfl 3 (by decide) (hts (.fieldLink RX2 32 "CellRows2" "faults" "[I") (by decide +kernel)) (fun _ h9 => h9) rfl dX2_noteFault_18 ?_
    refine lv_aload_n hx hb dX2_noteFault_21 rfl (lv_at hl 0 rfl) ?_
    refine va_get (D := D) (ci := 3) (v := .int (nI (cs_fc S))) (C := RX2) (T := TX2) (N := 8) hx hb hts iX2_noteFault_X2 hown hK hP 0 rfl rfl 7 (by decide) (hts (.fieldLink RX2 158 "CellRows2" "faultCount" "I") (by decide +kernel)) (fun _ h9 => h9) rfl dX2_noteFault_22 ?_
    refine lv_iload_n hx hb dX2_noteFault_25 rfl (lv_at hl 1 rfl) ?_
    refine rs_i (f := (cs_flt S)) hx hb hK hP hD hS 4 3 rfl rfl (cs_fc S) rfl (by omega) (Nat.le_of_ble_eq_true rfl) dX2_noteFault_26 (fun H3 locs3 hP hD hS => ?_)
    have hP : va_P D vwCl (wX cy a n (cs_set_flt (cs_set_st S 0) (va_up (cs_flt S) (cs_fc S) k))) H3 := hP
    have hD : va_D A (wX cy a n (cs_set_flt (cs_set_st S 0) (va_up (cs_flt S) (cs_fc S) k))) := hD
    refine lv_aload_n hx hb dX2_noteFault_27 rfl (lv_at hl 0 rfl) ?_
    refine lv_dup hx hb dX2_noteFault_28 rfl ?_
    refine va_get (D := D) (ci := 3) (v := .int (nI (cs_fc S))) (C := RX2) (T := TX2) (N := 8) hx hb hts iX2_noteFault_X2 hown hK hP 0 rfl rfl 7 (by decide) (hts (.fieldLink RX2 158 "CellRows2" "faultCount" "I") (by decide +kernel)) (fun _ h9 => h9) rfl dX2_noteFault_29 ?_
    refine lv_iconst (v := 1) hx hb dX2_noteFault_32 (by decide) ?_
    refine lv_iadd hx hb dX2_noteFault_33 ?_
    refine W.eqi (nI_1 (cs_fc S)) ?_
    refine va_put (D := D) (ci := 3) (v := .int (nI ((cs_fc S) + 1))) (ty := .int) (C := RX2) (T := TX2) (N := 8) hx hb hts iX2_noteFault_X2 tyX2 tyX2_ok nmX2 hown hK hP hD hS 0 rfl rfl 7 (by decide) (hts (.fieldLink RX2 158 "CellRows2" "faultCount" "I") (by decide +kernel)) (fun _ h9 => h9) rfl (by decide +kernel) rfl rfl (Nat.le_of_ble_eq_true rfl) dX2_noteFault_34 (fun H4 locs4 hP hD hS => ?_)
    have hP : va_P D vwCl (wX cy a n (cs_set_fc (cs_set_flt (cs_set_st S 0) (va_up (cs_flt S) (cs_fc S) k)) ((cs_fc S) + 1))) H4 := hP
    have hD : va_D A (wX cy a n (cs_set_fc (cs_set_flt (cs_set_st S 0) (va_up (cs_flt S) (cs_fc S) k)) ((cs_fc S) + 1))) := hD
    exact W.vret hx hb hr (fun t ht hW => ⟨⟨(cs_set_fc (cs_set_flt (cs_set_st S 0) (va_up (cs_flt S) (cs_fc S) k)) ((cs_fc S) + 1)), rfl, rfl, by rw [ht]; exact hP, va_K.moved hW.alike hK, hD⟩, hS.F ht⟩) hS.2.2 dX2_noteFault_37
set_option maxRecDepth 20000 in
theorem iX1_keepCycle_X1 : ∀ w ∈ wsX10, w ∈ wsX1_keepCycle := by decide +kernel
set_option maxHeartbeats 4000000 in
set_option maxRecDepth 100000 in
theorem kX1_keepCycle (l : Launch) (D : va_G) (cy : Nat → ClassId) (a : Nat → Nat) (n : Nat) (S : CS) (sz : Nat) (r w : Int64) (hc : cs_cyc S < 256) : Met l yX1_keepCycle wsX1_keepCycle ({ frames := 0, cells := 0, slots := 0, locals := 0 }) (va_Pc [.ref (a 5), .long r, .long w] (pX D cy a n S sz)) (va_Qv (fun u : CS => u = sKeep S r w) (eX D cy a n (va_A (wX cy a n S) sz)) (va_A (wX cy a n S) sz)) 0 0 (va_A (wX cy a n S) sz) := by
  refine Met.ofW (cc := cX1_keepCycle) (maxL := 5) (ret := none) (by decide) rfl ?_
  intro p e s m args below meth c s₁ B hml hv
  obtain ⟨rfl, hsz, hP, hK, hD0, hN⟩ := hv
  have hx := B.exec
  have hb := B.bytes
  have hr := B.returns
  have hts := atoms_spec (ws := wsX1_keepCycle) B.pre
  have hown : s.vm.findClass RX1 = some m.cls := findClass_of_methodNamed B.named
  have hlocks := B.notSynchronized
  subst hsz
  have hD := hD0.self (sz := s.heap.size)
  generalize hAe : va_A (wX cy a n S) s.heap.size = A at hD ⊢
  have hA : ∀ q : Nat, s.heap.size ≤ q → A q := fun q h => by rw [← hAe]; exact Or.inr h
  have hS : va_S A s.heap s.heap [] := va_S.rf
  have hl := lv_entry ([.ref (a 5), .long r, .long w]) (n := 5) (Nat.le_of_ble_eq_true rfl)
  rw [lg_entry_eq]
  generalize (lg_sl ([.ref (a 5), .long r, .long w]) ++ List.replicate (5 - (lg_sl ([.ref (a 5), .long r, .long w])).length) Slot.unset).toArray = ls at hl ⊢
  have hl : lv_has ls 5 [(0, .ref (a 5)), (1, .long r), (3, .long w)] := hl
  refine lv_aload_n hx hb dX1_keepCycle_0 rfl (lv_at hl 0 rfl) ?_
  refine va_get (D := D) (ci := 2) (v := .int (nI (cs_cyc S))) (C := RX1) (T := TX1) (N := 5) hx hb hts iX1_keepCycle_X1 hown hK hP 5 rfl rfl 4 (by decide) (hts (.fieldLink RX1 46 "CellRows2$Turns" "cycleCount" "I") (by decide +kernel)) (fun _ h9 => h9) rfl dX1_keepCycle_1 ?_
  refine lv_aload_n hx hb dX1_keepCycle_4 rfl (lv_at hl 0 rfl) ?_
  refine va_get (D := D) (ci := 2) (v := .ref (a 7)) (C := RX1) (T := TX1) (N := 5) hx hb hts iX1_keepCycle_X1 hown hK hP 5 rfl rfl 1 (by decide) (hts (.fieldLink RX1 15 "CellRows2$Turns" "cycleRanges" "[J") (by decide +kernel)) (fun _ h9 => h9) rfl dX1_keepCycle_5 ?_
  refine va_alen (v := nI 256) hx hb hK hP 7 5 rfl rfl rfl dX1_keepCycle_8 ?_
  refine ib_ge (tgt := 42) hx hb dX1_keepCycle_9 (by decide) (fun h_1 => ?_) (fun h_1 => ?_)
  · exact absurd (nI_lt hc (by omega)) h_1
  · refine lv_aload_n hx hb dX1_keepCycle_12 rfl (lv_at hl 0 rfl) ?_
    refine va_get (D := D) (ci := 2) (v := .ref (a 7)) (C := RX1) (T := TX1) (N := 5) hx hb hts iX1_keepCycle_X1 hown hK hP 5 rfl rfl 1 (by decide) (hts (.fieldLink RX1 15 "CellRows2$Turns" "cycleRanges" "[J") (by decide +kernel)) (fun _ h9 => h9) rfl dX1_keepCycle_13 ?_
    refine lv_aload_n hx hb dX1_keepCycle_16 rfl (lv_at hl 0 rfl) ?_
    refine va_get (D := D) (ci := 2) (v := .int (nI (cs_cyc S))) (C := RX1) (T := TX1) (N := 5) hx hb hts iX1_keepCycle_X1 hown hK hP 5 rfl rfl 4 (by decide) (hts (.fieldLink RX1 46 "CellRows2$Turns" "cycleCount" "I") (by decide +kernel)) (fun _ h9 => h9) rfl dX1_keepCycle_17 ?_
    refine lv_lload_n hx hb dX1_keepCycle_20 rfl (lv_at hl 1 rfl) ?_
    refine rs_l (f := (cs_rng S)) hx hb hK hP hD hS 7 5 rfl rfl (cs_cyc S) rfl (by omega) (Nat.le_of_ble_eq_true rfl) dX1_keepCycle_21 (fun H2 locs2 hP hD hS => ?_)
    have hP : va_P D vwCl (wX cy a n (cs_set_rng S (va_up (cs_rng S) (cs_cyc S) r))) H2 := hP
    have hD : va_D A (wX cy a n (cs_set_rng S (va_up (cs_rng S) (cs_cyc S) r))) := hD
    refine lv_aload_n hx hb dX1_keepCycle_22 rfl (lv_at hl 0 rfl) ?_
    refine va_get (D := D) (ci := 2) (v := .ref (a 8)) (C := RX1) (T := TX1) (N := 5) hx hb hts iX1_keepCycle_X1 hown hK hP 5 rfl rfl 2 (by decide) (hts (.fieldLink RX1 18 "CellRows2$Turns" "cycleLows" "[J") (by decide +kernel)) (fun _ h9 => h9) rfl dX1_keepCycle_23 ?_
    refine lv_aload_n hx hb dX1_keepCycle_26 rfl (lv_at hl 0 rfl) ?_
    refine va_get (D := D) (ci := 2) (v := .int (nI (cs_cyc S))) (C := RX1) (T := TX1) (N := 5) hx hb hts iX1_keepCycle_X1 hown hK hP 5 rfl rfl 4 (by decide) (hts (.fieldLink RX1 46 "CellRows2$Turns" "cycleCount" "I") (by decide +kernel)) (fun _ h9 => h9) rfl dX1_keepCycle_27 ?_
    refine lv_lload_n hx hb dX1_keepCycle_30 rfl (lv_at hl 2 rfl) ?_
    refine rs_l (f := (cs_low S)) hx hb hK hP hD hS 8 6 rfl rfl (cs_cyc S) rfl (by omega) (Nat.le_of_ble_eq_true rfl) dX1_keepCycle_31 (fun H3 locs3 hP hD hS => ?_)
    have hP : va_P D vwCl (wX cy a n (cs_set_low (cs_set_rng S (va_up (cs_rng S) (cs_cyc S) r)) (va_up (cs_low S) (cs_cyc S) w))) H3 := hP
    have hD : va_D A (wX cy a n (cs_set_low (cs_set_rng S (va_up (cs_rng S) (cs_cyc S) r)) (va_up (cs_low S) (cs_cyc S) w))) := hD
    refine lv_aload_n hx hb dX1_keepCycle_32 rfl (lv_at hl 0 rfl) ?_
    refine lv_dup hx hb dX1_keepCycle_33 rfl ?_
    refine va_get (D := D) (ci := 2) (v := .int (nI (cs_cyc S))) (C := RX1) (T := TX1) (N := 5) hx hb hts iX1_keepCycle_X1 hown hK hP 5 rfl rfl 4 (by decide) (hts (.fieldLink RX1 46 "CellRows2$Turns" "cycleCount" "I") (by decide +kernel)) (fun _ h9 => h9) rfl dX1_keepCycle_34 ?_
    refine lv_iconst (v := 1) hx hb dX1_keepCycle_37 (by decide) ?_
    refine lv_iadd hx hb dX1_keepCycle_38 ?_
    refine W.eqi (nI_1 (cs_cyc S)) ?_
    refine va_put (D := D) (ci := 2) (v := .int (nI ((cs_cyc S) + 1))) (ty := .int) (C := RX1) (T := TX1) (N := 5) hx hb hts iX1_keepCycle_X1 tyX1 tyX1_ok nmX1 hown hK hP hD hS 5 rfl rfl 4 (by decide) (hts (.fieldLink RX1 46 "CellRows2$Turns" "cycleCount" "I") (by decide +kernel)) (fun _ h9 => h9) rfl (by decide +kernel) rfl rfl (Nat.le_of_ble_eq_true rfl) dX1_keepCycle_39 (fun H4 locs4 hP hD hS => ?_)
    have hP : va_P D vwCl (wX cy a n (cs_set_cyc (cs_set_low (cs_set_rng S (va_up (cs_rng S) (cs_cyc S) r)) (va_up (cs_low S) (cs_cyc S) w)) ((cs_cyc S) + 1))) H4 := hP
    have hD : va_D A (wX cy a n (cs_set_cyc (cs_set_low (cs_set_rng S (va_up (cs_rng S) (cs_cyc S) r)) (va_up (cs_low S) (cs_cyc S) w)) ((cs_cyc S) + 1))) := hD
    exact W.vret hx hb hr (fun t ht hW => ⟨⟨(cs_set_cyc (cs_set_low (cs_set_rng S (va_up (cs_rng S) (cs_cyc S) r)) (va_up (cs_low S) (cs_cyc S) w)) ((cs_cyc S) + 1)), rfl, rfl, by rw [ht]; exact hP, va_K.moved hW.alike hK, hD⟩, hS.F ht⟩) hS.2.2 dX1_keepCycle_42
set_option maxRecDepth 20000 in
theorem iX1_goesOn_X1 : ∀ w ∈ wsX10, w ∈ wsX1_goesOn := by decide +kernel
set_option maxHeartbeats 4000000 in
set_option maxRecDepth 100000 in
theorem kX1_goesOn (l : Launch) (D : va_G) (cy : Nat → ClassId) (a : Nat → Nat) (n : Nat) (S : CS) (sz : Nat) (v : Int64) (hp : cs_pc S ≤ 500) : Met l yX1_goesOn wsX1_goesOn ({ frames := 0, cells := 0, slots := 0, locals := 0 }) (va_Pc [.ref (a 5), .long v] (pX D cy a n S sz)) (vp_Si (fun r => r = sGo (cs_pts S) (cs_pc S) v)) 0 0 (fun _ => False) := by
  refine Met.ofW (cc := cX1_goesOn) (maxL := 5) (ret := (some .boolean)) (by decide) rfl ?_
  intro p e s m args below meth c s₁ B hml hv
  obtain ⟨rfl, hsz, hP, hK, hD0, hN⟩ := hv
  have hx := B.exec
  have hb := B.bytes
  have hr := B.returns
  have hts := atoms_spec (ws := wsX1_goesOn) B.pre
  have hown : s.vm.findClass RX1 = some m.cls := findClass_of_methodNamed B.named
  have hlocks := B.notSynchronized
  have hD := hD0
  have hl := lv_entry ([.ref (a 5), .long v]) (n := 5) (Nat.le_of_ble_eq_true rfl)
  rw [lg_entry_eq]
  generalize (lg_sl ([.ref (a 5), .long v]) ++ List.replicate (5 - (lg_sl ([.ref (a 5), .long v])).length) Slot.unset).toArray = ls at hl ⊢
  have hl : lv_has ls 5 [(0, .ref (a 5)), (1, .long v)] := hl
  refine lv_aload_n hx hb dX1_goesOn_0 rfl (lv_at hl 0 rfl) ?_
  refine va_get (D := D) (ci := 2) (v := .int (nI (cs_pc S))) (C := RX1) (T := TX1) (N := 5) hx hb hts iX1_goesOn_X1 hown hK hP 5 rfl rfl 3 (by decide) (hts (.fieldLink RX1 25 "CellRows2$Turns" "pointCount" "I") (by decide +kernel)) (fun _ h9 => h9) rfl dX1_goesOn_1 ?_
  refine lv_iconst (v := 1) hx hb dX1_goesOn_4 (by decide) ?_
  refine ib_ge (tgt := 10) hx hb dX1_goesOn_5 (by decide) (fun h_1 => ?_) (fun h_1 => ?_)
  · have g1 : 1 ≤ cs_pc S := nI_notlt (by omega) h_1
    refine lv_aload_n hx hb dX1_goesOn_10 rfl (lv_at hl 0 rfl) ?_
    refine va_get (D := D) (ci := 2) (v := .ref (a 6)) (C := RX1) (T := TX1) (N := 5) hx hb hts iX1_goesOn_X1 hown hK hP 5 rfl rfl 0 (by decide) (hts (.fieldLink RX1 9 "CellRows2$Turns" "points" "[J") (by decide +kernel)) (fun _ h9 => h9) rfl dX1_goesOn_11 ?_
    refine lv_aload_n hx hb dX1_goesOn_14 rfl (lv_at hl 0 rfl) ?_
    refine va_get (D := D) (ci := 2) (v := .int (nI (cs_pc S))) (C := RX1) (T := TX1) (N := 5) hx hb hts iX1_goesOn_X1 hown hK hP 5 rfl rfl 3 (by decide) (hts (.fieldLink RX1 25 "CellRows2$Turns" "pointCount" "I") (by decide +kernel)) (fun _ h9 => h9) rfl dX1_goesOn_15 ?_
    refine lv_iconst (v := 1) hx hb dX1_goesOn_18 (by decide) ?_
    refine lv_isub hx hb dX1_goesOn_19 ?_
    refine W.eqi (pk_sub (a := (cs_pc S)) (b := 1) (by omega)) ?_
    refine ra_l (f := (cs_pts S)) hx hb hK hP 6 4 rfl rfl ((cs_pc S) - 1) rfl (by omega) (Nat.le_of_ble_eq_true rfl) dX1_goesOn_20 ?_
    refine lv_lstore_n (lv' := [(3, .long ((cs_pts S) ((cs_pc S) - 1))), (0, .ref (a 5)), (1, .long v)]) hx hb dX1_goesOn_21 rfl hl (by decide) rfl (fun ls hl => ?_)
    refine lv_lload_n hx hb dX1_goesOn_22 rfl (lv_at hl 2 rfl) ?_
    refine lv_lload_n hx hb dX1_goesOn_23 rfl (lv_at hl 0 rfl) ?_
    refine il_ne (tgt := 30) hx hb dX1_goesOn_24 dX1_goesOn_25 (by decide) (fun h_2 => ?_) (fun h_2 => ?_)
    · refine lv_aload_n hx hb dX1_goesOn_30 rfl (lv_at hl 1 rfl) ?_
      refine va_get (D := D) (ci := 2) (v := .int (nI (cs_pc S))) (C := RX1) (T := TX1) (N := 5) hx hb hts iX1_goesOn_X1 hown hK hP 5 rfl rfl 3 (by decide) (hts (.fieldLink RX1 25 "CellRows2$Turns" "pointCount" "I") (by decide +kernel)) (fun _ h9 => h9) rfl dX1_goesOn_31 ?_
      refine lv_iconst (v := 1) hx hb dX1_goesOn_34 (by decide) ?_
      refine ib_le (tgt := 77) hx hb dX1_goesOn_35 (by decide) (fun h_3 => ?_) (fun h_3 => ?_)
      · refine lv_iconst (v := 0) hx hb dX1_goesOn_77 (by decide) ?_
        exact W.zret (v := 0) hx hb hr rfl (fun t ht hW => ⟨0, rfl, (by simp only [sGo, if_neg h_1, if_neg h_2, if_neg h_3]), ht⟩) (fun q hq => absurd hq List.not_mem_nil) dX1_goesOn_78
      · have g2 : 1 < cs_pc S := nI_islt (a := 1) (by omega) (by omega) h_3
        refine W.join (P := fun v9 : Int32 => v9 = if ((cs_pts S) ((cs_pc S) - 1)) < v then 1 else 0) (g := fun v9 => F0 m 49 ls [.int v9]) (fun v4 hv4 => ?_) (fun J4 => ?_)
        · subst hv4
          refine W.join (P := fun v9 : Int32 => v9 = if ((cs_pts S) ((cs_pc S) - 2)) < (cs_pts S) ((cs_pc S) - 1) then 1 else 0) (g := fun v9 => F0 m 70 ls [.int v9, .int (if ((cs_pts S) ((cs_pc S) - 1)) < v then 1 else 0)]) (fun v6 hv6 => ?_) (fun J6 => ?_)
          · subst hv6
            refine ib_ne (tgt := 77) hx hb dX1_goesOn_70 (by decide) (fun h_8 => ?_) (fun h_8 => ?_)
            · refine lv_iconst (v := 0) hx hb dX1_goesOn_77 (by decide) ?_
              exact W.zret (v := 0) hx hb hr rfl (fun t ht hW => ⟨0, rfl, (by simp only [sGo, if_neg h_1, if_neg h_2, if_pos h_3, if_neg h_8]), ht⟩) (fun q hq => absurd hq List.not_mem_nil) dX1_goesOn_78
            · refine lv_iconst (v := 1) hx hb dX1_goesOn_73 (by decide) ?_
              refine lv_goto (tgt := 78) hx hb dX1_goesOn_74 (by decide) ?_
              exact W.zret (v := 1) hx hb hr rfl (fun t ht hW => ⟨1, rfl, (by simp only [sGo, if_neg h_1, if_neg h_2, if_pos h_3, if_pos h_8]), ht⟩) (fun q hq => absurd hq List.not_mem_nil) dX1_goesOn_78
          · refine lv_lload_n hx hb dX1_goesOn_49 rfl (lv_at hl 0 rfl) ?_
            refine lv_aload_n hx hb dX1_goesOn_50 rfl (lv_at hl 1 rfl) ?_
            refine va_get (D := D) (ci := 2) (v := .ref (a 6)) (C := RX1) (T := TX1) (N := 5) hx hb hts iX1_goesOn_X1 hown hK hP 5 rfl rfl 0 (by decide) (hts (.fieldLink RX1 9 "CellRows2$Turns" "points" "[J") (by decide +kernel)) (fun _ h9 => h9) rfl dX1_goesOn_51 ?_
            refine lv_aload_n hx hb dX1_goesOn_54 rfl (lv_at hl 1 rfl) ?_
            refine va_get (D := D) (ci := 2) (v := .int (nI (cs_pc S))) (C := RX1) (T := TX1) (N := 5) hx hb hts iX1_goesOn_X1 hown hK hP 5 rfl rfl 3 (by decide) (hts (.fieldLink RX1 25 "CellRows2$Turns" "pointCount" "I") (by decide +kernel)) (fun _ h9 => h9) rfl dX1_goesOn_55 ?_
            refine lv_iconst (v := 2) hx hb dX1_goesOn_58 (by decide) ?_
            refine lv_isub hx hb dX1_goesOn_59 ?_
            refine W.eqi (pk_sub (a := (cs_pc S)) (b := 2) (by omega)) ?_
            refine ra_l (f := (cs_pts S)) hx hb hK hP 6 4 rfl rfl ((cs_pc S) - 2) rfl (by omega) (Nat.le_of_ble_eq_true rfl) dX1_goesOn_60 ?_
            refine il_le (tgt := 69) hx hb dX1_goesOn_61 dX1_goesOn_62 (by decide) (fun h_7 => ?_) (fun h_7 => ?_)
            · refine lv_iconst (v := 0) hx hb dX1_goesOn_69 (by decide) ?_
              exact J6 _ (by simp only [if_neg h_7])
            · refine lv_iconst (v := 1) hx hb dX1_goesOn_65 (by decide) ?_
              refine lv_goto (tgt := 70) hx hb dX1_goesOn_66 (by decide) ?_
              exact J6 _ (by simp only [if_pos h_7])
        · refine lv_lload_n hx hb dX1_goesOn_38 rfl (lv_at hl 2 rfl) ?_
          refine lv_lload_n hx hb dX1_goesOn_39 rfl (lv_at hl 0 rfl) ?_
          refine il_le (tgt := 48) hx hb dX1_goesOn_40 dX1_goesOn_41 (by decide) (fun h_5 => ?_) (fun h_5 => ?_)
          · refine lv_iconst (v := 0) hx hb dX1_goesOn_48 (by decide) ?_
            exact J4 _ (by simp only [if_neg h_5])
          · refine lv_iconst (v := 1) hx hb dX1_goesOn_44 (by decide) ?_
            refine lv_goto (tgt := 49) hx hb dX1_goesOn_45 (by decide) ?_
            exact J4 _ (by simp only [if_pos h_5])
    · refine lv_iconst (v := 1) hx hb dX1_goesOn_28 (by decide) ?_
      exact W.zret (v := 1) hx hb hr rfl (fun t ht hW => ⟨1, rfl, (by simp only [sGo, if_neg h_1, if_pos h_2]), ht⟩) (fun q hq => absurd hq List.not_mem_nil) dX1_goesOn_29
  · refine lv_iconst (v := 0) hx hb dX1_goesOn_8 (by decide) ?_
    exact W.zret (v := 0) hx hb hr rfl (fun t ht hW => ⟨0, rfl, (by simp only [sGo, if_pos h_1]), ht⟩) (fun q hq => absurd hq List.not_mem_nil) dX1_goesOn_9
set_option maxRecDepth 20000 in
theorem iX2_fault_X2 : ∀ w ∈ wsX20, w ∈ wsX2_fault := by decide +kernel
set_option maxHeartbeats 4000000 in
set_option maxRecDepth 100000 in
theorem kX2_fault (l : Launch) (D : va_G) (cy : Nat → ClassId) (a : Nat → Nat) (n : Nat) (S : CS) (sz : Nat) (p0 : Int32) (hf : cs_fc S ≤ 1024) : Met l yX2_fault wsX2_fault ({ frames := 0, cells := 0, slots := 0, locals := 0 }) (va_Pc [.ref (a 0), .int p0] (pX D cy a n S sz)) (vp_Si (fun r => r = (ix (cs_fc S) p0).elim 0 (cs_flt S))) 0 0 (fun _ => False) := by
  refine Met.ofW (cc := cX2_fault) (maxL := 2) (ret := (some .int)) (by decide) rfl ?_
  intro p e s m args below meth c s₁ B hml hv
  obtain ⟨rfl, hsz, hP, hK, hD0, hN⟩ := hv
  have hx := B.exec
  have hb := B.bytes
  have hr := B.returns
  have hts := atoms_spec (ws := wsX2_fault) B.pre
  have hown : s.vm.findClass RX2 = some m.cls := findClass_of_methodNamed B.named
  have hlocks := B.notSynchronized
  have hD := hD0
  have hl := lv_entry ([.ref (a 0), .int p0]) (n := 2) (Nat.le_of_ble_eq_true rfl)
  rw [lg_entry_eq]
  generalize (lg_sl ([.ref (a 0), .int p0]) ++ List.replicate (2 - (lg_sl ([.ref (a 0), .int p0])).length) Slot.unset).toArray = ls at hl ⊢
  have hl : lv_has ls 2 [(0, .ref (a 0)), (1, .int p0)] := hl
  refine lv_iload_n hx hb dX2_fault_0 rfl (lv_at hl 1 rfl) ?_
  refine iz_lt (tgt := 12) hx hb dX2_fault_1 (by decide) (fun h_1 => ?_) (fun h_1 => ?_)
  · refine lv_iconst (v := 0) hx hb dX2_fault_12 (by decide) ?_
    refine lv_goto (tgt := 22) hx hb dX2_fault_13 (by decide) ?_
    exact W.iret (v := 0) hx hb hr (fun t ht hW => ⟨0, rfl, (by simp only [Option.elim_none, Option.map_none, if_pos h_1, ix_neg h_1]), ht⟩) (fun q hq => absurd hq List.not_mem_nil) dX2_fault_22
  · refine lv_iload_n hx hb dX2_fault_4 rfl (lv_at hl 1 rfl) ?_
    refine lv_aload_n hx hb dX2_fault_5 rfl (lv_at hl 0 rfl) ?_
    refine va_get (D := D) (ci := 3) (v := .int (nI (cs_fc S))) (C := RX2) (T := TX2) (N := 8) hx hb hts iX2_fault_X2 hown hK hP 0 rfl rfl 7 (by decide) (hts (.fieldLink RX2 158 "CellRows2" "faultCount" "I") (by decide +kernel)) (fun _ h9 => h9) rfl dX2_fault_6 ?_
    refine ib_lt (tgt := 16) hx hb dX2_fault_9 (by decide) (fun h_2 => ?_) (fun h_2 => ?_)
    · obtain ⟨j, hj, rfl⟩ := ix_of (n := cs_fc S) (by omega) h_1 h_2
      have e_ix := ix_at (n := cs_fc S) (by omega) hj
      refine lv_aload_n hx hb dX2_fault_16 rfl (lv_at hl 0 rfl) ?_
      refine va_get (D := D) (ci := 3) (v := .ref (a 4)) (C := RX2) (T := TX2) (N := 8) hx hb hts iX2_fault_X2 hown hK hP 0 rfl rfl 3 (by decide) (hts (.fieldLink RX2 32 "CellRows2" "faults" "[I") (by decide +kernel)) (fun _ h9 => h9) rfl dX2_fault_17 ?_
      refine lv_iload_n hx hb dX2_fault_20 rfl (lv_at hl 1 rfl) ?_
      refine ra_i (f := (cs_flt S)) hx hb hK hP 4 3 rfl rfl j rfl (by omega) (Nat.le_of_ble_eq_true rfl) dX2_fault_21 ?_
      exact W.iret (v := (cs_flt S) j) hx hb hr (fun t ht hW => ⟨(cs_flt S) j, rfl, (by simp only [Option.elim_none, Option.map_none, if_neg h_1, if_pos h_2, e_ix, Option.elim_some, Option.map_some]), ht⟩) (fun q hq => absurd hq List.not_mem_nil) dX2_fault_22
    · refine lv_iconst (v := 0) hx hb dX2_fault_12 (by decide) ?_
      refine lv_goto (tgt := 22) hx hb dX2_fault_13 (by decide) ?_
      exact W.iret (v := 0) hx hb hr (fun t ht hW => ⟨0, rfl, (by simp only [Option.elim_none, Option.map_none, if_neg h_1, if_neg h_2, ix_big h_2]), ht⟩) (fun q hq => absurd hq List.not_mem_nil) dX2_fault_22
set_option maxRecDepth 20000 in
theorem iX2_cycle_X1 : ∀ w ∈ wsX10, w ∈ wsX2_cycle := by decide +kernel
set_option maxRecDepth 20000 in
theorem iX2_cycle_X2 : ∀ w ∈ wsX20, w ∈ wsX2_cycle := by decide +kernel
set_option maxHeartbeats 4000000 in
set_option maxRecDepth 100000 in
theorem kX2_cycle (l : Launch) (D : va_G) (cy : Nat → ClassId) (a : Nat → Nat) (n : Nat) (S : CS) (sz : Nat) (p0 p1 : Int32) (hc : cs_cyc S ≤ 256) : Met l yX2_cycle wsX2_cycle ({ frames := 0, cells := 0, slots := 0, locals := 0 }) (va_Pc [.ref (a 0), .int p0, .int p1] (pX D cy a n S sz)) (vp_Si (fun r => r = rCyc S p0 p1)) 0 0 (fun _ => False) := by
  refine Met.ofW (cc := cX2_cycle) (maxL := 3) (ret := (some .int)) (by decide) rfl ?_
  intro p e s m args below meth c s₁ B hml hv
  obtain ⟨rfl, hsz, hP, hK, hD0, hN⟩ := hv
  have hx := B.exec
  have hb := B.bytes
  have hr := B.returns
  have hts := atoms_spec (ws := wsX2_cycle) B.pre
  have hown : s.vm.findClass RX2 = some m.cls := findClass_of_methodNamed B.named
  have hlocks := B.notSynchronized
  have hD := hD0
  have hl := lv_entry ([.ref (a 0), .int p0, .int p1]) (n := 3) (Nat.le_of_ble_eq_true rfl)
  rw [lg_entry_eq]
  generalize (lg_sl ([.ref (a 0), .int p0, .int p1]) ++ List.replicate (3 - (lg_sl ([.ref (a 0), .int p0, .int p1])).length) Slot.unset).toArray = ls at hl ⊢
  have hl : lv_has ls 3 [(0, .ref (a 0)), (1, .int p0), (2, .int p1)] := hl
  refine lv_iload_n hx hb dX2_cycle_0 rfl (lv_at hl 1 rfl) ?_
  refine lv_iconst (v := (-1)) hx hb dX2_cycle_1 (by decide) ?_
  refine ib_ne (tgt := 17) hx hb dX2_cycle_2 (by decide) (fun h_1 => ?_) (fun h_1 => ?_)
  · refine lv_iload_n hx hb dX2_cycle_17 rfl (lv_at hl 1 rfl) ?_
    refine iz_lt (tgt := 32) hx hb dX2_cycle_18 (by decide) (fun h_2 => ?_) (fun h_2 => ?_)
    · refine lv_iconst (v := (-1)) hx hb dX2_cycle_32 (by decide) ?_
      exact W.iret (v := (-1)) hx hb hr (fun t ht hW => ⟨(-1), rfl, (by simp only [rCyc, rCyc2, Option.elim_none, Option.map_none, if_neg h_1, if_pos h_2, ix_neg h_2]), ht⟩) (fun q hq => absurd hq List.not_mem_nil) dX2_cycle_33
    · refine lv_iload_n hx hb dX2_cycle_21 rfl (lv_at hl 1 rfl) ?_
      refine lv_aload_n hx hb dX2_cycle_22 rfl (lv_at hl 0 rfl) ?_
      refine va_get (D := D) (ci := 3) (v := .ref (a 5)) (C := RX2) (T := TX2) (N := 8) hx hb hts iX2_cycle_X2 hown hK hP 0 rfl rfl 4 (by decide) (hts (.fieldLink RX2 39 "CellRows2" "turns" "LCellRows2$Turns;") (by decide +kernel)) (fun _ h9 => h9) rfl dX2_cycle_23 ?_
      refine va_getN (D := D) (ci := 2) (v := .int (nI (cs_cyc S))) (C := RX1) (T := TX1) (N := 5) hx hb hts iX2_cycle_X1 hown hK hP 5 rfl rfl 4 (by decide) (va_Nw.use rfl (hN _ (List.mem_of_getElem? (i := 1) rfl))) (fun _ h9 => h9) rfl dX2_cycle_26 ?_
      refine ib_lt (tgt := 34) hx hb dX2_cycle_29 (by decide) (fun h_3 => ?_) (fun h_3 => ?_)
      · obtain ⟨j, hj, rfl⟩ := ix_of (n := cs_cyc S) (by omega) h_2 h_3
        have e_ix := ix_at (n := cs_cyc S) (by omega) hj
        refine lv_iload_n hx hb dX2_cycle_34 rfl (lv_at hl 2 rfl) ?_
        refine iz_ne (tgt := 49) hx hb dX2_cycle_35 (by decide) (fun h_4 => ?_) (fun h_4 => ?_)
        · refine lv_iload_n hx hb dX2_cycle_49 rfl (lv_at hl 2 rfl) ?_
          refine lv_iconst (v := 1) hx hb dX2_cycle_50 (by decide) ?_
          refine ib_ne (tgt := 67) hx hb dX2_cycle_51 (by decide) (fun h_5 => ?_) (fun h_5 => ?_)
          · refine lv_bipush (v := (-2)) hx hb dX2_cycle_67 (by decide) ?_
            exact W.iret (v := (-2)) hx hb hr (fun t ht hW => ⟨(-2), rfl, (by simp only [rCyc, rCyc2, Option.elim_none, Option.map_none, if_neg h_1, if_neg h_2, if_pos h_3, e_ix, Option.elim_some, Option.map_some, if_neg h_4, if_neg h_5]), ht⟩) (fun q hq => absurd hq List.not_mem_nil) dX2_cycle_69
          · refine lv_aload_n hx hb dX2_cycle_54 rfl (lv_at hl 0 rfl) ?_
            refine va_get (D := D) (ci := 3) (v := .ref (a 5)) (C := RX2) (T := TX2) (N := 8) hx hb hts iX2_cycle_X2 hown hK hP 0 rfl rfl 4 (by decide) (hts (.fieldLink RX2 39 "CellRows2" "turns" "LCellRows2$Turns;") (by decide +kernel)) (fun _ h9 => h9) rfl dX2_cycle_55 ?_
            refine va_getN (D := D) (ci := 2) (v := .ref (a 8)) (C := RX1) (T := TX1) (N := 5) hx hb hts iX2_cycle_X1 hown hK hP 5 rfl rfl 2 (by decide) (va_Nw.use rfl (hN _ (List.mem_of_getElem? (i := 3) rfl))) (fun _ h9 => h9) rfl dX2_cycle_58 ?_
            refine lv_iload_n hx hb dX2_cycle_61 rfl (lv_at hl 1 rfl) ?_
            refine ra_l (f := (cs_low S)) hx hb hK hP 8 6 rfl rfl j rfl (by omega) (Nat.le_of_ble_eq_true rfl) dX2_cycle_62 ?_
            refine lv_l2i hx hb dX2_cycle_63 rfl ?_
            refine lv_goto (tgt := 69) hx hb dX2_cycle_64 (by decide) ?_
            exact W.iret (v := (((cs_low S) j)).toInt32) hx hb hr (fun t ht hW => ⟨(((cs_low S) j)).toInt32, rfl, (by simp only [rCyc, rCyc2, Option.elim_none, Option.map_none, if_neg h_1, if_neg h_2, if_pos h_3, e_ix, Option.elim_some, Option.map_some, if_neg h_4, if_pos h_5]), ht⟩) (fun q hq => absurd hq List.not_mem_nil) dX2_cycle_69
        · refine lv_aload_n hx hb dX2_cycle_38 rfl (lv_at hl 0 rfl) ?_
          refine va_get (D := D) (ci := 3) (v := .ref (a 5)) (C := RX2) (T := TX2) (N := 8) hx hb hts iX2_cycle_X2 hown hK hP 0 rfl rfl 4 (by decide) (hts (.fieldLink RX2 39 "CellRows2" "turns" "LCellRows2$Turns;") (by decide +kernel)) (fun _ h9 => h9) rfl dX2_cycle_39 ?_
          refine va_getN (D := D) (ci := 2) (v := .ref (a 7)) (C := RX1) (T := TX1) (N := 5) hx hb hts iX2_cycle_X1 hown hK hP 5 rfl rfl 1 (by decide) (va_Nw.use rfl (hN _ (List.mem_of_getElem? (i := 2) rfl))) (fun _ h9 => h9) rfl dX2_cycle_42 ?_
          refine lv_iload_n hx hb dX2_cycle_45 rfl (lv_at hl 1 rfl) ?_
          refine ra_l (f := (cs_rng S)) hx hb hK hP 7 5 rfl rfl j rfl (by omega) (Nat.le_of_ble_eq_true rfl) dX2_cycle_46 ?_
          refine lv_l2i hx hb dX2_cycle_47 rfl ?_
          exact W.iret (v := (((cs_rng S) j)).toInt32) hx hb hr (fun t ht hW => ⟨(((cs_rng S) j)).toInt32, rfl, (by simp only [rCyc, rCyc2, Option.elim_none, Option.map_none, if_neg h_1, if_neg h_2, if_pos h_3, e_ix, Option.elim_some, Option.map_some, if_pos h_4]), ht⟩) (fun q hq => absurd hq List.not_mem_nil) dX2_cycle_48
      · refine lv_iconst (v := (-1)) hx hb dX2_cycle_32 (by decide) ?_
        exact W.iret (v := (-1)) hx hb hr (fun t ht hW => ⟨(-1), rfl, (by simp only [rCyc, rCyc2, Option.elim_none, Option.map_none, if_neg h_1, if_neg h_2, if_neg h_3, ix_big h_3]), ht⟩) (fun q hq => absurd hq List.not_mem_nil) dX2_cycle_33
  · refine lv_iload_n hx hb dX2_cycle_5 rfl (lv_at hl 2 rfl) ?_
    refine iz_ne (tgt := 17) hx hb dX2_cycle_6 (by decide) (fun h_6 => ?_) (fun h_6 => ?_)
    · refine lv_iload_n hx hb dX2_cycle_17 rfl (lv_at hl 1 rfl) ?_
      refine iz_lt (tgt := 32) hx hb dX2_cycle_18 (by decide) (fun h_7 => ?_) (fun h_7 => ?_)
      · refine lv_iconst (v := (-1)) hx hb dX2_cycle_32 (by decide) ?_
        exact W.iret (v := (-1)) hx hb hr (fun t ht hW => ⟨(-1), rfl, (by simp only [rCyc, rCyc2, Option.elim_none, Option.map_none, if_pos h_1, if_neg h_6, if_pos h_7, ix_neg h_7]), ht⟩) (fun q hq => absurd hq List.not_mem_nil) dX2_cycle_33
      · refine lv_iload_n hx hb dX2_cycle_21 rfl (lv_at hl 1 rfl) ?_
        refine lv_aload_n hx hb dX2_cycle_22 rfl (lv_at hl 0 rfl) ?_
        refine va_get (D := D) (ci := 3) (v := .ref (a 5)) (C := RX2) (T := TX2) (N := 8) hx hb hts iX2_cycle_X2 hown hK hP 0 rfl rfl 4 (by decide) (hts (.fieldLink RX2 39 "CellRows2" "turns" "LCellRows2$Turns;") (by decide +kernel)) (fun _ h9 => h9) rfl dX2_cycle_23 ?_
        refine va_getN (D := D) (ci := 2) (v := .int (nI (cs_cyc S))) (C := RX1) (T := TX1) (N := 5) hx hb hts iX2_cycle_X1 hown hK hP 5 rfl rfl 4 (by decide) (va_Nw.use rfl (hN _ (List.mem_of_getElem? (i := 1) rfl))) (fun _ h9 => h9) rfl dX2_cycle_26 ?_
        refine ib_lt (tgt := 34) hx hb dX2_cycle_29 (by decide) (fun h_8 => ?_) (fun h_8 => ?_)
        · obtain ⟨j, hj, rfl⟩ := ix_of (n := cs_cyc S) (by omega) h_7 h_8
          have e_ix := ix_at (n := cs_cyc S) (by omega) hj
          refine lv_iload_n hx hb dX2_cycle_34 rfl (lv_at hl 2 rfl) ?_
          refine iz_ne (tgt := 49) hx hb dX2_cycle_35 (by decide) (fun h_9 => ?_) (fun h_9 => ?_)
          · refine lv_iload_n hx hb dX2_cycle_49 rfl (lv_at hl 2 rfl) ?_
            refine lv_iconst (v := 1) hx hb dX2_cycle_50 (by decide) ?_
            refine ib_ne (tgt := 67) hx hb dX2_cycle_51 (by decide) (fun h_10 => ?_) (fun h_10 => ?_)
            · refine lv_bipush (v := (-2)) hx hb dX2_cycle_67 (by decide) ?_
              exact W.iret (v := (-2)) hx hb hr (fun t ht hW => ⟨(-2), rfl, (by simp only [rCyc, rCyc2, Option.elim_none, Option.map_none, if_pos h_1, if_neg h_6, if_neg h_7, if_pos h_8, e_ix, Option.elim_some, Option.map_some, if_neg h_9, if_neg h_10]), ht⟩) (fun q hq => absurd hq List.not_mem_nil) dX2_cycle_69
            · refine lv_aload_n hx hb dX2_cycle_54 rfl (lv_at hl 0 rfl) ?_
              refine va_get (D := D) (ci := 3) (v := .ref (a 5)) (C := RX2) (T := TX2) (N := 8) hx hb hts iX2_cycle_X2 hown hK hP 0 rfl rfl 4 (by decide) (hts (.fieldLink RX2 39 "CellRows2" "turns" "LCellRows2$Turns;") (by decide +kernel)) (fun _ h9 => h9) rfl dX2_cycle_55 ?_
              refine va_getN (D := D) (ci := 2) (v := .ref (a 8)) (C := RX1) (T := TX1) (N := 5) hx hb hts iX2_cycle_X1 hown hK hP 5 rfl rfl 2 (by decide) (va_Nw.use rfl (hN _ (List.mem_of_getElem? (i := 3) rfl))) (fun _ h9 => h9) rfl dX2_cycle_58 ?_
              refine lv_iload_n hx hb dX2_cycle_61 rfl (lv_at hl 1 rfl) ?_
              refine ra_l (f := (cs_low S)) hx hb hK hP 8 6 rfl rfl j rfl (by omega) (Nat.le_of_ble_eq_true rfl) dX2_cycle_62 ?_
              refine lv_l2i hx hb dX2_cycle_63 rfl ?_
              refine lv_goto (tgt := 69) hx hb dX2_cycle_64 (by decide) ?_
              exact W.iret (v := (((cs_low S) j)).toInt32) hx hb hr (fun t ht hW => ⟨(((cs_low S) j)).toInt32, rfl, (by simp only [rCyc, rCyc2, Option.elim_none, Option.map_none, if_pos h_1, if_neg h_6, if_neg h_7, if_pos h_8, e_ix, Option.elim_some, Option.map_some, if_neg h_9, if_pos h_10]), ht⟩) (fun q hq => absurd hq List.not_mem_nil) dX2_cycle_69
          · exact absurd h_9 h_6
        · refine lv_iconst (v := (-1)) hx hb dX2_cycle_32 (by decide) ?_
          exact W.iret (v := (-1)) hx hb hr (fun t ht hW => ⟨(-1), rfl, (by simp only [rCyc, rCyc2, Option.elim_none, Option.map_none, if_pos h_1, if_neg h_6, if_neg h_7, if_neg h_8, ix_big h_8]), ht⟩) (fun q hq => absurd hq List.not_mem_nil) dX2_cycle_33
    · refine lv_aload_n hx hb dX2_cycle_9 rfl (lv_at hl 0 rfl) ?_
      refine va_get (D := D) (ci := 3) (v := .ref (a 5)) (C := RX2) (T := TX2) (N := 8) hx hb hts iX2_cycle_X2 hown hK hP 0 rfl rfl 4 (by decide) (hts (.fieldLink RX2 39 "CellRows2" "turns" "LCellRows2$Turns;") (by decide +kernel)) (fun _ h9 => h9) rfl dX2_cycle_10 ?_
      refine va_getN (D := D) (ci := 2) (v := .int (nI (cs_cyc S))) (C := RX1) (T := TX1) (N := 5) hx hb hts iX2_cycle_X1 hown hK hP 5 rfl rfl 4 (by decide) (va_Nw.use rfl (hN _ (List.mem_of_getElem? (i := 1) rfl))) (fun _ h9 => h9) rfl dX2_cycle_13 ?_
      exact W.iret (v := nI (cs_cyc S)) hx hb hr (fun t ht hW => ⟨nI (cs_cyc S), rfl, (by simp only [rCyc, rCyc2, Option.elim_none, Option.map_none, if_pos h_1, if_pos h_6]), ht⟩) (fun q hq => absurd hq List.not_mem_nil) dX2_cycle_16
set_option maxRecDepth 20000 in
theorem iX2_limit_X2 : ∀ w ∈ wsX20, w ∈ wsX2_limit := by decide +kernel
set_option maxHeartbeats 4000000 in
set_option maxRecDepth 100000 in
theorem kX2_limit (l : Launch) (D : va_G) (cy : Nat → ClassId) (a : Nat → Nat) (n : Nat) (S : CS) (sz : Nat) (p0 : Int32) (v : Int64) : Met l yX2_limit wsX2_limit ({ frames := 1, cells := 0, slots := 0, locals := 25 }) (va_Pc [.ref (a 0), .int p0, .long v] (pX D cy a n S sz)) (va_Qi (fun r (u : CS) => r = rLim p0 v ∧ u = gLim S p0 v) (eX D cy a n (va_A (wX cy a n S) sz)) (va_A (wX cy a n S) sz)) 0 0 (va_A (wX cy a n S) sz) := by
  refine Met.ofW (cc := cX2_limit) (maxL := 6) (ret := (some .int)) (by decide) rfl ?_
  intro p e s m args below meth c s₁ B hml hv
  obtain ⟨rfl, hsz, hP, hK, hD0, hN⟩ := hv
  have hx := B.exec
  have hb := B.bytes
  have hr := B.returns
  have hts := atoms_spec (ws := wsX2_limit) B.pre
  have hown : s.vm.findClass RX2 = some m.cls := findClass_of_methodNamed B.named
  have hlocks := B.notSynchronized
  subst hsz
  have hD := hD0.self (sz := s.heap.size)
  generalize hAe : va_A (wX cy a n S) s.heap.size = A at hD ⊢
  have hA : ∀ q : Nat, s.heap.size ≤ q → A q := fun q h => by rw [← hAe]; exact Or.inr h
  have hS : va_S A s.heap s.heap [] := va_S.rf
  have hl := lv_entry ([.ref (a 0), .int p0, .long v]) (n := 6) (Nat.le_of_ble_eq_true rfl)
  rw [lg_entry_eq]
  generalize (lg_sl ([.ref (a 0), .int p0, .long v]) ++ List.replicate (6 - (lg_sl ([.ref (a 0), .int p0, .long v])).length) Slot.unset).toArray = ls at hl ⊢
  have hl : lv_has ls 6 [(0, .ref (a 0)), (1, .int p0), (2, .long v)] := hl
  refine lv_iload_n hx hb dX2_limit_0 rfl (lv_at hl 1 rfl) ?_
  refine iz_lt (tgt := 13) hx hb dX2_limit_1 (by decide) (fun h_1 => ?_) (fun h_1 => ?_)
  · refine lv_iconst (v := (-1)) hx hb dX2_limit_13 (by decide) ?_
    exact W.iret (v := (-1)) hx hb hr (fun t ht hW => ⟨⟨(-1), S, rfl, ⟨(by simp only [rLim, gLim, Option.elim_none, Option.map_none, if_pos h_1, ix_neg h_1]), (by simp only [rLim, gLim, Option.elim_none, Option.map_none, if_pos h_1, ix_neg h_1])⟩, by rw [ht]; exact hP, va_K.moved hW.alike hK, hD⟩, hS.F ht⟩) hS.2.2 dX2_limit_14
  · refine lv_iload_n hx hb dX2_limit_4 rfl (lv_at hl 1 rfl) ?_
    refine lv_aload_n hx hb dX2_limit_5 rfl (lv_at hl 0 rfl) ?_
    refine va_get (D := D) (ci := 3) (v := .ref (a 2)) (C := RX2) (T := TX2) (N := 8) hx hb hts iX2_limit_X2 hown hK hP 0 rfl rfl 1 (by decide) (hts (.fieldLink RX2 25 "CellRows2" "limits" "[J") (by decide +kernel)) (fun _ h9 => h9) rfl dX2_limit_6 ?_
    refine va_alen (v := nI 6) hx hb hK hP 2 1 rfl rfl rfl dX2_limit_9 ?_
    refine ib_lt (tgt := 15) hx hb dX2_limit_10 (by decide) (fun h_2 => ?_) (fun h_2 => ?_)
    · obtain ⟨j, hj, rfl⟩ := ix_of (n := 6) (by omega) h_1 h_2
      have e_ix := ix_at (n := 6) (by omega) hj
      refine W.join (P := fun v9 : Int64 => v9 = if nI j = 5 then 0 else (-1000)) (g := fun v9 => F0 m 27 ls [.long v9]) (fun v3 hv3 => ?_) (fun J3 => ?_)
      · subst hv3
        refine lv_lstore (lv' := [(4, .long (if nI j = 5 then 0 else (-1000))), (0, .ref (a 0)), (1, .int (nI j)), (2, .long v)]) hx hb dX2_limit_27 hl (by decide) rfl (fun ls hl => ?_)
        refine lv_lload_n hx hb dX2_limit_29 rfl (lv_at hl 3 rfl) ?_
        refine lv_lload hx hb dX2_limit_30 (lv_at hl 0 rfl) ?_
        refine lv_ldc2 hx hb hown (hts (.constantLong RX2 127 (1000000)) (by decide +kernel)) dX2_limit_32 ?_
        refine vp_callSi (W.runS (As := [.long v, .long (if nI j = 5 then 0 else (-1000)), .long 1000000]) (rest := []) ⟨hx, hb, hml, hown, hts⟩ (kX2_isOutside l v (if nI j = 5 then 0 else (-1000)) 1000000) (va_cwS 3 hts gX2_limit_X2_isOutside rfl rfl rfl (by decide +kernel) ⟨Nat.le_of_ble_eq_true rfl, Nat.le_of_ble_eq_true rfl⟩) ⟨fun _ _ _ _ q => q, fun U hU hW => ⟨rfl, trivial⟩⟩ rfl rfl hl.1 rfl (lv_room (Nat.le_of_ble_eq_true rfl)) dX2_limit_35 ⟨Nat.le_of_ble_eq_true rfl, Nat.le_of_ble_eq_true rfl⟩) (fun r5 hr5 => ?_)
        obtain rfl : r5 = sOut v (if nI j = 5 then 0 else (-1000)) 1000000 := hr5
        refine iz_eq (tgt := 44) hx hb dX2_limit_38 (by decide) (fun h_6 => ?_) (fun h_6 => ?_)
        · refine lv_aload_n hx hb dX2_limit_44 rfl (lv_at hl 1 rfl) ?_
          refine va_get (D := D) (ci := 3) (v := .ref (a 2)) (C := RX2) (T := TX2) (N := 8) hx hb hts iX2_limit_X2 hown hK hP 0 rfl rfl 1 (by decide) (hts (.fieldLink RX2 25 "CellRows2" "limits" "[J") (by decide +kernel)) (fun _ h9 => h9) rfl dX2_limit_45 ?_
          refine lv_iload_n hx hb dX2_limit_48 rfl (lv_at hl 2 rfl) ?_
          refine lv_lload_n hx hb dX2_limit_49 rfl (lv_at hl 3 rfl) ?_
          refine rs_l (f := (cs_lim S)) hx hb hK hP hD hS 2 1 rfl rfl j rfl (by omega) (Nat.le_of_ble_eq_true rfl) dX2_limit_50 (fun H7 locs7 hP hD hS => ?_)
          have hP : va_P D vwCl (wX cy a n (cs_set_lim S (va_up (cs_lim S) j v))) H7 := hP
          have hD : va_D A (wX cy a n (cs_set_lim S (va_up (cs_lim S) j v))) := hD
          refine lv_iconst (v := 1) hx hb dX2_limit_51 (by decide) ?_
          exact W.iret (v := 1) hx hb hr (fun t ht hW => ⟨⟨1, (cs_set_lim S (va_up (cs_lim S) j v)), rfl, ⟨(by simp only [rLim, gLim, Option.elim_none, Option.map_none, if_neg h_1, if_pos h_2, e_ix, Option.elim_some, Option.map_some, if_pos h_6]), (by simp only [rLim, gLim, Option.elim_none, Option.map_none, if_neg h_1, if_pos h_2, e_ix, Option.elim_some, Option.map_some, if_pos h_6])⟩, by rw [ht]; exact hP, va_K.moved hW.alike hK, hD⟩, hS.F ht⟩) hS.2.2 dX2_limit_52
        · refine lv_bipush (v := (-2)) hx hb dX2_limit_41 (by decide) ?_
          exact W.iret (v := (-2)) hx hb hr (fun t ht hW => ⟨⟨(-2), S, rfl, ⟨(by simp only [rLim, gLim, Option.elim_none, Option.map_none, if_neg h_1, if_pos h_2, e_ix, Option.elim_some, Option.map_some, if_neg h_6]), (by simp only [rLim, gLim, Option.elim_none, Option.map_none, if_neg h_1, if_pos h_2, e_ix, Option.elim_some, Option.map_some, if_neg h_6])⟩, by rw [ht]; exact hP, va_K.moved hW.alike hK, hD⟩, hS.F ht⟩) hS.2.2 dX2_limit_43
      · refine lv_iload_n hx hb dX2_limit_15 rfl (lv_at hl 1 rfl) ?_
        refine lv_iconst (v := 5) hx hb dX2_limit_16 (by decide) ?_
        refine ib_ne (tgt := 24) hx hb dX2_limit_17 (by decide) (fun h_4 => ?_) (fun h_4 => ?_)
        · refine lv_ldc2 hx hb hown (hts (.constantLong RX2 59 (-1000)) (by decide +kernel)) dX2_limit_24 ?_
          exact J3 _ (by simp only [if_neg h_4])
        · refine lv_lconst (v := 0) hx hb dX2_limit_20 (by decide) ?_
          refine lv_goto (tgt := 27) hx hb dX2_limit_21 (by decide) ?_
          exact J3 _ (by simp only [if_pos h_4])
    · refine lv_iconst (v := (-1)) hx hb dX2_limit_13 (by decide) ?_
      exact W.iret (v := (-1)) hx hb hr (fun t ht hW => ⟨⟨(-1), S, rfl, ⟨(by simp only [rLim, gLim, Option.elim_none, Option.map_none, if_neg h_1, if_neg h_2, ix_big h_2]), (by simp only [rLim, gLim, Option.elim_none, Option.map_none, if_neg h_1, if_neg h_2, ix_big h_2])⟩, by rw [ht]; exact hP, va_K.moved hW.alike hK, hD⟩, hS.F ht⟩) hS.2.2 dX2_limit_14
set_option maxRecDepth 20000 in
theorem iX2_stuck_X2 : ∀ w ∈ wsX20, w ∈ wsX2_stuck := by decide +kernel
set_option maxHeartbeats 4000000 in
set_option maxRecDepth 100000 in
theorem kX2_stuck (l : Launch) (D : va_G) (cy : Nat → ClassId) (a : Nat → Nat) (n : Nat) (S : CS) (sz : Nat) (p0 : Int32) : Met l yX2_stuck wsX2_stuck ({ frames := 0, cells := 0, slots := 0, locals := 0 }) (va_Pc [.ref (a 0), .int p0] (pX D cy a n S sz)) (va_Qi (fun r (u : CS) => r = rStu S p0 ∧ u = gStu S p0) (eX D cy a n (va_A (wX cy a n S) sz)) (va_A (wX cy a n S) sz)) 0 0 (va_A (wX cy a n S) sz) := by
  refine Met.ofW (cc := cX2_stuck) (maxL := 2) (ret := (some .int)) (by decide) rfl ?_
  intro p e s m args below meth c s₁ B hml hv
  obtain ⟨rfl, hsz, hP, hK, hD0, hN⟩ := hv
  have hx := B.exec
  have hb := B.bytes
  have hr := B.returns
  have hts := atoms_spec (ws := wsX2_stuck) B.pre
  have hown : s.vm.findClass RX2 = some m.cls := findClass_of_methodNamed B.named
  have hlocks := B.notSynchronized
  subst hsz
  have hD := hD0.self (sz := s.heap.size)
  generalize hAe : va_A (wX cy a n S) s.heap.size = A at hD ⊢
  have hA : ∀ q : Nat, s.heap.size ≤ q → A q := fun q h => by rw [← hAe]; exact Or.inr h
  have hS : va_S A s.heap s.heap [] := va_S.rf
  have hl := lv_entry ([.ref (a 0), .int p0]) (n := 2) (Nat.le_of_ble_eq_true rfl)
  rw [lg_entry_eq]
  generalize (lg_sl ([.ref (a 0), .int p0]) ++ List.replicate (2 - (lg_sl ([.ref (a 0), .int p0])).length) Slot.unset).toArray = ls at hl ⊢
  have hl : lv_has ls 2 [(0, .ref (a 0)), (1, .int p0)] := hl
  refine lv_iload_n hx hb dX2_stuck_0 rfl (lv_at hl 1 rfl) ?_
  refine iz_lt (tgt := 13) hx hb dX2_stuck_1 (by decide) (fun h_1 => ?_) (fun h_1 => ?_)
  · refine lv_iconst (v := (-1)) hx hb dX2_stuck_13 (by decide) ?_
    exact W.iret (v := (-1)) hx hb hr (fun t ht hW => ⟨⟨(-1), S, rfl, ⟨(by simp only [rStu, gStu, Option.elim_none, Option.map_none, if_pos h_1, ix_neg h_1]), (by simp only [rStu, gStu, Option.elim_none, Option.map_none, if_pos h_1, ix_neg h_1])⟩, by rw [ht]; exact hP, va_K.moved hW.alike hK, hD⟩, hS.F ht⟩) hS.2.2 dX2_stuck_14
  · refine lv_iload_n hx hb dX2_stuck_4 rfl (lv_at hl 1 rfl) ?_
    refine lv_aload_n hx hb dX2_stuck_5 rfl (lv_at hl 0 rfl) ?_
    refine va_get (D := D) (ci := 3) (v := .ref (a 3)) (C := RX2) (T := TX2) (N := 8) hx hb hts iX2_stuck_X2 hown hK hP 0 rfl rfl 2 (by decide) (hts (.fieldLink RX2 28 "CellRows2" "stuckContactors" "[Z") (by decide +kernel)) (fun _ h9 => h9) rfl dX2_stuck_6 ?_
    refine va_alen (v := nI 3) hx hb hK hP 3 2 rfl rfl rfl dX2_stuck_9 ?_
    refine ib_lt (tgt := 15) hx hb dX2_stuck_10 (by decide) (fun h_2 => ?_) (fun h_2 => ?_)
    · obtain ⟨j, hj, rfl⟩ := ix_of (n := 3) (by omega) h_1 h_2
      have e_ix := ix_at (n := 3) (by omega) hj
      refine lv_aload_n hx hb dX2_stuck_15 rfl (lv_at hl 0 rfl) ?_
      refine va_get (D := D) (ci := 3) (v := .ref (a 3)) (C := RX2) (T := TX2) (N := 8) hx hb hts iX2_stuck_X2 hown hK hP 0 rfl rfl 2 (by decide) (hts (.fieldLink RX2 28 "CellRows2" "stuckContactors" "[Z") (by decide +kernel)) (fun _ h9 => h9) rfl dX2_stuck_16 ?_
      refine lv_iload_n hx hb dX2_stuck_19 rfl (lv_at hl 1 rfl) ?_
      refine lv_aload_n hx hb dX2_stuck_20 rfl (lv_at hl 0 rfl) ?_
      refine va_get (D := D) (ci := 3) (v := .ref (a 3)) (C := RX2) (T := TX2) (N := 8) hx hb hts iX2_stuck_X2 hown hK hP 0 rfl rfl 2 (by decide) (hts (.fieldLink RX2 28 "CellRows2" "stuckContactors" "[Z") (by decide +kernel)) (fun _ h9 => h9) rfl dX2_stuck_21 ?_
      refine lv_iload_n hx hb dX2_stuck_24 rfl (lv_at hl 1 rfl) ?_
      refine ra_z (f := (cs_stk S)) hx hb hK hP 3 2 rfl rfl j rfl (by omega) (Nat.le_of_ble_eq_true rfl) dX2_stuck_25 ?_
      refine W.join (P := fun v9 : Int32 => v9 = if (cs_stk S) j = 0 then 1 else 0) (g := fun v9 => F0 m 34 ls [.int v9, .int (nI j), .ref (a 3)]) (fun v3 hv3 => ?_) (fun J3 => ?_)
      · subst hv3
        refine rs_z (f := (cs_stk S)) hx hb hK hP hD hS 3 2 rfl rfl i01 j rfl (by omega) (Nat.le_of_ble_eq_true rfl) dX2_stuck_34 (fun H5 locs5 hP hD hS => ?_)
        have hP : va_P D vwCl (wX cy a n (cs_set_stk S (va_up (cs_stk S) j (if (cs_stk S) j = 0 then 1 else 0)))) H5 := hP
        have hD : va_D A (wX cy a n (cs_set_stk S (va_up (cs_stk S) j (if (cs_stk S) j = 0 then 1 else 0)))) := hD
        refine lv_aload_n hx hb dX2_stuck_35 rfl (lv_at hl 0 rfl) ?_
        refine va_get (D := D) (ci := 3) (v := .ref (a 3)) (C := RX2) (T := TX2) (N := 8) hx hb hts iX2_stuck_X2 hown hK hP 0 rfl rfl 2 (by decide) (hts (.fieldLink RX2 28 "CellRows2" "stuckContactors" "[Z") (by decide +kernel)) (fun _ h9 => h9) rfl dX2_stuck_36 ?_
        refine lv_iload_n hx hb dX2_stuck_39 rfl (lv_at hl 1 rfl) ?_
        refine ra_z (f := va_up (cs_stk S) j (if (cs_stk S) j = 0 then 1 else 0)) hx hb hK hP 3 2 rfl rfl j rfl (by omega) (Nat.le_of_ble_eq_true rfl) dX2_stuck_40 ?_
        refine iz_eq (tgt := 48) hx hb dX2_stuck_41 (by decide) (fun h_6 => ?_) (fun h_6 => ?_)
        · refine lv_iconst (v := 0) hx hb dX2_stuck_48 (by decide) ?_
          exact W.iret (v := 0) hx hb hr (fun t ht hW => ⟨⟨0, (cs_set_stk S (va_up (cs_stk S) j (if (cs_stk S) j = 0 then 1 else 0))), rfl, ⟨(by simp only [rStu, gStu, Option.elim_none, Option.map_none, if_neg h_1, if_pos h_2, e_ix, Option.elim_some, Option.map_some, if_pos h_6]), (by simp only [rStu, gStu, Option.elim_none, Option.map_none, if_neg h_1, if_pos h_2, e_ix, Option.elim_some, Option.map_some, if_pos h_6])⟩, by rw [ht]; exact hP, va_K.moved hW.alike hK, hD⟩, hS.F ht⟩) hS.2.2 dX2_stuck_49
        · refine lv_iconst (v := 1) hx hb dX2_stuck_44 (by decide) ?_
          refine lv_goto (tgt := 49) hx hb dX2_stuck_45 (by decide) ?_
          exact W.iret (v := 1) hx hb hr (fun t ht hW => ⟨⟨1, (cs_set_stk S (va_up (cs_stk S) j (if (cs_stk S) j = 0 then 1 else 0))), rfl, ⟨(by simp only [rStu, gStu, Option.elim_none, Option.map_none, if_neg h_1, if_pos h_2, e_ix, Option.elim_some, Option.map_some, if_neg h_6]), (by simp only [rStu, gStu, Option.elim_none, Option.map_none, if_neg h_1, if_pos h_2, e_ix, Option.elim_some, Option.map_some, if_neg h_6])⟩, by rw [ht]; exact hP, va_K.moved hW.alike hK, hD⟩, hS.F ht⟩) hS.2.2 dX2_stuck_49
      · refine iz_ne (tgt := 33) hx hb dX2_stuck_26 (by decide) (fun h_4 => ?_) (fun h_4 => ?_)
        · refine lv_iconst (v := 0) hx hb dX2_stuck_33 (by decide) ?_
          exact J3 _ (by simp only [if_neg h_4])
        · refine lv_iconst (v := 1) hx hb dX2_stuck_29 (by decide) ?_
          refine lv_goto (tgt := 34) hx hb dX2_stuck_30 (by decide) ?_
          exact J3 _ (by simp only [if_pos h_4])
    · refine lv_iconst (v := (-1)) hx hb dX2_stuck_13 (by decide) ?_
      exact W.iret (v := (-1)) hx hb hr (fun t ht hW => ⟨⟨(-1), S, rfl, ⟨(by simp only [rStu, gStu, Option.elim_none, Option.map_none, if_neg h_1, if_neg h_2, ix_big h_2]), (by simp only [rStu, gStu, Option.elim_none, Option.map_none, if_neg h_1, if_neg h_2, ix_big h_2])⟩, by rw [ht]; exact hP, va_K.moved hW.alike hK, hD⟩, hS.F ht⟩) hS.2.2 dX2_stuck_14
set_option maxHeartbeats 4000000 in
set_option maxRecDepth 100000 in
theorem kX2_insulate (l : Launch) (D : va_G) (cy : Nat → ClassId) (a : Nat → Nat) (n : Nat) (S : CS) (sz : Nat) (v : Int64) (hf : cs_fc S < 1024) : Met l yX2_insulate wsX2_insulate ({ frames := 1, cells := 0, slots := 0, locals := 21 }) (va_Pc [.ref (a 0), .long v] (pX D cy a n S sz)) (va_Qi (fun r (u : CS) => r = rIns v ∧ u = gIns S v) (eX D cy a n (va_A (wX cy a n S) sz)) (va_A (wX cy a n S) sz)) 0 0 (va_A (wX cy a n S) sz) := by
  refine Met.ofW (cc := cX2_insulate) (maxL := 3) (ret := (some .int)) (by decide) rfl ?_
  intro p e s m args below meth c s₁ B hml hv
  obtain ⟨rfl, hsz, hP, hK, hD0, hN⟩ := hv
  have hx := B.exec
  have hb := B.bytes
  have hr := B.returns
  have hts := atoms_spec (ws := wsX2_insulate) B.pre
  have hown : s.vm.findClass RX2 = some m.cls := findClass_of_methodNamed B.named
  have hlocks := B.notSynchronized
  subst hsz
  have hD := hD0.self (sz := s.heap.size)
  generalize hAe : va_A (wX cy a n S) s.heap.size = A at hD ⊢
  have hA : ∀ q : Nat, s.heap.size ≤ q → A q := fun q h => by rw [← hAe]; exact Or.inr h
  have hS : va_S A s.heap s.heap [] := va_S.rf
  have hl := lv_entry ([.ref (a 0), .long v]) (n := 3) (Nat.le_of_ble_eq_true rfl)
  rw [lg_entry_eq]
  generalize (lg_sl ([.ref (a 0), .long v]) ++ List.replicate (3 - (lg_sl ([.ref (a 0), .long v])).length) Slot.unset).toArray = ls at hl ⊢
  have hl : lv_has ls 3 [(0, .ref (a 0)), (1, .long v)] := hl
  refine lv_lload_n hx hb dX2_insulate_0 rfl (lv_at hl 1 rfl) ?_
  refine lv_lconst (v := 0) hx hb dX2_insulate_1 (by decide) ?_
  refine il_ge (tgt := 9) hx hb dX2_insulate_2 dX2_insulate_3 (by decide) (fun h_1 => ?_) (fun h_1 => ?_)
  · refine lv_lload_n hx hb dX2_insulate_9 rfl (lv_at hl 1 rfl) ?_
    refine lv_ldc2 hx hb hown (hts (.constantLong RX2 133 (100)) (by decide +kernel)) dX2_insulate_10 ?_
    refine il_ge (tgt := 24) hx hb dX2_insulate_13 dX2_insulate_14 (by decide) (fun h_2 => ?_) (fun h_2 => ?_)
    · refine lv_iconst (v := 1) hx hb dX2_insulate_24 (by decide) ?_
      exact W.iret (v := 1) hx hb hr (fun t ht hW => ⟨⟨1, S, rfl, ⟨(by simp only [rIns, gIns, if_neg h_1, if_neg h_2]), (by simp only [rIns, gIns, if_neg h_1, if_neg h_2])⟩, by rw [ht]; exact hP, va_K.moved hW.alike hK, hD⟩, hS.F ht⟩) hS.2.2 dX2_insulate_25
    · refine lv_aload_n hx hb dX2_insulate_17 rfl (lv_at hl 0 rfl) ?_
      refine lv_iconst (v := 5) hx hb dX2_insulate_18 (by decide) ?_
      have hSo := hS
      refine va_callv (va_runV (As := [.int 5]) (rest := []) ⟨hx, hb, hml, hown, hts⟩ (kX2_noteFault l D cy a n S s.heap.size 5 (by first | assumption | omega | (show cs_fc _ + 1 < 1024; omega))) (cwV 1 hts gX2_insulate_X2_noteFault rfl rfl rfl (by decide +kernel) ⟨Nat.le_of_ble_eq_true rfl, Nat.le_of_ble_eq_true rfl⟩) ⟨pX_blind, va_recv hK hP (ci := 3) (q0 := 0) rfl rfl, fun U hU hW => ⟨rfl, pX_mk hP hK hD hN hU hW⟩⟩ rfl rfl hl.1 rfl (lv_room (Nat.le_of_ble_eq_true rfl)) dX2_insulate_19 ⟨Nat.le_of_ble_eq_true rfl, Nat.le_of_ble_eq_true rfl⟩) hS (fun q _ h => freeAll hD hS hA q h) (freeAll hD hS hA) (fun u3 t3 H3 locs3 ht hvm hw hB hz1 hk1 hS => ?_)
      obtain ⟨hP1, hK1, hD1⟩ := hB
      rw [ht] at hP1
      have hK := va_K.moved hvm.symm hK1
      obtain rfl : u3 = sNote S 5 := hw
      have hD := hD1.weaken (fun _ q _ h => freeAll hD hSo hA q.1 h)
      have hP := hP1
      refine lv_iconst (v := 0) hx hb dX2_insulate_22 (by decide) ?_
      exact W.iret (v := 0) hx hb hr (fun t ht hW => ⟨⟨0, sNote S 5, rfl, ⟨(by simp only [rIns, gIns, if_neg h_1, if_pos h_2]), (by simp only [rIns, gIns, if_neg h_1, if_pos h_2])⟩, by rw [ht]; exact hP, va_K.moved hW.alike hK, hD⟩, hS.F ht⟩) hS.2.2 dX2_insulate_23
  · refine lv_bipush (v := (-2)) hx hb dX2_insulate_6 (by decide) ?_
    exact W.iret (v := (-2)) hx hb hr (fun t ht hW => ⟨⟨(-2), S, rfl, ⟨(by simp only [rIns, gIns, if_pos h_1]), (by simp only [rIns, gIns, if_pos h_1])⟩, by rw [ht]; exact hP, va_K.moved hW.alike hK, hD⟩, hS.F ht⟩) hS.2.2 dX2_insulate_8
set_option maxRecDepth 20000 in
theorem iX2_closeNextContactor_X2 : ∀ w ∈ wsX20, w ∈ wsX2_closeNextContactor := by decide +kernel
set_option maxHeartbeats 4000000 in
set_option maxRecDepth 100000 in
theorem kX2_closeNextContactor (l : Launch) (D : va_G) (cy : Nat → ClassId) (a : Nat → Nat) (n : Nat) (S : CS) (sz : Nat) (hf : cs_fc S < 1024) : Met l yX2_closeNextContactor wsX2_closeNextContactor ({ frames := 1, cells := 0, slots := 0, locals := 21 }) (va_Pc [.ref (a 0)] (pX D cy a n S sz)) (va_Qi (fun r (u : CS) => r = rClo S ∧ u = gClo S) (eX D cy a n (va_A (wX cy a n S) sz)) (va_A (wX cy a n S) sz)) 0 0 (va_A (wX cy a n S) sz) := by
  refine Met.ofW (cc := cX2_closeNextContactor) (maxL := 1) (ret := (some .int)) (by decide) rfl ?_
  intro p e s m args below meth c s₁ B hml hv
  obtain ⟨rfl, hsz, hP, hK, hD0, hN⟩ := hv
  have hx := B.exec
  have hb := B.bytes
  have hr := B.returns
  have hts := atoms_spec (ws := wsX2_closeNextContactor) B.pre
  have hown : s.vm.findClass RX2 = some m.cls := findClass_of_methodNamed B.named
  have hlocks := B.notSynchronized
  subst hsz
  have hD := hD0.self (sz := s.heap.size)
  generalize hAe : va_A (wX cy a n S) s.heap.size = A at hD ⊢
  have hA : ∀ q : Nat, s.heap.size ≤ q → A q := fun q h => by rw [← hAe]; exact Or.inr h
  have hS : va_S A s.heap s.heap [] := va_S.rf
  have hl := lv_entry ([.ref (a 0)]) (n := 1) (Nat.le_of_ble_eq_true rfl)
  rw [lg_entry_eq]
  generalize (lg_sl ([.ref (a 0)]) ++ List.replicate (1 - (lg_sl ([.ref (a 0)])).length) Slot.unset).toArray = ls at hl ⊢
  have hl : lv_has ls 1 [(0, .ref (a 0))] := hl
  refine lv_aload_n hx hb dX2_closeNextContactor_0 rfl (lv_at hl 0 rfl) ?_
  refine va_get (D := D) (ci := 3) (v := .int (nI (cs_st S))) (C := RX2) (T := TX2) (N := 8) hx hb hts iX2_closeNextContactor_X2 hown hK hP 0 rfl rfl 5 (by decide) (hts (.fieldLink RX2 110 "CellRows2" "stage" "I") (by decide +kernel)) (fun _ h9 => h9) rfl dX2_closeNextContactor_1 ?_
  refine lv_iconst (v := 3) hx hb dX2_closeNextContactor_4 (by decide) ?_
  refine ib_eq (tgt := 24) hx hb dX2_closeNextContactor_5 (by decide) (fun h_1 => ?_) (fun h_1 => ?_)
  · refine lv_bipush (v := (-3)) hx hb dX2_closeNextContactor_24 (by decide) ?_
    exact W.iret (v := (-3)) hx hb hr (fun t ht hW => ⟨⟨(-3), S, rfl, ⟨(by simp only [rClo, gClo, rClo2, gClo2, if_pos h_1]), (by simp only [rClo, gClo, rClo2, gClo2, if_pos h_1])⟩, by rw [ht]; exact hP, va_K.moved hW.alike hK, hD⟩, hS.F ht⟩) hS.2.2 dX2_closeNextContactor_26
  · refine lv_aload_n hx hb dX2_closeNextContactor_8 rfl (lv_at hl 0 rfl) ?_
    refine va_get (D := D) (ci := 3) (v := .int (nI (cs_st S))) (C := RX2) (T := TX2) (N := 8) hx hb hts iX2_closeNextContactor_X2 hown hK hP 0 rfl rfl 5 (by decide) (hts (.fieldLink RX2 110 "CellRows2" "stage" "I") (by decide +kernel)) (fun _ h9 => h9) rfl dX2_closeNextContactor_9 ?_
    refine lv_iconst (v := 2) hx hb dX2_closeNextContactor_12 (by decide) ?_
    refine ib_ne (tgt := 27) hx hb dX2_closeNextContactor_13 (by decide) (fun h_2 => ?_) (fun h_2 => ?_)
    · refine lv_aload_n hx hb dX2_closeNextContactor_27 rfl (lv_at hl 0 rfl) ?_
      refine va_get (D := D) (ci := 3) (v := .int (nI (cs_st S))) (C := RX2) (T := TX2) (N := 8) hx hb hts iX2_closeNextContactor_X2 hown hK hP 0 rfl rfl 5 (by decide) (hts (.fieldLink RX2 110 "CellRows2" "stage" "I") (by decide +kernel)) (fun _ h9 => h9) rfl dX2_closeNextContactor_28 ?_
      refine lv_iconst (v := 2) hx hb dX2_closeNextContactor_31 (by decide) ?_
      refine ib_ne (tgt := 52) hx hb dX2_closeNextContactor_32 (by decide) (fun h_3 => ?_) (fun h_3 => ?_)
      · refine lv_aload_n hx hb dX2_closeNextContactor_52 rfl (lv_at hl 0 rfl) ?_
        refine lv_aload_n hx hb dX2_closeNextContactor_53 rfl (lv_at hl 0 rfl) ?_
        refine va_get (D := D) (ci := 3) (v := .int (nI (cs_st S))) (C := RX2) (T := TX2) (N := 8) hx hb hts iX2_closeNextContactor_X2 hown hK hP 0 rfl rfl 5 (by decide) (hts (.fieldLink RX2 110 "CellRows2" "stage" "I") (by decide +kernel)) (fun _ h9 => h9) rfl dX2_closeNextContactor_54 ?_
        refine vp_callSi (W.runV (As := [.int (nI (cs_st S))]) (rest := []) ⟨hx, hb, hml, hown, hts⟩ (kX2_isStuck l D cy a n S s.heap.size (nI (cs_st S))) (cwV 1 hts gX2_closeNextContactor_X2_isStuck rfl rfl rfl (by decide +kernel) ⟨Nat.le_of_ble_eq_true rfl, Nat.le_of_ble_eq_true rfl⟩) ⟨pX_blind, va_recv hK hP (ci := 3) (q0 := 0) rfl rfl, fun U hU hW => ⟨rfl, pX_mk hP hK hD hN hU hW⟩⟩ rfl rfl hl.1 rfl (lv_room (Nat.le_of_ble_eq_true rfl)) dX2_closeNextContactor_57 ⟨Nat.le_of_ble_eq_true rfl, Nat.le_of_ble_eq_true rfl⟩) (fun r4 hr4 => ?_)
        obtain rfl : r4 = sStk S (nI (cs_st S)) := hr4
        refine iz_eq (tgt := 71) hx hb dX2_closeNextContactor_60 (by decide) (fun h_5 => ?_) (fun h_5 => ?_)
        · refine lv_aload_n hx hb dX2_closeNextContactor_71 rfl (lv_at hl 0 rfl) ?_
          refine lv_dup hx hb dX2_closeNextContactor_72 rfl ?_
          refine va_get (D := D) (ci := 3) (v := .int (nI (cs_st S))) (C := RX2) (T := TX2) (N := 8) hx hb hts iX2_closeNextContactor_X2 hown hK hP 0 rfl rfl 5 (by decide) (hts (.fieldLink RX2 110 "CellRows2" "stage" "I") (by decide +kernel)) (fun _ h9 => h9) rfl dX2_closeNextContactor_73 ?_
          refine lv_iconst (v := 1) hx hb dX2_closeNextContactor_76 (by decide) ?_
          refine lv_iadd hx hb dX2_closeNextContactor_77 ?_
          refine W.eqi (nI_1 (cs_st S)) ?_
          refine va_put (D := D) (ci := 3) (v := .int (nI ((cs_st S) + 1))) (ty := .int) (C := RX2) (T := TX2) (N := 8) hx hb hts iX2_closeNextContactor_X2 tyX2 tyX2_ok nmX2 hown hK hP hD hS 0 rfl rfl 5 (by decide) (hts (.fieldLink RX2 110 "CellRows2" "stage" "I") (by decide +kernel)) (fun _ h9 => h9) rfl (by decide +kernel) rfl rfl (Nat.le_of_ble_eq_true rfl) dX2_closeNextContactor_78 (fun H6 locs6 hP hD hS => ?_)
          have hP : va_P D vwCl (wX cy a n (cs_set_st S ((cs_st S) + 1))) H6 := hP
          have hD : va_D A (wX cy a n (cs_set_st S ((cs_st S) + 1))) := hD
          refine lv_aload_n hx hb dX2_closeNextContactor_81 rfl (lv_at hl 0 rfl) ?_
          refine lv_iconst (v := 0) hx hb dX2_closeNextContactor_82 (by decide) ?_
          refine va_put (D := D) (ci := 3) (v := .int 0) (ty := .int) (C := RX2) (T := TX2) (N := 8) hx hb hts iX2_closeNextContactor_X2 tyX2 tyX2_ok nmX2 hown hK hP hD hS 0 rfl rfl 6 (by decide) (hts (.fieldLink RX2 78 "CellRows2" "stepsOfPreCharge" "I") (by decide +kernel)) (fun _ h9 => h9) rfl (by decide +kernel) rfl rfl (Nat.le_of_ble_eq_true rfl) dX2_closeNextContactor_83 (fun H7 locs7 hP hD hS => ?_)
          have hP : va_P D vwCl (wX cy a n (cs_set_pre (cs_set_st S ((cs_st S) + 1)) 0)) H7 := hP
          have hD : va_D A (wX cy a n (cs_set_pre (cs_set_st S ((cs_st S) + 1)) 0)) := hD
          refine lv_aload_n hx hb dX2_closeNextContactor_86 rfl (lv_at hl 0 rfl) ?_
          refine va_get (D := D) (ci := 3) (v := .int (nI ((cs_st S) + 1))) (C := RX2) (T := TX2) (N := 8) hx hb hts iX2_closeNextContactor_X2 hown hK hP 0 rfl rfl 5 (by decide) (hts (.fieldLink RX2 110 "CellRows2" "stage" "I") (by decide +kernel)) (fun _ h9 => h9) rfl dX2_closeNextContactor_87 ?_
          exact W.iret (v := nI ((cs_st S) + 1)) hx hb hr (fun t ht hW => ⟨⟨nI ((cs_st S) + 1), (cs_set_pre (cs_set_st S ((cs_st S) + 1)) 0), rfl, ⟨(by simp only [rClo, gClo, rClo2, gClo2, if_neg h_1, if_neg h_2, if_neg h_3, if_pos h_5]), (by simp only [rClo, gClo, rClo2, gClo2, if_neg h_1, if_neg h_2, if_neg h_3, if_pos h_5])⟩, by rw [ht]; exact hP, va_K.moved hW.alike hK, hD⟩, hS.F ht⟩) hS.2.2 dX2_closeNextContactor_90
        · refine lv_aload_n hx hb dX2_closeNextContactor_63 rfl (lv_at hl 0 rfl) ?_
          refine lv_iconst (v := 4) hx hb dX2_closeNextContactor_64 (by decide) ?_
          have hSo := hS
          refine va_callv (va_runV (As := [.int 4]) (rest := []) ⟨hx, hb, hml, hown, hts⟩ (kX2_noteFault l D cy a n S s.heap.size 4 (by first | assumption | omega | (show cs_fc _ + 1 < 1024; omega))) (cwV 1 hts gX2_closeNextContactor_X2_noteFault rfl rfl rfl (by decide +kernel) ⟨Nat.le_of_ble_eq_true rfl, Nat.le_of_ble_eq_true rfl⟩) ⟨pX_blind, va_recv hK hP (ci := 3) (q0 := 0) rfl rfl, fun U hU hW => ⟨rfl, pX_mk hP hK hD hN hU hW⟩⟩ rfl rfl hl.1 rfl (lv_room (Nat.le_of_ble_eq_true rfl)) dX2_closeNextContactor_65 ⟨Nat.le_of_ble_eq_true rfl, Nat.le_of_ble_eq_true rfl⟩) hS (fun q _ h => freeAll hD hS hA q h) (freeAll hD hS hA) (fun u8 t8 H8 locs8 ht hvm hw hB hz1 hk1 hS => ?_)
          obtain ⟨hP1, hK1, hD1⟩ := hB
          rw [ht] at hP1
          have hK := va_K.moved hvm.symm hK1
          obtain rfl : u8 = sNote S 4 := hw
          have hD := hD1.weaken (fun _ q _ h => freeAll hD hSo hA q.1 h)
          have hP := hP1
          refine lv_goto (tgt := 86) hx hb dX2_closeNextContactor_68 (by decide) ?_
          refine lv_aload_n hx hb dX2_closeNextContactor_86 rfl (lv_at hl 0 rfl) ?_
          refine va_get (D := D) (ci := 3) (v := .int (nI (cs_st (sNote S 4)))) (C := RX2) (T := TX2) (N := 8) hx hb hts iX2_closeNextContactor_X2 hown hK hP 0 rfl rfl 5 (by decide) (hts (.fieldLink RX2 110 "CellRows2" "stage" "I") (by decide +kernel)) (fun _ h9 => h9) rfl dX2_closeNextContactor_87 ?_
          exact W.iret (v := nI (cs_st (sNote S 4))) hx hb hr (fun t ht hW => ⟨⟨nI (cs_st (sNote S 4)), sNote S 4, rfl, ⟨(by simp only [rClo, gClo, rClo2, gClo2, if_neg h_1, if_neg h_2, if_neg h_3, if_neg h_5]), (by simp only [rClo, gClo, rClo2, gClo2, if_neg h_1, if_neg h_2, if_neg h_3, if_neg h_5])⟩, by rw [ht]; exact hP, va_K.moved hW.alike hK, hD⟩, hS.F ht⟩) hS.2.2 dX2_closeNextContactor_90
      · exact absurd h_3 h_2
    · refine lv_aload_n hx hb dX2_closeNextContactor_16 rfl (lv_at hl 0 rfl) ?_
      refine va_get (D := D) (ci := 3) (v := .int (cs_pre S)) (C := RX2) (T := TX2) (N := 8) hx hb hts iX2_closeNextContactor_X2 hown hK hP 0 rfl rfl 6 (by decide) (hts (.fieldLink RX2 78 "CellRows2" "stepsOfPreCharge" "I") (by decide +kernel)) (fun _ h9 => h9) rfl dX2_closeNextContactor_17 ?_
      refine lv_iconst (v := 3) hx hb dX2_closeNextContactor_20 (by decide) ?_
      refine ib_ge (tgt := 27) hx hb dX2_closeNextContactor_21 (by decide) (fun h_9 => ?_) (fun h_9 => ?_)
      · refine lv_aload_n hx hb dX2_closeNextContactor_27 rfl (lv_at hl 0 rfl) ?_
        refine va_get (D := D) (ci := 3) (v := .int (nI (cs_st S))) (C := RX2) (T := TX2) (N := 8) hx hb hts iX2_closeNextContactor_X2 hown hK hP 0 rfl rfl 5 (by decide) (hts (.fieldLink RX2 110 "CellRows2" "stage" "I") (by decide +kernel)) (fun _ h9 => h9) rfl dX2_closeNextContactor_28 ?_
        refine lv_iconst (v := 2) hx hb dX2_closeNextContactor_31 (by decide) ?_
        refine ib_ne (tgt := 52) hx hb dX2_closeNextContactor_32 (by decide) (fun h_10 => ?_) (fun h_10 => ?_)
        · exact absurd h_2 h_10
        · refine lv_aload_n hx hb dX2_closeNextContactor_35 rfl (lv_at hl 0 rfl) ?_
          refine va_get (D := D) (ci := 3) (v := .int (cs_pre S)) (C := RX2) (T := TX2) (N := 8) hx hb hts iX2_closeNextContactor_X2 hown hK hP 0 rfl rfl 6 (by decide) (hts (.fieldLink RX2 78 "CellRows2" "stepsOfPreCharge" "I") (by decide +kernel)) (fun _ h9 => h9) rfl dX2_closeNextContactor_36 ?_
          refine lv_bipush (v := 20) hx hb dX2_closeNextContactor_39 (by decide) ?_
          refine ib_lt (tgt := 52) hx hb dX2_closeNextContactor_41 (by decide) (fun h_11 => ?_) (fun h_11 => ?_)
          · refine lv_aload_n hx hb dX2_closeNextContactor_52 rfl (lv_at hl 0 rfl) ?_
            refine lv_aload_n hx hb dX2_closeNextContactor_53 rfl (lv_at hl 0 rfl) ?_
            refine va_get (D := D) (ci := 3) (v := .int (nI (cs_st S))) (C := RX2) (T := TX2) (N := 8) hx hb hts iX2_closeNextContactor_X2 hown hK hP 0 rfl rfl 5 (by decide) (hts (.fieldLink RX2 110 "CellRows2" "stage" "I") (by decide +kernel)) (fun _ h9 => h9) rfl dX2_closeNextContactor_54 ?_
            refine vp_callSi (W.runV (As := [.int (nI (cs_st S))]) (rest := []) ⟨hx, hb, hml, hown, hts⟩ (kX2_isStuck l D cy a n S s.heap.size (nI (cs_st S))) (cwV 1 hts gX2_closeNextContactor_X2_isStuck rfl rfl rfl (by decide +kernel) ⟨Nat.le_of_ble_eq_true rfl, Nat.le_of_ble_eq_true rfl⟩) ⟨pX_blind, va_recv hK hP (ci := 3) (q0 := 0) rfl rfl, fun U hU hW => ⟨rfl, pX_mk hP hK hD hN hU hW⟩⟩ rfl rfl hl.1 rfl (lv_room (Nat.le_of_ble_eq_true rfl)) dX2_closeNextContactor_57 ⟨Nat.le_of_ble_eq_true rfl, Nat.le_of_ble_eq_true rfl⟩) (fun r12 hr12 => ?_)
            obtain rfl : r12 = sStk S (nI (cs_st S)) := hr12
            refine iz_eq (tgt := 71) hx hb dX2_closeNextContactor_60 (by decide) (fun h_13 => ?_) (fun h_13 => ?_)
            · refine lv_aload_n hx hb dX2_closeNextContactor_71 rfl (lv_at hl 0 rfl) ?_
              refine lv_dup hx hb dX2_closeNextContactor_72 rfl ?_
              refine va_get (D := D) (ci := 3) (v := .int (nI (cs_st S))) (C := RX2) (T := TX2) (N := 8) hx hb hts iX2_closeNextContactor_X2 hown hK hP 0 rfl rfl 5 (by decide) (hts (.fieldLink RX2 110 "CellRows2" "stage" "I") (by decide +kernel)) (fun _ h9 => h9) rfl dX2_closeNextContactor_73 ?_
              refine lv_iconst (v := 1) hx hb dX2_closeNextContactor_76 (by decide) ?_
              refine lv_iadd hx hb dX2_closeNextContactor_77 ?_
              refine W.eqi (nI_1 (cs_st S)) ?_
              refine va_put (D := D) (ci := 3) (v := .int (nI ((cs_st S) + 1))) (ty := .int) (C := RX2) (T := TX2) (N := 8) hx hb hts iX2_closeNextContactor_X2 tyX2 tyX2_ok nmX2 hown hK hP hD hS 0 rfl rfl 5 (by decide) (hts (.fieldLink RX2 110 "CellRows2" "stage" "I") (by decide +kernel)) (fun _ h9 => h9) rfl (by decide +kernel) rfl rfl (Nat.le_of_ble_eq_true rfl) dX2_closeNextContactor_78 (fun H14 locs14 hP hD hS => ?_)
              have hP : va_P D vwCl (wX cy a n (cs_set_st S ((cs_st S) + 1))) H14 := hP
              have hD : va_D A (wX cy a n (cs_set_st S ((cs_st S) + 1))) := hD
              refine lv_aload_n hx hb dX2_closeNextContactor_81 rfl (lv_at hl 0 rfl) ?_
              refine lv_iconst (v := 0) hx hb dX2_closeNextContactor_82 (by decide) ?_
              refine va_put (D := D) (ci := 3) (v := .int 0) (ty := .int) (C := RX2) (T := TX2) (N := 8) hx hb hts iX2_closeNextContactor_X2 tyX2 tyX2_ok nmX2 hown hK hP hD hS 0 rfl rfl 6 (by decide) (hts (.fieldLink RX2 78 "CellRows2" "stepsOfPreCharge" "I") (by decide +kernel)) (fun _ h9 => h9) rfl (by decide +kernel) rfl rfl (Nat.le_of_ble_eq_true rfl) dX2_closeNextContactor_83 (fun H15 locs15 hP hD hS => ?_)
              have hP : va_P D vwCl (wX cy a n (cs_set_pre (cs_set_st S ((cs_st S) + 1)) 0)) H15 := hP
              have hD : va_D A (wX cy a n (cs_set_pre (cs_set_st S ((cs_st S) + 1)) 0)) := hD
              refine lv_aload_n hx hb dX2_closeNextContactor_86 rfl (lv_at hl 0 rfl) ?_
              refine va_get (D := D) (ci := 3) (v := .int (nI ((cs_st S) + 1))) (C := RX2) (T := TX2) (N := 8) hx hb hts iX2_closeNextContactor_X2 hown hK hP 0 rfl rfl 5 (by decide) (hts (.fieldLink RX2 110 "CellRows2" "stage" "I") (by decide +kernel)) (fun _ h9 => h9) rfl dX2_closeNextContactor_87 ?_
              exact W.iret (v := nI ((cs_st S) + 1)) hx hb hr (fun t ht hW => ⟨⟨nI ((cs_st S) + 1), (cs_set_pre (cs_set_st S ((cs_st S) + 1)) 0), rfl, ⟨(by simp only [rClo, gClo, rClo2, gClo2, if_neg h_1, if_pos h_2, if_neg h_9, if_pos h_10, if_pos h_11, if_pos h_13]), (by simp only [rClo, gClo, rClo2, gClo2, if_neg h_1, if_pos h_2, if_neg h_9, if_pos h_10, if_pos h_11, if_pos h_13])⟩, by rw [ht]; exact hP, va_K.moved hW.alike hK, hD⟩, hS.F ht⟩) hS.2.2 dX2_closeNextContactor_90
            · refine lv_aload_n hx hb dX2_closeNextContactor_63 rfl (lv_at hl 0 rfl) ?_
              refine lv_iconst (v := 4) hx hb dX2_closeNextContactor_64 (by decide) ?_
              have hSo := hS
              refine va_callv (va_runV (As := [.int 4]) (rest := []) ⟨hx, hb, hml, hown, hts⟩ (kX2_noteFault l D cy a n S s.heap.size 4 (by first | assumption | omega | (show cs_fc _ + 1 < 1024; omega))) (cwV 1 hts gX2_closeNextContactor_X2_noteFault rfl rfl rfl (by decide +kernel) ⟨Nat.le_of_ble_eq_true rfl, Nat.le_of_ble_eq_true rfl⟩) ⟨pX_blind, va_recv hK hP (ci := 3) (q0 := 0) rfl rfl, fun U hU hW => ⟨rfl, pX_mk hP hK hD hN hU hW⟩⟩ rfl rfl hl.1 rfl (lv_room (Nat.le_of_ble_eq_true rfl)) dX2_closeNextContactor_65 ⟨Nat.le_of_ble_eq_true rfl, Nat.le_of_ble_eq_true rfl⟩) hS (fun q _ h => freeAll hD hS hA q h) (freeAll hD hS hA) (fun u16 t16 H16 locs16 ht hvm hw hB hz1 hk1 hS => ?_)
              obtain ⟨hP1, hK1, hD1⟩ := hB
              rw [ht] at hP1
              have hK := va_K.moved hvm.symm hK1
              obtain rfl : u16 = sNote S 4 := hw
              have hD := hD1.weaken (fun _ q _ h => freeAll hD hSo hA q.1 h)
              have hP := hP1
              refine lv_goto (tgt := 86) hx hb dX2_closeNextContactor_68 (by decide) ?_
              refine lv_aload_n hx hb dX2_closeNextContactor_86 rfl (lv_at hl 0 rfl) ?_
              refine va_get (D := D) (ci := 3) (v := .int (nI (cs_st (sNote S 4)))) (C := RX2) (T := TX2) (N := 8) hx hb hts iX2_closeNextContactor_X2 hown hK hP 0 rfl rfl 5 (by decide) (hts (.fieldLink RX2 110 "CellRows2" "stage" "I") (by decide +kernel)) (fun _ h9 => h9) rfl dX2_closeNextContactor_87 ?_
              exact W.iret (v := nI (cs_st (sNote S 4))) hx hb hr (fun t ht hW => ⟨⟨nI (cs_st (sNote S 4)), sNote S 4, rfl, ⟨(by simp only [rClo, gClo, rClo2, gClo2, if_neg h_1, if_pos h_2, if_neg h_9, if_pos h_10, if_pos h_11, if_neg h_13]), (by simp only [rClo, gClo, rClo2, gClo2, if_neg h_1, if_pos h_2, if_neg h_9, if_pos h_10, if_pos h_11, if_neg h_13])⟩, by rw [ht]; exact hP, va_K.moved hW.alike hK, hD⟩, hS.F ht⟩) hS.2.2 dX2_closeNextContactor_90
          · refine lv_aload_n hx hb dX2_closeNextContactor_44 rfl (lv_at hl 0 rfl) ?_
            refine lv_iconst (v := 3) hx hb dX2_closeNextContactor_45 (by decide) ?_
            have hSo := hS
            refine va_callv (va_runV (As := [.int 3]) (rest := []) ⟨hx, hb, hml, hown, hts⟩ (kX2_noteFault l D cy a n S s.heap.size 3 (by first | assumption | omega | (show cs_fc _ + 1 < 1024; omega))) (cwV 1 hts gX2_closeNextContactor_X2_noteFault rfl rfl rfl (by decide +kernel) ⟨Nat.le_of_ble_eq_true rfl, Nat.le_of_ble_eq_true rfl⟩) ⟨pX_blind, va_recv hK hP (ci := 3) (q0 := 0) rfl rfl, fun U hU hW => ⟨rfl, pX_mk hP hK hD hN hU hW⟩⟩ rfl rfl hl.1 rfl (lv_room (Nat.le_of_ble_eq_true rfl)) dX2_closeNextContactor_46 ⟨Nat.le_of_ble_eq_true rfl, Nat.le_of_ble_eq_true rfl⟩) hS (fun q _ h => freeAll hD hS hA q h) (freeAll hD hS hA) (fun u17 t17 H17 locs17 ht hvm hw hB hz1 hk1 hS => ?_)
            obtain ⟨hP1, hK1, hD1⟩ := hB
            rw [ht] at hP1
            have hK := va_K.moved hvm.symm hK1
            obtain rfl : u17 = sNote S 3 := hw
            have hD := hD1.weaken (fun _ q _ h => freeAll hD hSo hA q.1 h)
            have hP := hP1
            refine lv_goto (tgt := 86) hx hb dX2_closeNextContactor_49 (by decide) ?_
            refine lv_aload_n hx hb dX2_closeNextContactor_86 rfl (lv_at hl 0 rfl) ?_
            refine va_get (D := D) (ci := 3) (v := .int (nI (cs_st (sNote S 3)))) (C := RX2) (T := TX2) (N := 8) hx hb hts iX2_closeNextContactor_X2 hown hK hP 0 rfl rfl 5 (by decide) (hts (.fieldLink RX2 110 "CellRows2" "stage" "I") (by decide +kernel)) (fun _ h9 => h9) rfl dX2_closeNextContactor_87 ?_
            exact W.iret (v := nI (cs_st (sNote S 3))) hx hb hr (fun t ht hW => ⟨⟨nI (cs_st (sNote S 3)), sNote S 3, rfl, ⟨(by simp only [rClo, gClo, rClo2, gClo2, if_neg h_1, if_pos h_2, if_neg h_9, if_pos h_10, if_neg h_11]), (by simp only [rClo, gClo, rClo2, gClo2, if_neg h_1, if_pos h_2, if_neg h_9, if_pos h_10, if_neg h_11])⟩, by rw [ht]; exact hP, va_K.moved hW.alike hK, hD⟩, hS.F ht⟩) hS.2.2 dX2_closeNextContactor_90
      · refine lv_bipush (v := (-3)) hx hb dX2_closeNextContactor_24 (by decide) ?_
        exact W.iret (v := (-3)) hx hb hr (fun t ht hW => ⟨⟨(-3), S, rfl, ⟨(by simp only [rClo, gClo, rClo2, gClo2, if_neg h_1, if_pos h_2, if_pos h_9]), (by simp only [rClo, gClo, rClo2, gClo2, if_neg h_1, if_pos h_2, if_pos h_9])⟩, by rw [ht]; exact hP, va_K.moved hW.alike hK, hD⟩, hS.F ht⟩) hS.2.2 dX2_closeNextContactor_26
set_option maxRecDepth 20000 in
theorem iX2_contactor_X2 : ∀ w ∈ wsX20, w ∈ wsX2_contactor := by decide +kernel
set_option maxHeartbeats 4000000 in
set_option maxRecDepth 100000 in
theorem kX2_contactor (l : Launch) (D : va_G) (cy : Nat → ClassId) (a : Nat → Nat) (n : Nat) (S : CS) (sz : Nat) (p0 : Int32) (hf : cs_fc S < 1024) : Met l yX2_contactor wsX2_contactor ({ frames := 2, cells := 0, slots := 0, locals := 41 }) (va_Pc [.ref (a 0), .int p0] (pX D cy a n S sz)) (va_Qi (fun r (u : CS) => r = rCon S p0 ∧ u = gCon S p0) (eX D cy a n (va_A (wX cy a n S) sz)) (va_A (wX cy a n S) sz)) 0 0 (va_A (wX cy a n S) sz) := by
  refine Met.ofW (cc := cX2_contactor) (maxL := 2) (ret := (some .int)) (by decide) rfl ?_
  intro p e s m args below meth c s₁ B hml hv
  obtain ⟨rfl, hsz, hP, hK, hD0, hN⟩ := hv
  have hx := B.exec
  have hb := B.bytes
  have hr := B.returns
  have hts := atoms_spec (ws := wsX2_contactor) B.pre
  have hown : s.vm.findClass RX2 = some m.cls := findClass_of_methodNamed B.named
  have hlocks := B.notSynchronized
  subst hsz
  have hD := hD0.self (sz := s.heap.size)
  generalize hAe : va_A (wX cy a n S) s.heap.size = A at hD ⊢
  have hA : ∀ q : Nat, s.heap.size ≤ q → A q := fun q h => by rw [← hAe]; exact Or.inr h
  have hS : va_S A s.heap s.heap [] := va_S.rf
  have hl := lv_entry ([.ref (a 0), .int p0]) (n := 2) (Nat.le_of_ble_eq_true rfl)
  rw [lg_entry_eq]
  generalize (lg_sl ([.ref (a 0), .int p0]) ++ List.replicate (2 - (lg_sl ([.ref (a 0), .int p0])).length) Slot.unset).toArray = ls at hl ⊢
  have hl : lv_has ls 2 [(0, .ref (a 0)), (1, .int p0)] := hl
  refine lv_iload_n hx hb dX2_contactor_0 rfl (lv_at hl 1 rfl) ?_
  refine iz_ne (tgt := 14) hx hb dX2_contactor_1 (by decide) (fun h_1 => ?_) (fun h_1 => ?_)
  · refine lv_aload_n hx hb dX2_contactor_14 rfl (lv_at hl 0 rfl) ?_
    have hSo := hS
    refine va_calli (va_runV (As := []) (rest := []) ⟨hx, hb, hml, hown, hts⟩ (kX2_closeNextContactor l D cy a n S s.heap.size (by omega)) (cwV 0 hts gX2_contactor_X2_closeNextContactor rfl rfl rfl (by decide +kernel) ⟨Nat.le_of_ble_eq_true rfl, Nat.le_of_ble_eq_true rfl⟩) ⟨pX_blind, va_recv hK hP (ci := 3) (q0 := 0) rfl rfl, fun U hU hW => ⟨rfl, pX_mk hP hK hD hN hU hW⟩⟩ rfl rfl hl.1 rfl (lv_room (Nat.le_of_ble_eq_true rfl)) dX2_contactor_15 ⟨Nat.le_of_ble_eq_true rfl, Nat.le_of_ble_eq_true rfl⟩) hS (fun q _ h => freeAll hD hS hA q h) (freeAll hD hS hA) (fun r2 u2 t2 H2 locs2 ht hvm hw hB hz1 hk1 hS => ?_)
    obtain ⟨hP1, hK1, hD1⟩ := hB
    rw [ht] at hP1
    have hK := va_K.moved hvm.symm hK1
    obtain ⟨hw1, hw2⟩ := hw
    obtain rfl : r2 = rClo S := hw1
    obtain rfl : u2 = gClo S := hw2
    have hD := hD1.weaken (fun _ q _ h => freeAll hD hSo hA q.1 h)
    have hP := hP1
    exact W.iret (v := rClo S) hx hb hr (fun t ht hW => ⟨⟨rClo S, gClo S, rfl, ⟨(by simp only [rCon, gCon, if_neg h_1]), (by simp only [rCon, gCon, if_neg h_1])⟩, by rw [ht]; exact hP, va_K.moved hW.alike hK, hD⟩, hS.F ht⟩) hS.2.2 dX2_contactor_18
  · refine lv_aload_n hx hb dX2_contactor_4 rfl (lv_at hl 0 rfl) ?_
    refine lv_iconst (v := 0) hx hb dX2_contactor_5 (by decide) ?_
    refine va_put (D := D) (ci := 3) (v := .int 0) (ty := .int) (C := RX2) (T := TX2) (N := 8) hx hb hts iX2_contactor_X2 tyX2 tyX2_ok nmX2 hown hK hP hD hS 0 rfl rfl 5 (by decide) (hts (.fieldLink RX2 110 "CellRows2" "stage" "I") (by decide +kernel)) (fun _ h9 => h9) rfl (by decide +kernel) rfl rfl (Nat.le_of_ble_eq_true rfl) dX2_contactor_6 (fun H3 locs3 hP hD hS => ?_)
    have hP : va_P D vwCl (wX cy a n (cs_set_st S 0)) H3 := hP
    have hD : va_D A (wX cy a n (cs_set_st S 0)) := hD
    refine lv_aload_n hx hb dX2_contactor_9 rfl (lv_at hl 0 rfl) ?_
    refine va_get (D := D) (ci := 3) (v := .int (nI 0)) (C := RX2) (T := TX2) (N := 8) hx hb hts iX2_contactor_X2 hown hK hP 0 rfl rfl 5 (by decide) (hts (.fieldLink RX2 110 "CellRows2" "stage" "I") (by decide +kernel)) (fun _ h9 => h9) rfl dX2_contactor_10 ?_
    exact W.iret (v := nI 0) hx hb hr (fun t ht hW => ⟨⟨nI 0, (cs_set_st S 0), rfl, ⟨(by simp only [rCon, gCon, if_pos h_1]), (by simp only [rCon, gCon, if_pos h_1])⟩, by rw [ht]; exact hP, va_K.moved hW.alike hK, hD⟩, hS.F ht⟩) hS.2.2 dX2_contactor_13
set_option maxRecDepth 20000 in
theorem iX2_noteFaultsOfStep_X0 : ∀ w ∈ wsX00, w ∈ wsX2_noteFaultsOfStep := by decide +kernel
set_option maxRecDepth 20000 in
theorem iX2_noteFaultsOfStep_X2 : ∀ w ∈ wsX20, w ∈ wsX2_noteFaultsOfStep := by decide +kernel
set_option maxHeartbeats 4000000 in
set_option maxRecDepth 100000 in
theorem kX2_noteFaultsOfStep (l : Launch) (D : va_G) (cy : Nat → ClassId) (a : Nat → Nat) (n : Nat) (S : CS) (sz : Nat) (j : Nat) (hj : j < n) (hf : cs_fc S + 1 < 1024) : Met l yX2_noteFaultsOfStep wsX2_noteFaultsOfStep ({ frames := 1, cells := 0, slots := 0, locals := 25 }) (va_Pc [.ref (a 0), .ref (a (9 + j))] (pX D cy a n S sz)) (va_Qi (fun r (u : CS) => r = rNfs S j ∧ u = gNfs S j) (eX D cy a n (va_A (wX cy a n S) sz)) (va_A (wX cy a n S) sz)) 0 0 (va_A (wX cy a n S) sz) := by
  refine Met.ofW (cc := cX2_noteFaultsOfStep) (maxL := 4) (ret := (some .boolean)) (by decide) rfl ?_
  intro p e s m args below meth c s₁ B hml hv
  obtain ⟨rfl, hsz, hP, hK, hD0, hN⟩ := hv
  have hx := B.exec
  have hb := B.bytes
  have hr := B.returns
  have hts := atoms_spec (ws := wsX2_noteFaultsOfStep) B.pre
  have hown : s.vm.findClass RX2 = some m.cls := findClass_of_methodNamed B.named
  have hlocks := B.notSynchronized
  subst hsz
  have hD := hD0.self (sz := s.heap.size)
  generalize hAe : va_A (wX cy a n S) s.heap.size = A at hD ⊢
  have hA : ∀ q : Nat, s.heap.size ≤ q → A q := fun q h => by rw [← hAe]; exact Or.inr h
  have hS : va_S A s.heap s.heap [] := va_S.rf
  have hl := lv_entry ([.ref (a 0), .ref (a (9 + j))]) (n := 4) (Nat.le_of_ble_eq_true rfl)
  rw [lg_entry_eq]
  generalize (lg_sl ([.ref (a 0), .ref (a (9 + j))]) ++ List.replicate (4 - (lg_sl ([.ref (a 0), .ref (a (9 + j))])).length) Slot.unset).toArray = ls at hl ⊢
  have hl : lv_has ls 4 [(0, .ref (a 0)), (1, .ref (a (9 + j)))] := hl
  refine lv_aload_n hx hb dX2_noteFaultsOfStep_0 rfl (lv_at hl 1 rfl) ?_
  refine va_getN (D := D) (ci := 1) (v := .int ((cs_be S) j)) (C := RX0) (T := TX0) (N := 6) hx hb hts iX2_noteFaultsOfStep_X0 hown hK hP (9 + j) (wX_c hj) rfl 4 (by decide) (va_Nw.use rfl (hN _ (List.mem_of_getElem? (i := 7) rfl))) (fun _ h9 => h9) rfl dX2_noteFaultsOfStep_1 ?_
  refine W.join (P := fun v9 : Int32 => v9 = sTw S j) (g := fun v9 => F0 m 21 ls [.int v9]) (fun v1 hv1 => ?_) (fun J1 => ?_)
  · subst hv1
    refine lv_istore_n (lv' := [(2, .int (sTw S j)), (0, .ref (a 0)), (1, .ref (a (9 + j)))]) hx hb dX2_noteFaultsOfStep_21 rfl hl (by decide) rfl (fun ls hl => ?_)
    refine lv_aload_n hx hb dX2_noteFaultsOfStep_22 rfl (lv_at hl 2 rfl) ?_
    refine va_getN (D := D) (ci := 1) (v := .long ((cs_ch S) j)) (C := RX0) (T := TX0) (N := 6) hx hb hts iX2_noteFaultsOfStep_X0 hown hK hP (9 + j) (wX_c hj) rfl 0 (by decide) (va_Nw.use rfl (hN _ (List.mem_of_getElem? (i := 6) rfl))) (fun _ h9 => h9) rfl dX2_noteFaultsOfStep_23 ?_
    refine lv_lconst (v := 0) hx hb dX2_noteFaultsOfStep_26 (by decide) ?_
    refine lv_aload_n hx hb dX2_noteFaultsOfStep_27 rfl (lv_at hl 1 rfl) ?_
    refine va_get (D := D) (ci := 3) (v := .ref (a 2)) (C := RX2) (T := TX2) (N := 8) hx hb hts iX2_noteFaultsOfStep_X2 hown hK hP 0 rfl rfl 1 (by decide) (hts (.fieldLink RX2 25 "CellRows2" "limits" "[J") (by decide +kernel)) (fun _ h9 => h9) rfl dX2_noteFaultsOfStep_28 ?_
    refine lv_iconst (v := 5) hx hb dX2_noteFaultsOfStep_31 (by decide) ?_
    refine ra_l (f := (cs_lim S)) hx hb hK hP 2 1 rfl rfl 5 rfl (Nat.le_of_ble_eq_true rfl) (Nat.le_of_ble_eq_true rfl) dX2_noteFaultsOfStep_32 ?_
    refine vp_callSi (W.runS (As := [.long ((cs_ch S) j), .long 0, .long ((cs_lim S) 5)]) (rest := []) ⟨hx, hb, hml, hown, hts⟩ (kX2_isOutside l ((cs_ch S) j) 0 ((cs_lim S) 5)) (va_cwS 3 hts gX2_noteFaultsOfStep_X2_isOutside rfl rfl rfl (by decide +kernel) ⟨Nat.le_of_ble_eq_true rfl, Nat.le_of_ble_eq_true rfl⟩) ⟨fun _ _ _ _ q => q, fun U hU hW => ⟨rfl, trivial⟩⟩ rfl rfl hl.1 rfl (lv_room (Nat.le_of_ble_eq_true rfl)) dX2_noteFaultsOfStep_33 ⟨Nat.le_of_ble_eq_true rfl, Nat.le_of_ble_eq_true rfl⟩) (fun r4 hr4 => ?_)
    obtain rfl : r4 = sWr S j := hr4
    refine lv_istore_n (lv' := [(3, .int (sWr S j)), (2, .int (sTw S j)), (0, .ref (a 0)), (1, .ref (a (9 + j)))]) hx hb dX2_noteFaultsOfStep_36 rfl hl (by decide) rfl (fun ls hl => ?_)
    refine lv_iload_n hx hb dX2_noteFaultsOfStep_37 rfl (lv_at hl 1 rfl) ?_
    refine iz_eq (tgt := 46) hx hb dX2_noteFaultsOfStep_38 (by decide) (fun h_5 => ?_) (fun h_5 => ?_)
    · refine lv_iload_n hx hb dX2_noteFaultsOfStep_46 rfl (lv_at hl 0 rfl) ?_
      refine iz_eq (tgt := 55) hx hb dX2_noteFaultsOfStep_47 (by decide) (fun h_6 => ?_) (fun h_6 => ?_)
      · refine lv_iload_n hx hb dX2_noteFaultsOfStep_55 rfl (lv_at hl 1 rfl) ?_
        refine iz_ne (tgt := 63) hx hb dX2_noteFaultsOfStep_56 (by decide) (fun h_7 => ?_) (fun h_7 => ?_)
        · exact absurd h_5 h_7
        · refine lv_iload_n hx hb dX2_noteFaultsOfStep_59 rfl (lv_at hl 0 rfl) ?_
          refine iz_eq (tgt := 67) hx hb dX2_noteFaultsOfStep_60 (by decide) (fun h_8 => ?_) (fun h_8 => ?_)
          · refine lv_iconst (v := 0) hx hb dX2_noteFaultsOfStep_67 (by decide) ?_
            exact W.zret (v := 0) hx hb hr rfl (fun t ht hW => ⟨⟨0, S, rfl, ⟨(by simp only [rNfs, gNfs, if_pos h_5, if_pos h_6, if_pos h_7, if_pos h_8]), (by simp only [rNfs, gNfs, if_pos h_5, if_pos h_6, if_pos h_7, if_pos h_8])⟩, by rw [ht]; exact hP, va_K.moved hW.alike hK, hD⟩, hS.F ht⟩) hS.2.2 dX2_noteFaultsOfStep_68
          · exact absurd h_6 h_8
      · refine lv_aload_n hx hb dX2_noteFaultsOfStep_50 rfl (lv_at hl 2 rfl) ?_
        refine lv_iconst (v := 2) hx hb dX2_noteFaultsOfStep_51 (by decide) ?_
        have hSo := hS
        refine va_callv (va_runV (As := [.int 2]) (rest := []) ⟨hx, hb, hml, hown, hts⟩ (kX2_noteFault l D cy a n S s.heap.size 2 (by first | assumption | omega | (show cs_fc _ + 1 < 1024; omega))) (cwV 1 hts gX2_noteFaultsOfStep_X2_noteFault rfl rfl rfl (by decide +kernel) ⟨Nat.le_of_ble_eq_true rfl, Nat.le_of_ble_eq_true rfl⟩) ⟨pX_blind, va_recv hK hP (ci := 3) (q0 := 0) rfl rfl, fun U hU hW => ⟨rfl, pX_mk hP hK hD hN hU hW⟩⟩ rfl rfl hl.1 rfl (lv_room (Nat.le_of_ble_eq_true rfl)) dX2_noteFaultsOfStep_52 ⟨Nat.le_of_ble_eq_true rfl, Nat.le_of_ble_eq_true rfl⟩) hS (fun q _ h => freeAll hD hS hA q h) (freeAll hD hS hA) (fun u9 t9 H9 locs9 ht hvm hw hB hz1 hk1 hS => ?_)
        obtain ⟨hP1, hK1, hD1⟩ := hB
        rw [ht] at hP1
        have hK := va_K.moved hvm.symm hK1
        obtain rfl : u9 = sNote S 2 := hw
        have hD := hD1.weaken (fun _ q _ h => freeAll hD hSo hA q.1 h)
        have hP := hP1
        refine lv_iload_n hx hb dX2_noteFaultsOfStep_55 rfl (lv_at hl 1 rfl) ?_
        refine iz_ne (tgt := 63) hx hb dX2_noteFaultsOfStep_56 (by decide) (fun h_10 => ?_) (fun h_10 => ?_)
        · exact absurd h_5 h_10
        · refine lv_iload_n hx hb dX2_noteFaultsOfStep_59 rfl (lv_at hl 0 rfl) ?_
          refine iz_eq (tgt := 67) hx hb dX2_noteFaultsOfStep_60 (by decide) (fun h_11 => ?_) (fun h_11 => ?_)
          · exact absurd h_11 h_6
          · refine lv_iconst (v := 1) hx hb dX2_noteFaultsOfStep_63 (by decide) ?_
            refine lv_goto (tgt := 68) hx hb dX2_noteFaultsOfStep_64 (by decide) ?_
            exact W.zret (v := 1) hx hb hr rfl (fun t ht hW => ⟨⟨1, sNote S 2, rfl, ⟨(by simp only [rNfs, gNfs, if_pos h_5, if_neg h_6, if_pos h_10, if_neg h_11]), (by simp only [rNfs, gNfs, if_pos h_5, if_neg h_6, if_pos h_10, if_neg h_11])⟩, by rw [ht]; exact hP, va_K.moved hW.alike hK, hD⟩, hS.F ht⟩) hS.2.2 dX2_noteFaultsOfStep_68
    · refine lv_aload_n hx hb dX2_noteFaultsOfStep_41 rfl (lv_at hl 2 rfl) ?_
      refine lv_iconst (v := 1) hx hb dX2_noteFaultsOfStep_42 (by decide) ?_
      have hSo := hS
      refine va_callv (va_runV (As := [.int 1]) (rest := []) ⟨hx, hb, hml, hown, hts⟩ (kX2_noteFault l D cy a n S s.heap.size 1 (by first | assumption | omega | (show cs_fc _ + 1 < 1024; omega))) (cwV 1 hts gX2_noteFaultsOfStep_X2_noteFault rfl rfl rfl (by decide +kernel) ⟨Nat.le_of_ble_eq_true rfl, Nat.le_of_ble_eq_true rfl⟩) ⟨pX_blind, va_recv hK hP (ci := 3) (q0 := 0) rfl rfl, fun U hU hW => ⟨rfl, pX_mk hP hK hD hN hU hW⟩⟩ rfl rfl hl.1 rfl (lv_room (Nat.le_of_ble_eq_true rfl)) dX2_noteFaultsOfStep_43 ⟨Nat.le_of_ble_eq_true rfl, Nat.le_of_ble_eq_true rfl⟩) hS (fun q _ h => freeAll hD hS hA q h) (freeAll hD hS hA) (fun u12 t12 H12 locs12 ht hvm hw hB hz1 hk1 hS => ?_)
      obtain ⟨hP1, hK1, hD1⟩ := hB
      rw [ht] at hP1
      have hK := va_K.moved hvm.symm hK1
      obtain rfl : u12 = sNote S 1 := hw
      have hD := hD1.weaken (fun _ q _ h => freeAll hD hSo hA q.1 h)
      have hP := hP1
      refine lv_iload_n hx hb dX2_noteFaultsOfStep_46 rfl (lv_at hl 0 rfl) ?_
      refine iz_eq (tgt := 55) hx hb dX2_noteFaultsOfStep_47 (by decide) (fun h_13 => ?_) (fun h_13 => ?_)
      · refine lv_iload_n hx hb dX2_noteFaultsOfStep_55 rfl (lv_at hl 1 rfl) ?_
        refine iz_ne (tgt := 63) hx hb dX2_noteFaultsOfStep_56 (by decide) (fun h_14 => ?_) (fun h_14 => ?_)
        · refine lv_iconst (v := 1) hx hb dX2_noteFaultsOfStep_63 (by decide) ?_
          refine lv_goto (tgt := 68) hx hb dX2_noteFaultsOfStep_64 (by decide) ?_
          exact W.zret (v := 1) hx hb hr rfl (fun t ht hW => ⟨⟨1, sNote S 1, rfl, ⟨(by simp only [rNfs, gNfs, if_neg h_5, if_pos h_13, if_neg h_14]), (by simp only [rNfs, gNfs, if_neg h_5, if_pos h_13, if_neg h_14])⟩, by rw [ht]; exact hP, va_K.moved hW.alike hK, hD⟩, hS.F ht⟩) hS.2.2 dX2_noteFaultsOfStep_68
        · exact absurd h_14 h_5
      · refine lv_aload_n hx hb dX2_noteFaultsOfStep_50 rfl (lv_at hl 2 rfl) ?_
        refine lv_iconst (v := 2) hx hb dX2_noteFaultsOfStep_51 (by decide) ?_
        have hSo := hS
        refine va_callv (va_runV (As := [.int 2]) (rest := []) ⟨hx, hb, hml, hown, hts⟩ (kX2_noteFault l D cy a n (sNote S 1) H12.size 2 (by first | assumption | omega | (show cs_fc _ + 1 < 1024; omega))) (cwV 1 hts gX2_noteFaultsOfStep_X2_noteFault rfl rfl rfl (by decide +kernel) ⟨Nat.le_of_ble_eq_true rfl, Nat.le_of_ble_eq_true rfl⟩) ⟨pX_blind, va_recv hK hP (ci := 3) (q0 := 0) rfl rfl, fun U hU hW => ⟨rfl, pX_mk hP hK hD hN hU hW⟩⟩ rfl rfl hl.1 rfl (lv_room (Nat.le_of_ble_eq_true rfl)) dX2_noteFaultsOfStep_52 ⟨Nat.le_of_ble_eq_true rfl, Nat.le_of_ble_eq_true rfl⟩) hS (fun q _ h => freeAll hD hS hA q h) (freeAll hD hS hA) (fun u15 t15 H15 locs15 ht hvm hw hB hz1 hk1 hS => ?_)
        obtain ⟨hP1, hK1, hD1⟩ := hB
        rw [ht] at hP1
        have hK := va_K.moved hvm.symm hK1
        obtain rfl : u15 = sNote (sNote S 1) 2 := hw
        have hD := hD1.weaken (fun _ q _ h => freeAll hD hSo hA q.1 h)
        have hP := hP1
        refine lv_iload_n hx hb dX2_noteFaultsOfStep_55 rfl (lv_at hl 1 rfl) ?_
        refine iz_ne (tgt := 63) hx hb dX2_noteFaultsOfStep_56 (by decide) (fun h_16 => ?_) (fun h_16 => ?_)
        · refine lv_iconst (v := 1) hx hb dX2_noteFaultsOfStep_63 (by decide) ?_
          refine lv_goto (tgt := 68) hx hb dX2_noteFaultsOfStep_64 (by decide) ?_
          exact W.zret (v := 1) hx hb hr rfl (fun t ht hW => ⟨⟨1, sNote (sNote S 1) 2, rfl, ⟨(by simp only [rNfs, gNfs, if_neg h_5, if_neg h_13, if_neg h_16]), (by simp only [rNfs, gNfs, if_neg h_5, if_neg h_13, if_neg h_16])⟩, by rw [ht]; exact hP, va_K.moved hW.alike hK, hD⟩, hS.F ht⟩) hS.2.2 dX2_noteFaultsOfStep_68
        · exact absurd h_16 h_5
  · refine iz_le (tgt := 20) hx hb dX2_noteFaultsOfStep_4 (by decide) (fun h_2 => ?_) (fun h_2 => ?_)
    · refine lv_iconst (v := 0) hx hb dX2_noteFaultsOfStep_20 (by decide) ?_
      exact J1 _ (by simp only [sTw, if_neg h_2])
    · refine lv_aload_n hx hb dX2_noteFaultsOfStep_7 rfl (lv_at hl 1 rfl) ?_
      refine va_getN (D := D) (ci := 1) (v := .int ((cs_be S) j)) (C := RX0) (T := TX0) (N := 6) hx hb hts iX2_noteFaultsOfStep_X0 hown hK hP (9 + j) (wX_c hj) rfl 4 (by decide) (va_Nw.use rfl (hN _ (List.mem_of_getElem? (i := 7) rfl))) (fun _ h9 => h9) rfl dX2_noteFaultsOfStep_8 ?_
      refine lv_iconst (v := 2) hx hb dX2_noteFaultsOfStep_11 (by decide) ?_
      refine lv_irem hx hb dX2_noteFaultsOfStep_12 (by decide) ?_
      refine iz_ne (tgt := 20) hx hb dX2_noteFaultsOfStep_13 (by decide) (fun h_3 => ?_) (fun h_3 => ?_)
      · refine lv_iconst (v := 0) hx hb dX2_noteFaultsOfStep_20 (by decide) ?_
        exact J1 _ (by simp only [sTw, if_pos h_2, if_neg h_3])
      · refine lv_iconst (v := 1) hx hb dX2_noteFaultsOfStep_16 (by decide) ?_
        refine lv_goto (tgt := 21) hx hb dX2_noteFaultsOfStep_17 (by decide) ?_
        exact J1 _ (by simp only [sTw, if_pos h_2, if_pos h_3])
