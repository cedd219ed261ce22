/-! the reference's whole -/
def rmWh (M : MS) (n : Nat) (p w : Int32) (X : Nat → Nat) (Y : Nat) : Int64 := (ix n p).elim 0 (fun j => if cm_lim M 5 = 0 then 0 else if w = 0 then cm_ch M j / lN (Nat.gcd (X j) Y) else cm_lim M 5 / lN (Nat.gcd (X j) Y))
def gmWh (M : MS) (n : Nat) (p : Int32) : MS := (ix n p).elim (cm_set_th M 0) (fun _ => if cm_lim M 5 = 0 then cm_set_th M 1 else cm_set_th M 0)
set_option maxRecDepth 20000 in
theorem iX3_whole_X3 : ∀ w ∈ wsX30, w ∈ wsX3_whole := by decide +kernel
set_option maxHeartbeats 1000000 in
set_option maxRecDepth 100000 in
theorem kX3_whole (l : Launch) (D : va_G) (cm : Nat → ClassId) (b : Nat → Nat) (n : Nat) (M : MS) (sz : Nat) (p0 p1 : Int32) (X : Nat → Nat) (Y : Nat) (hn : n ≤ 24) (hX : ∀ j, j < n → mSz (cm_ch M j) = lN (X j) ∧ X j < 2147483648) (hY : cm_lim M 5 = lN Y) (hY2 : Y < 2147483648) : Met l yX3_whole wsX3_whole ({ frames := 1, cells := 0, slots := 0, locals := 21 }) (va_Pc [.ref (b 0), .int p0, .int p1] (pM D cm b n M sz)) (va_Ql (fun r (u : MS) => r = rmWh M n p0 p1 X Y ∧ u = gmWh M n p0) (eM D cm b n (va_A (wM cm b n M) sz)) (va_A (wM cm b n M) sz)) 0 0 (va_A (wM cm b n M) sz) := by
  refine Met.ofW (cc := cX3_whole) (maxL := 9) (ret := (some .long)) (by decide) rfl ?_
  intro p e s m args below meth c s₁ B hml hv
  obtain ⟨rfl, hsz, hP, hK, hD0⟩ := hv
  have hx := B.exec
  have hb := B.bytes
  have hr := B.returns
  have hts := atoms_spec (ws := wsX3_whole) B.pre
  have hown : s.vm.findClass RX3 = some m.cls := findClass_of_methodNamed B.named
  have hlocks := B.notSynchronized
  subst hsz
  have hD := hD0.self (sz := s.heap.size)
  generalize hAe : va_A (wM cm b n M) s.heap.size = A at hD ⊢
  have hA : ∀ q : Nat, s.heap.size ≤ q → A q := fun q h => by rw [← hAe]; exact Or.inr h
  have hS : va_S A s.heap s.heap [] := va_S.rf
  have hl := lv_entry ([.ref (b 0), .int p0, .int p1]) (n := 9) (Nat.le_of_ble_eq_true rfl)
  rw [lg_entry_eq]
  generalize (lg_sl ([.ref (b 0), .int p0, .int p1]) ++ List.replicate (9 - (lg_sl ([.ref (b 0), .int p0, .int p1])).length) Slot.unset).toArray = ls at hl ⊢
  have hl : lv_has ls 9 [(0, .ref (b 0)), (1, .int p0), (2, .int p1)] := hl
  refine lv_aload_n hx hb dX3_whole_0 rfl (lv_at hl 0 rfl) ?_
  refine lv_iconst (v := 0) hx hb dX3_whole_1 (by decide) ?_
  refine va_put (D := D) (ci := 4) (v := .int 0) (ty := .int) (C := RX3) (T := TX3) (N := 20) hx hb hts iX3_whole_X3 tyX3 tyX3_ok nmX3 hown hK hP hD hS 0 rfl rfl 0 (by decide) (hts (.fieldLink RX3 73 "CellRows2Model" "thrown" "I") (by decide +kernel)) (fun _ h9 => h9) rfl (by decide +kernel) rfl rfl (Nat.le_of_ble_eq_true rfl) dX3_whole_2 (fun H1 locs1 hP hD hS => ?_)
  have hP : va_P D vwCl (wM cm b n (cm_set_th M 0)) H1 := hP
  have hD : va_D A (wM cm b n (cm_set_th M 0)) := hD
  refine lv_aload_n hx hb dX3_whole_5 rfl (lv_at hl 0 rfl) ?_
  refine lv_iload_n hx hb dX3_whole_6 rfl (lv_at hl 1 rfl) ?_
  refine vp_callSi (W.runV (As := [.int p0]) (rest := []) ⟨hx, hb, hml, hown, hts⟩ (kX3_noCell l D cm b n (cm_set_th M 0) H1.size p0 hn) (cwV 1 hts gX3_whole_X3_noCell rfl rfl rfl (by decide +kernel) ⟨Nat.le_of_ble_eq_true rfl, Nat.le_of_ble_eq_true rfl⟩) ⟨pM_blind, va_recv hK hP (ci := 4) (q0 := 0) rfl rfl, fun U hU hW => ⟨rfl, pM_mk hP hK hD hU hW⟩⟩ rfl rfl hl.1 rfl (lv_room (Nat.le_of_ble_eq_true rfl)) dX3_whole_7 ⟨Nat.le_of_ble_eq_true rfl, Nat.le_of_ble_eq_true rfl⟩) (fun r2 hr2 => ?_)
  obtain rfl : r2 = mNo n p0 := hr2
  refine iz_eq (tgt := 15) hx hb dX3_whole_10 (by decide) (fun h_3 => ?_) (fun h_3 => ?_)
  · obtain ⟨j, e_ix⟩ := mNo_0 h_3
    obtain ⟨hj, rfl⟩ := ix_some e_ix
    refine lv_aload_n hx hb dX3_whole_15 rfl (lv_at hl 0 rfl) ?_
    refine lv_aload_n hx hb dX3_whole_16 rfl (lv_at hl 0 rfl) ?_
    refine va_get (D := D) (ci := 4) (v := .ref (b 7)) (C := RX3) (T := TX3) (N := 20) hx hb hts iX3_whole_X3 hown hK hP 0 rfl rfl 8 (by decide) (hts (.fieldLink RX3 43 "CellRows2Model" "limits" "[J") (by decide +kernel)) (fun _ h9 => h9) rfl dX3_whole_17 ?_
    refine lv_iconst (v := 5) hx hb dX3_whole_20 (by decide) ?_
    refine ra_l (f := (cm_lim M)) hx hb hK hP 7 6 rfl rfl 5 rfl (Nat.le_of_ble_eq_true rfl) (Nat.le_of_ble_eq_true rfl) dX3_whole_21 ?_
    refine lv_lconst (v := 0) hx hb dX3_whole_22 (by decide) ?_
    refine il_ne (tgt := 31) hx hb dX3_whole_23 dX3_whole_24 (by decide) (fun h_4 => ?_) (fun h_4 => ?_)
    · refine lv_iconst (v := 0) hx hb dX3_whole_31 (by decide) ?_
      refine va_put (D := D) (ci := 4) (v := .int 0) (ty := .int) (C := RX3) (T := TX3) (N := 20) hx hb hts iX3_whole_X3 tyX3 tyX3_ok nmX3 hown hK hP hD hS 0 rfl rfl 0 (by decide) (hts (.fieldLink RX3 73 "CellRows2Model" "thrown" "I") (by decide +kernel)) (fun _ h9 => h9) rfl (by decide +kernel) rfl rfl (Nat.le_of_ble_eq_true rfl) dX3_whole_32 (fun H5 locs5 hP hD hS => ?_)
      have hP : va_P D vwCl (wM cm b n (cm_set_th M 0)) H5 := hP
      have hD : va_D A (wM cm b n (cm_set_th M 0)) := hD
      refine lv_aload_n hx hb dX3_whole_35 rfl (lv_at hl 0 rfl) ?_
      refine va_get (D := D) (ci := 4) (v := .int 0) (C := RX3) (T := TX3) (N := 20) hx hb hts iX3_whole_X3 hown hK hP 0 rfl rfl 0 (by decide) (hts (.fieldLink RX3 73 "CellRows2Model" "thrown" "I") (by decide +kernel)) (fun _ h9 => h9) rfl dX3_whole_36 ?_
      refine iz_le (tgt := 44) hx hb dX3_whole_39 (by decide) (fun h_6 => ?_) (fun h_6 => ?_)
      · refine lv_aload_n hx hb dX3_whole_44 rfl (lv_at hl 0 rfl) ?_
        refine va_get (D := D) (ci := 4) (v := .ref (b 1)) (C := RX3) (T := TX3) (N := 20) hx hb hts iX3_whole_X3 hown hK hP 0 rfl rfl 2 (by decide) (hts (.fieldLink RX3 7 "CellRows2Model" "charges" "[J") (by decide +kernel)) (fun _ h9 => h9) rfl dX3_whole_45 ?_
        refine lv_iload_n hx hb dX3_whole_48 rfl (lv_at hl 1 rfl) ?_
        refine ra_l (f := (cm_ch M)) hx hb hK hP 1 0 rfl rfl j rfl (by omega) (Nat.le_of_ble_eq_true rfl) dX3_whole_49 ?_
        refine vp_callSl (W.runS (As := [.long ((cm_ch M) j)]) (rest := []) ⟨hx, hb, hml, hown, hts⟩ (kX3_size l ((cm_ch M) j)) (va_cwS 1 hts gX3_whole_X3_size rfl rfl rfl (by decide +kernel) ⟨Nat.le_of_ble_eq_true rfl, Nat.le_of_ble_eq_true rfl⟩) ⟨fun _ _ _ _ q => q, fun U hU hW => ⟨rfl, trivial⟩⟩ rfl rfl hl.1 rfl (lv_room (Nat.le_of_ble_eq_true rfl)) dX3_whole_50 ⟨Nat.le_of_ble_eq_true rfl, Nat.le_of_ble_eq_true rfl⟩) (fun r7 hr7 => ?_)
        obtain rfl : r7 = mSz ((cm_ch M) j) := hr7
        refine W.eqs (st2 := [.long (lN (X j))]) (by rw [(hX j hj).1]) ?_
        refine lv_lstore_n (lv' := [(3, .long (lN (X j))), (0, .ref (b 0)), (1, .int (nI j)), (2, .int p1)]) hx hb dX3_whole_53 rfl hl (by decide) rfl (fun ls hl => ?_)
        refine lv_aload_n hx hb dX3_whole_54 rfl (lv_at hl 1 rfl) ?_
        refine va_get (D := D) (ci := 4) (v := .ref (b 7)) (C := RX3) (T := TX3) (N := 20) hx hb hts iX3_whole_X3 hown hK hP 0 rfl rfl 8 (by decide) (hts (.fieldLink RX3 43 "CellRows2Model" "limits" "[J") (by decide +kernel)) (fun _ h9 => h9) rfl dX3_whole_55 ?_
        refine lv_iconst (v := 5) hx hb dX3_whole_58 (by decide) ?_
        refine ra_l (f := (cm_lim M)) hx hb hK hP 7 6 rfl rfl 5 rfl (Nat.le_of_ble_eq_true rfl) (Nat.le_of_ble_eq_true rfl) dX3_whole_59 ?_
        refine W.eqs (st2 := [.long (lN Y)]) (by rw [hY]) ?_
        refine lv_lstore (lv' := [(5, .long (lN Y)), (3, .long (lN (X j))), (0, .ref (b 0)), (1, .int (nI j)), (2, .int p1)]) hx hb dX3_whole_60 hl (by decide) rfl (fun ls hl => ?_)
        refine W.loop (α := Nat × Nat × Array Slot) (g := fun v9 => F0 m 62 v9.2.2 []) (fun k9 v9 => v9.2.1 ≤ k9 ∧ Nat.gcd v9.1 v9.2.1 = Nat.gcd (X j) Y ∧ v9.1 < 2147483648 ∧ v9.2.1 < 2147483648 ∧ lv_has v9.2.2 9 [(0, .ref (b 0)), (1, .int (nI j)), (2, .int p1), (3, .long (lN v9.1)), (5, .long (lN v9.2.1))]) ?_ ?_ Y (X j, Y, ls) ⟨Nat.le_refl _, rfl, (hX j hj).2, hY2, lv_sub hl [2, 3, 4, 1, 0] rfl⟩
        · rintro ⟨x, y, ls⟩ ⟨h9, hg9, hx9, hy9, hl⟩
          have h9 : y ≤ 0 := h9
          have hg9 : Nat.gcd x y = Nat.gcd (X j) Y := hg9
          have hx9 : x < 2147483648 := hx9
          have hy9 : y < 2147483648 := hy9
          have e9 : y = 0 := by omega
          have hl : lv_has ls 9 [(0, .ref (b 0)), (1, .int (nI j)), (2, .int p1), (3, .long (lN x)), (5, .long (lN y))] := hl
          refine lv_lload hx hb dX3_whole_62 (lv_at hl 4 rfl) ?_
          refine lv_lconst (v := 0) hx hb dX3_whole_64 (by decide) ?_
          refine il_eq (tgt := 85) hx hb dX3_whole_65 dX3_whole_66 (by decide) (fun h_9 => ?_) (fun h_9 => ?_)
          · have ey : y = 0 := (lN_eq (b := 0) hy9 (by omega)).1 h_9
            have eg : x = Nat.gcd (X j) Y := by rw [← hg9, ey, Nat.gcd_zero_right]
            rw [eg] at hl
            have hY0 : 0 < Y := Nat.pos_of_ne_zero (fun q => h_4 (by rw [hY, q]; rfl))
            have hgl := Nat.gcd_le_right (X j) hY0
            have hgz : ¬ lN (Nat.gcd (X j) Y) = 0 := fun q => absurd (Nat.gcd_pos_of_pos_right (X j) hY0) (by rw [(lN_eq (a := Nat.gcd (X j) Y) (b := 0) (by omega) (by omega)).1 q]; exact Nat.lt_irrefl 0)
            have hl : lv_has ls 9 [(0, .ref (b 0)), (1, .int (nI j)), (2, .int p1), (3, .long (lN (Nat.gcd (X j) Y)))] := lv_sub hl [0, 1, 2, 3] rfl
            refine lv_iload_n hx hb dX3_whole_85 rfl (lv_at hl 2 rfl) ?_
            refine iz_ne (tgt := 100) hx hb dX3_whole_86 (by decide) (fun h_10 => ?_) (fun h_10 => ?_)
            · refine lv_aload_n hx hb dX3_whole_100 rfl (lv_at hl 0 rfl) ?_
              refine va_get (D := D) (ci := 4) (v := .ref (b 7)) (C := RX3) (T := TX3) (N := 20) hx hb hts iX3_whole_X3 hown hK hP 0 rfl rfl 8 (by decide) (hts (.fieldLink RX3 43 "CellRows2Model" "limits" "[J") (by decide +kernel)) (fun _ h9 => h9) rfl dX3_whole_101 ?_
              refine lv_iconst (v := 5) hx hb dX3_whole_104 (by decide) ?_
              refine ra_l (f := (cm_lim M)) hx hb hK hP 7 6 rfl rfl 5 rfl (Nat.le_of_ble_eq_true rfl) (Nat.le_of_ble_eq_true rfl) dX3_whole_105 ?_
              refine lv_lload_n hx hb dX3_whole_106 rfl (lv_at hl 3 rfl) ?_
              refine lv_ldiv hx hb dX3_whole_107 hgz ?_
              exact W.lret (v := ((cm_lim M) 5) / (lN (Nat.gcd (X j) Y))) hx hb hr (fun t ht hW => ⟨⟨((cm_lim M) 5) / (lN (Nat.gcd (X j) Y)), (cm_set_th M 0), rfl, ⟨(by first | rfl | (simp only [rmWh, gmWh, if_pos h_3, e_ix, Option.elim_some, if_neg h_4, if_neg h_6, if_pos h_9, if_neg h_10] <;> rfl)), (by first | rfl | (simp only [rmWh, gmWh, if_pos h_3, e_ix, Option.elim_some, if_neg h_4, if_neg h_6, if_pos h_9, if_neg h_10] <;> rfl))⟩, by rw [ht]; exact hP, va_K.moved hW.alike hK, hD⟩, hS.F ht⟩) hS.2.2 dX3_whole_108
            · refine lv_aload_n hx hb dX3_whole_89 rfl (lv_at hl 0 rfl) ?_
              refine va_get (D := D) (ci := 4) (v := .ref (b 1)) (C := RX3) (T := TX3) (N := 20) hx hb hts iX3_whole_X3 hown hK hP 0 rfl rfl 2 (by decide) (hts (.fieldLink RX3 7 "CellRows2Model" "charges" "[J") (by decide +kernel)) (fun _ h9 => h9) rfl dX3_whole_90 ?_
              refine lv_iload_n hx hb dX3_whole_93 rfl (lv_at hl 1 rfl) ?_
              refine ra_l (f := (cm_ch M)) hx hb hK hP 1 0 rfl rfl j rfl (by omega) (Nat.le_of_ble_eq_true rfl) dX3_whole_94 ?_
              refine lv_lload_n hx hb dX3_whole_95 rfl (lv_at hl 3 rfl) ?_
              refine lv_ldiv hx hb dX3_whole_96 hgz ?_
              refine lv_goto (tgt := 108) hx hb dX3_whole_97 (by decide) ?_
              exact W.lret (v := ((cm_ch M) j) / (lN (Nat.gcd (X j) Y))) hx hb hr (fun t ht hW => ⟨⟨((cm_ch M) j) / (lN (Nat.gcd (X j) Y)), (cm_set_th M 0), rfl, ⟨(by first | rfl | (simp only [rmWh, gmWh, if_pos h_3, e_ix, Option.elim_some, if_neg h_4, if_neg h_6, if_pos h_9, if_pos h_10] <;> rfl)), (by first | rfl | (simp only [rmWh, gmWh, if_pos h_3, e_ix, Option.elim_some, if_neg h_4, if_neg h_6, if_pos h_9, if_pos h_10] <;> rfl))⟩, by rw [ht]; exact hP, va_K.moved hW.alike hK, hD⟩, hS.F ht⟩) hS.2.2 dX3_whole_108
          · exact absurd (by rw [e9]; rfl) h_9
        · rintro k9 ih ⟨x, y, ls⟩ ⟨h9, hg9, hx9, hy9, hl⟩
          have h9 : y ≤ k9 + 1 := h9
          have hg9 : Nat.gcd x y = Nat.gcd (X j) Y := hg9
          have hx9 : x < 2147483648 := hx9
          have hy9 : y < 2147483648 := hy9
          have hl : lv_has ls 9 [(0, .ref (b 0)), (1, .int (nI j)), (2, .int p1), (3, .long (lN x)), (5, .long (lN y))] := hl
          refine lv_lload hx hb dX3_whole_62 (lv_at hl 4 rfl) ?_
          refine lv_lconst (v := 0) hx hb dX3_whole_64 (by decide) ?_
          refine il_eq (tgt := 85) hx hb dX3_whole_65 dX3_whole_66 (by decide) (fun h_11 => ?_) (fun h_11 => ?_)
          · have ey : y = 0 := (lN_eq (b := 0) hy9 (by omega)).1 h_11
            have eg : x = Nat.gcd (X j) Y := by rw [← hg9, ey, Nat.gcd_zero_right]
            rw [eg] at hl
            have hY0 : 0 < Y := Nat.pos_of_ne_zero (fun q => h_4 (by rw [hY, q]; rfl))
            have hgl := Nat.gcd_le_right (X j) hY0
            have hgz : ¬ lN (Nat.gcd (X j) Y) = 0 := fun q => absurd (Nat.gcd_pos_of_pos_right (X j) hY0) (by rw [(lN_eq (a := Nat.gcd (X j) Y) (b := 0) (by omega) (by omega)).1 q]; exact Nat.lt_irrefl 0)
            have hl : lv_has ls 9 [(0, .ref (b 0)), (1, .int (nI j)), (2, .int p1), (3, .long (lN (Nat.gcd (X j) Y)))] := lv_sub hl [0, 1, 2, 3] rfl
            refine lv_iload_n hx hb dX3_whole_85 rfl (lv_at hl 2 rfl) ?_
            refine iz_ne (tgt := 100) hx hb dX3_whole_86 (by decide) (fun h_12 => ?_) (fun h_12 => ?_)
            · refine lv_aload_n hx hb dX3_whole_100 rfl (lv_at hl 0 rfl) ?_
              refine va_get (D := D) (ci := 4) (v := .ref (b 7)) (C := RX3) (T := TX3) (N := 20) hx hb hts iX3_whole_X3 hown hK hP 0 rfl rfl 8 (by decide) (hts (.fieldLink RX3 43 "CellRows2Model" "limits" "[J") (by decide +kernel)) (fun _ h9 => h9) rfl dX3_whole_101 ?_
              refine lv_iconst (v := 5) hx hb dX3_whole_104 (by decide) ?_
              refine ra_l (f := (cm_lim M)) hx hb hK hP 7 6 rfl rfl 5 rfl (Nat.le_of_ble_eq_true rfl) (Nat.le_of_ble_eq_true rfl) dX3_whole_105 ?_
              refine lv_lload_n hx hb dX3_whole_106 rfl (lv_at hl 3 rfl) ?_
              refine lv_ldiv hx hb dX3_whole_107 hgz ?_
              exact W.lret (v := ((cm_lim M) 5) / (lN (Nat.gcd (X j) Y))) hx hb hr (fun t ht hW => ⟨⟨((cm_lim M) 5) / (lN (Nat.gcd (X j) Y)), (cm_set_th M 0), rfl, ⟨(by first | rfl | (simp only [rmWh, gmWh, if_pos h_3, e_ix, Option.elim_some, if_neg h_4, if_neg h_6, if_pos h_11, if_neg h_12] <;> rfl)), (by first | rfl | (simp only [rmWh, gmWh, if_pos h_3, e_ix, Option.elim_some, if_neg h_4, if_neg h_6, if_pos h_11, if_neg h_12] <;> rfl))⟩, by rw [ht]; exact hP, va_K.moved hW.alike hK, hD⟩, hS.F ht⟩) hS.2.2 dX3_whole_108
            · refine lv_aload_n hx hb dX3_whole_89 rfl (lv_at hl 0 rfl) ?_
              refine va_get (D := D) (ci := 4) (v := .ref (b 1)) (C := RX3) (T := TX3) (N := 20) hx hb hts iX3_whole_X3 hown hK hP 0 rfl rfl 2 (by decide) (hts (.fieldLink RX3 7 "CellRows2Model" "charges" "[J") (by decide +kernel)) (fun _ h9 => h9) rfl dX3_whole_90 ?_
              refine lv_iload_n hx hb dX3_whole_93 rfl (lv_at hl 1 rfl) ?_
              refine ra_l (f := (cm_ch M)) hx hb hK hP 1 0 rfl rfl j rfl (by omega) (Nat.le_of_ble_eq_true rfl) dX3_whole_94 ?_
              refine lv_lload_n hx hb dX3_whole_95 rfl (lv_at hl 3 rfl) ?_
              refine lv_ldiv hx hb dX3_whole_96 hgz ?_
              refine lv_goto (tgt := 108) hx hb dX3_whole_97 (by decide) ?_
              exact W.lret (v := ((cm_ch M) j) / (lN (Nat.gcd (X j) Y))) hx hb hr (fun t ht hW => ⟨⟨((cm_ch M) j) / (lN (Nat.gcd (X j) Y)), (cm_set_th M 0), rfl, ⟨(by first | rfl | (simp only [rmWh, gmWh, if_pos h_3, e_ix, Option.elim_some, if_neg h_4, if_neg h_6, if_pos h_11, if_pos h_12] <;> rfl)), (by first | rfl | (simp only [rmWh, gmWh, if_pos h_3, e_ix, Option.elim_some, if_neg h_4, if_neg h_6, if_pos h_11, if_pos h_12] <;> rfl))⟩, by rw [ht]; exact hP, va_K.moved hW.alike hK, hD⟩, hS.F ht⟩) hS.2.2 dX3_whole_108
          · refine lv_lload_n hx hb dX3_whole_69 rfl (lv_at hl 3 rfl) ?_
            refine lv_lload hx hb dX3_whole_70 (lv_at hl 4 rfl) ?_
            have h_nz := h_11
            have hy0 : 0 < y := Nat.pos_of_ne_zero (fun q => h_11 (by rw [q]; rfl))
            refine lv_lrem hx hb dX3_whole_72 h_nz ?_
            refine W.eqs (st2 := [.long (lN (x % y))]) (by rw [pk_lRem (a := x) (b := y) (by omega) hy0 (by omega)]) ?_
            refine lv_lstore (lv' := [(7, .long (lN (x % y))), (0, .ref (b 0)), (1, .int (nI j)), (2, .int p1), (3, .long (lN x)), (5, .long (lN y))]) hx hb dX3_whole_73 hl (by decide) rfl (fun ls hl => ?_)
            refine lv_lload hx hb dX3_whole_75 (lv_at hl 5 rfl) ?_
            refine lv_lstore_n (lv' := [(3, .long (lN y)), (7, .long (lN (x % y))), (0, .ref (b 0)), (1, .int (nI j)), (2, .int p1), (5, .long (lN y))]) hx hb dX3_whole_77 rfl hl (by decide) rfl (fun ls hl => ?_)
            refine lv_lload hx hb dX3_whole_78 (lv_at hl 1 rfl) ?_
            refine lv_lstore (lv' := [(5, .long (lN (x % y))), (3, .long (lN y)), (7, .long (lN (x % y))), (0, .ref (b 0)), (1, .int (nI j)), (2, .int p1)]) hx hb dX3_whole_80 hl (by decide) rfl (fun ls hl => ?_)
            refine lv_goto (tgt := 62) hx hb dX3_whole_82 (by decide) ?_
            exact ih (y, (x % y), ls) ⟨(by show x % y ≤ k9; have q := Nat.mod_lt x hy0; omega), (by rw [← hg9]; exact (Nat.gcd_comm y (x % y)).trans ((Nat.gcd_rec y x).symm.trans (Nat.gcd_comm y x))), hy9, (by show x % y < 2147483648; have q := Nat.mod_lt x hy0; omega), lv_sub hl [3, 4, 5, 1, 0] rfl⟩
      · exact absurd h_6 (by decide)
    · refine lv_iconst (v := 1) hx hb dX3_whole_27 (by decide) ?_
      refine lv_goto (tgt := 32) hx hb dX3_whole_28 (by decide) ?_
      refine va_put (D := D) (ci := 4) (v := .int 1) (ty := .int) (C := RX3) (T := TX3) (N := 20) hx hb hts iX3_whole_X3 tyX3 tyX3_ok nmX3 hown hK hP hD hS 0 rfl rfl 0 (by decide) (hts (.fieldLink RX3 73 "CellRows2Model" "thrown" "I") (by decide +kernel)) (fun _ h9 => h9) rfl (by decide +kernel) rfl rfl (Nat.le_of_ble_eq_true rfl) dX3_whole_32 (fun H13 locs13 hP hD hS => ?_)
      have hP : va_P D vwCl (wM cm b n (cm_set_th M 1)) H13 := hP
      have hD : va_D A (wM cm b n (cm_set_th M 1)) := hD
      refine lv_aload_n hx hb dX3_whole_35 rfl (lv_at hl 0 rfl) ?_
      refine va_get (D := D) (ci := 4) (v := .int 1) (C := RX3) (T := TX3) (N := 20) hx hb hts iX3_whole_X3 hown hK hP 0 rfl rfl 0 (by decide) (hts (.fieldLink RX3 73 "CellRows2Model" "thrown" "I") (by decide +kernel)) (fun _ h9 => h9) rfl dX3_whole_36 ?_
      refine iz_le (tgt := 44) hx hb dX3_whole_39 (by decide) (fun h_14 => ?_) (fun h_14 => ?_)
      · exact absurd (by decide) h_14
      · refine lv_lconst (v := 0) hx hb dX3_whole_42 (by decide) ?_
        exact W.lret (v := 0) hx hb hr (fun t ht hW => ⟨⟨0, (cm_set_th M 1), rfl, ⟨(by first | rfl | (simp only [rmWh, gmWh, if_pos h_3, e_ix, Option.elim_some, if_pos h_4, if_pos h_14] <;> rfl)), (by first | rfl | (simp only [rmWh, gmWh, if_pos h_3, e_ix, Option.elim_some, if_pos h_4, if_pos h_14] <;> rfl))⟩, by rw [ht]; exact hP, va_K.moved hW.alike hK, hD⟩, hS.F ht⟩) hS.2.2 dX3_whole_43
  · have e_ixn := mNo_1 h_3
    refine lv_lconst (v := 0) hx hb dX3_whole_13 (by decide) ?_
    exact W.lret (v := 0) hx hb hr (fun t ht hW => ⟨⟨0, (cm_set_th M 0), rfl, ⟨(by first | rfl | (simp only [rmWh, gmWh, if_neg h_3, e_ixn, Option.elim_none] <;> rfl)), (by first | rfl | (simp only [rmWh, gmWh, if_neg h_3, e_ixn, Option.elim_none] <;> rfl))⟩, by rw [ht]; exact hP, va_K.moved hW.alike hK, hD⟩, hS.F ht⟩) hS.2.2 dX3_whole_14
