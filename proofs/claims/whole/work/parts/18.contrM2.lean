set_option maxRecDepth 20000 in
theorem iX3_point_X3 : ∀ w ∈ wsX30, w ∈ wsX3_point := by decide +kernel
set_option maxHeartbeats 1000000 in
set_option maxRecDepth 100000 in
theorem kX3_point (l : Launch) (D : va_G) (cm : Nat → ClassId) (b : Nat → Nat) (n : Nat) (M : MS) (sz : Nat) (v : Int64) (hp : cm_many M ≤ 500) (hc : cm_many M + 2 * cm_cyc M ≤ 513) : Met l yX3_point wsX3_point ({ frames := 1, cells := 0, slots := 0, locals := 24 }) (va_Pc [.ref (b 0), .long v] (pM D cm b n M sz)) (va_Qv (fun u : MS => u = mPoint M v) (eM D cm b n (va_A (wM cm b n M) sz)) (va_A (wM cm b n M) sz)) 0 0 (va_A (wM cm b n M) sz) := by
  refine Met.ofW (cc := cX3_point) (maxL := 12) (ret := none) (by decide) rfl ?_
  intro p e s m args below meth c s₁ B hml hv
  obtain ⟨rfl, hsz, hP, hK, hD0⟩ := hv
  have hx := B.exec
  have hb := B.bytes
  have hr := B.returns
  have hts := atoms_spec (ws := wsX3_point) B.pre
  have hown : s.vm.findClass RX3 = some m.cls := findClass_of_methodNamed B.named
  have hlocks := B.notSynchronized
  subst hsz
  have hD := hD0.self (sz := s.heap.size)
  generalize hAe : va_A (wM cm b n M) s.heap.size = A at hD ⊢
  have hA : ∀ q : Nat, s.heap.size ≤ q → A q := fun q h => by rw [← hAe]; exact Or.inr h
  have hS : va_S A s.heap s.heap [] := va_S.rf
  have hl := lv_entry ([.ref (b 0), .long v]) (n := 12) (Nat.le_of_ble_eq_true rfl)
  rw [lg_entry_eq]
  generalize (lg_sl ([.ref (b 0), .long v]) ++ List.replicate (12 - (lg_sl ([.ref (b 0), .long v])).length) Slot.unset).toArray = ls at hl ⊢
  have hl : lv_has ls 12 [(0, .ref (b 0)), (1, .long v)] := hl
  refine lv_aload_n hx hb dX3_point_0 rfl (lv_at hl 0 rfl) ?_
  refine lv_lload_n hx hb dX3_point_1 rfl (lv_at hl 1 rfl) ?_
  refine vp_callSi (W.runV (As := [.long v]) (rest := []) ⟨hx, hb, hml, hown, hts⟩ (kX3_goesOn l D cm b n M s.heap.size v (by omega)) (cwV 1 hts gX3_point_X3_goesOn rfl rfl rfl (by decide +kernel) ⟨Nat.le_of_ble_eq_true rfl, Nat.le_of_ble_eq_true rfl⟩) ⟨pM_blind, va_recv hK hP (ci := 4) (q0 := 0) rfl rfl, fun U hU hW => ⟨rfl, pM_mk hP hK hD hU hW⟩⟩ rfl rfl hl.1 rfl (lv_room (Nat.le_of_ble_eq_true rfl)) dX3_point_2 ⟨Nat.le_of_ble_eq_true rfl, Nat.le_of_ble_eq_true rfl⟩) (fun r1 hr1 => ?_)
  obtain rfl : r1 = mGo (cm_pts M) (cm_many M) v := hr1
  refine W.joinH (P := fun (v9 : MS) (H' : Heap) (locs' : List Loc) => v9 = mPut M v ∧ va_P D vwCl (wM cm b n v9) H' ∧ va_D A (wM cm b n v9) ∧ va_S A s.heap H' locs') (g := fun _ => F0 m 53 ls []) (fun M1 H2 locs2 hj2 => ?_) (fun J2 => ?_)
  · obtain ⟨hs_M1, hP, hD, hS⟩ := hj2
    obtain ⟨hp1, hc1⟩ := mPut_ok (M := M) (v := v) hp
    rw [← hs_M1] at hp1 hc1
    refine lv_iconst (v := 1) hx hb dX3_point_53 (by decide) ?_
    refine lv_istore_n (lv' := [(3, .int 1), (0, .ref (b 0)), (1, .long v)]) hx hb dX3_point_54 rfl hl (by decide) rfl (fun ls hl => ?_)
    refine W.loopH (α := MS × Array Slot) (g := fun v9 => F0 m 55 v9.2 []) (fun k9 v9 H' L' => mTco k9 v9.1 = mTco 250 M1 ∧ cm_many v9.1 ≤ 2 * k9 + 3 ∧ cm_many v9.1 ≤ 500 ∧ cm_many v9.1 + 2 * cm_cyc v9.1 ≤ 514 ∧ va_P D vwCl (wM cm b n v9.1) H' ∧ va_D A (wM cm b n v9.1) ∧ va_S A s.heap H' L' ∧ lv_has v9.2 12 [(0, .ref (b 0)), (3, .int 1)]) ?_ ?_ 250 (M1, ls) ⟨rfl, (by show cm_many M1 ≤ 2 * 250 + 3; omega), hp1, (by show cm_many M1 + 2 * cm_cyc M1 ≤ 514; omega), hP, hD, hS, lv_sub hl [1, 0] rfl⟩
    · rintro ⟨U, ls⟩ H8 locs8 ⟨hT, hb9, hp9, hc9, hP, hD, hS, hl⟩
      have hT : mTco 0 U = mTco 250 M1 := hT
      have hb9 : cm_many U ≤ 2 * 0 + 3 := hb9
      have hl : lv_has ls 12 [(0, .ref (b 0)), (3, .int 1)] := hl
      have hP : va_P D vwCl (wM cm b n U) H8 := hP
      have hD : va_D A (wM cm b n U) := hD
      refine lv_iload_n hx hb dX3_point_55 rfl (lv_at hl 1 rfl) ?_
      refine iz_eq (tgt := 248) hx hb dX3_point_56 (by decide) (fun h_9 => ?_) (fun h_9 => ?_)
      · exact absurd h_9 (by decide)
      · refine lv_aload_n hx hb dX3_point_59 rfl (lv_at hl 0 rfl) ?_
        refine va_get (D := D) (ci := 4) (v := .int (nI (cm_many U))) (C := RX3) (T := TX3) (N := 20) hx hb hts iX3_point_X3 hown hK hP 0 rfl rfl 16 (by decide) (hts (.fieldLink RX3 82 "CellRows2Model" "many" "I") (by decide +kernel)) (fun _ h9 => h9) rfl dX3_point_60 ?_
        refine lv_iconst (v := 3) hx hb dX3_point_63 (by decide) ?_
        refine ib_le (tgt := 248) hx hb dX3_point_64 (by decide) (fun h_10 => ?_) (fun h_10 => ?_)
        · exact W.vret hx hb hr (fun t ht hW => ⟨⟨U, rfl, (by show U = mTco 250 (mPut M v); rw [← hs_M1, ← hT]; simp only [mTco, if_neg h_9, if_neg h_10]), by rw [ht]; exact hP, va_K.moved hW.alike hK, hD⟩, hS.F ht⟩) hS.2.2 dX3_point_248
        · exact absurd h_10 (nI_nlt (a := 3) (b := cm_many U) (by omega) (by omega))
    · rintro k9 ih ⟨U, ls⟩ H8 locs8 ⟨hT, hb9, hp9, hc9, hP, hD, hS, hl⟩
      have hT : mTco (k9 + 1) U = mTco 250 M1 := hT
      have hb9 : cm_many U ≤ 2 * (k9 + 1) + 3 := hb9
      have hp9 : cm_many U ≤ 500 := hp9
      have hc9 : cm_many U + 2 * cm_cyc U ≤ 514 := hc9
      have hl : lv_has ls 12 [(0, .ref (b 0)), (3, .int 1)] := hl
      have hP : va_P D vwCl (wM cm b n U) H8 := hP
      have hD : va_D A (wM cm b n U) := hD
      refine lv_iload_n hx hb dX3_point_55 rfl (lv_at hl 1 rfl) ?_
      refine iz_eq (tgt := 248) hx hb dX3_point_56 (by decide) (fun h_11 => ?_) (fun h_11 => ?_)
      · exact absurd h_11 (by decide)
      · refine lv_aload_n hx hb dX3_point_59 rfl (lv_at hl 0 rfl) ?_
        refine va_get (D := D) (ci := 4) (v := .int (nI (cm_many U))) (C := RX3) (T := TX3) (N := 20) hx hb hts iX3_point_X3 hown hK hP 0 rfl rfl 16 (by decide) (hts (.fieldLink RX3 82 "CellRows2Model" "many" "I") (by decide +kernel)) (fun _ h9 => h9) rfl dX3_point_60 ?_
        refine lv_iconst (v := 3) hx hb dX3_point_63 (by decide) ?_
        refine ib_le (tgt := 248) hx hb dX3_point_64 (by decide) (fun h_12 => ?_) (fun h_12 => ?_)
        · exact W.vret hx hb hr (fun t ht hW => ⟨⟨U, rfl, (by show U = mTco 250 (mPut M v); rw [← hs_M1, ← hT]; simp only [mTco, if_neg h_11, if_neg h_12]), by rw [ht]; exact hP, va_K.moved hW.alike hK, hD⟩, hS.F ht⟩) hS.2.2 dX3_point_248
        · have g4 : 3 < cm_many U := nI_islt (a := 3) (by omega) (by omega) h_12
          refine lv_aload_n hx hb dX3_point_67 rfl (lv_at hl 0 rfl) ?_
          refine va_get (D := D) (ci := 4) (v := .ref (b 10)) (C := RX3) (T := TX3) (N := 20) hx hb hts iX3_point_X3 hown hK hP 0 rfl rfl 15 (by decide) (hts (.fieldLink RX3 52 "CellRows2Model" "points" "[J") (by decide +kernel)) (fun _ h9 => h9) rfl dX3_point_68 ?_
          refine lv_aload_n hx hb dX3_point_71 rfl (lv_at hl 0 rfl) ?_
          refine va_get (D := D) (ci := 4) (v := .int (nI (cm_many U))) (C := RX3) (T := TX3) (N := 20) hx hb hts iX3_point_X3 hown hK hP 0 rfl rfl 16 (by decide) (hts (.fieldLink RX3 82 "CellRows2Model" "many" "I") (by decide +kernel)) (fun _ h9 => h9) rfl dX3_point_72 ?_
          refine lv_iconst (v := 4) hx hb dX3_point_75 (by decide) ?_
          refine lv_isub hx hb dX3_point_76 ?_
          refine W.eqi (pk_sub (a := (cm_many U)) (b := 4) (by omega)) ?_
          refine ra_l (f := (cm_pts U)) hx hb hK hP 10 9 rfl rfl ((cm_many U) - 4) rfl (by omega) (Nat.le_of_ble_eq_true rfl) dX3_point_77 ?_
          refine lv_lstore (lv' := [(4, .long ((cm_pts U) ((cm_many U) - 4))), (0, .ref (b 0)), (3, .int 1)]) hx hb dX3_point_78 hl (by decide) rfl (fun ls hl => ?_)
          refine lv_aload_n hx hb dX3_point_80 rfl (lv_at hl 1 rfl) ?_
          refine va_get (D := D) (ci := 4) (v := .ref (b 10)) (C := RX3) (T := TX3) (N := 20) hx hb hts iX3_point_X3 hown hK hP 0 rfl rfl 15 (by decide) (hts (.fieldLink RX3 52 "CellRows2Model" "points" "[J") (by decide +kernel)) (fun _ h9 => h9) rfl dX3_point_81 ?_
          refine lv_aload_n hx hb dX3_point_84 rfl (lv_at hl 1 rfl) ?_
          refine va_get (D := D) (ci := 4) (v := .int (nI (cm_many U))) (C := RX3) (T := TX3) (N := 20) hx hb hts iX3_point_X3 hown hK hP 0 rfl rfl 16 (by decide) (hts (.fieldLink RX3 82 "CellRows2Model" "many" "I") (by decide +kernel)) (fun _ h9 => h9) rfl dX3_point_85 ?_
          refine lv_iconst (v := 3) hx hb dX3_point_88 (by decide) ?_
          refine lv_isub hx hb dX3_point_89 ?_
          refine W.eqi (pk_sub (a := (cm_many U)) (b := 3) (by omega)) ?_
          refine ra_l (f := (cm_pts U)) hx hb hK hP 10 9 rfl rfl ((cm_many U) - 3) rfl (by omega) (Nat.le_of_ble_eq_true rfl) dX3_point_90 ?_
          refine lv_lstore (lv' := [(6, .long ((cm_pts U) ((cm_many U) - 3))), (4, .long ((cm_pts U) ((cm_many U) - 4))), (0, .ref (b 0)), (3, .int 1)]) hx hb dX3_point_91 hl (by decide) rfl (fun ls hl => ?_)
          refine lv_aload_n hx hb dX3_point_93 rfl (lv_at hl 2 rfl) ?_
          refine va_get (D := D) (ci := 4) (v := .ref (b 10)) (C := RX3) (T := TX3) (N := 20) hx hb hts iX3_point_X3 hown hK hP 0 rfl rfl 15 (by decide) (hts (.fieldLink RX3 52 "CellRows2Model" "points" "[J") (by decide +kernel)) (fun _ h9 => h9) rfl dX3_point_94 ?_
          refine lv_aload_n hx hb dX3_point_97 rfl (lv_at hl 2 rfl) ?_
          refine va_get (D := D) (ci := 4) (v := .int (nI (cm_many U))) (C := RX3) (T := TX3) (N := 20) hx hb hts iX3_point_X3 hown hK hP 0 rfl rfl 16 (by decide) (hts (.fieldLink RX3 82 "CellRows2Model" "many" "I") (by decide +kernel)) (fun _ h9 => h9) rfl dX3_point_98 ?_
          refine lv_iconst (v := 2) hx hb dX3_point_101 (by decide) ?_
          refine lv_isub hx hb dX3_point_102 ?_
          refine W.eqi (pk_sub (a := (cm_many U)) (b := 2) (by omega)) ?_
          refine ra_l (f := (cm_pts U)) hx hb hK hP 10 9 rfl rfl ((cm_many U) - 2) rfl (by omega) (Nat.le_of_ble_eq_true rfl) dX3_point_103 ?_
          refine lv_lstore (lv' := [(8, .long ((cm_pts U) ((cm_many U) - 2))), (6, .long ((cm_pts U) ((cm_many U) - 3))), (4, .long ((cm_pts U) ((cm_many U) - 4))), (0, .ref (b 0)), (3, .int 1)]) hx hb dX3_point_104 hl (by decide) rfl (fun ls hl => ?_)
          refine lv_aload_n hx hb dX3_point_106 rfl (lv_at hl 3 rfl) ?_
          refine va_get (D := D) (ci := 4) (v := .ref (b 10)) (C := RX3) (T := TX3) (N := 20) hx hb hts iX3_point_X3 hown hK hP 0 rfl rfl 15 (by decide) (hts (.fieldLink RX3 52 "CellRows2Model" "points" "[J") (by decide +kernel)) (fun _ h9 => h9) rfl dX3_point_107 ?_
          refine lv_aload_n hx hb dX3_point_110 rfl (lv_at hl 3 rfl) ?_
          refine va_get (D := D) (ci := 4) (v := .int (nI (cm_many U))) (C := RX3) (T := TX3) (N := 20) hx hb hts iX3_point_X3 hown hK hP 0 rfl rfl 16 (by decide) (hts (.fieldLink RX3 82 "CellRows2Model" "many" "I") (by decide +kernel)) (fun _ h9 => h9) rfl dX3_point_111 ?_
          refine lv_iconst (v := 1) hx hb dX3_point_114 (by decide) ?_
          refine lv_isub hx hb dX3_point_115 ?_
          refine W.eqi (pk_sub (a := (cm_many U)) (b := 1) (by omega)) ?_
          refine ra_l (f := (cm_pts U)) hx hb hK hP 10 9 rfl rfl ((cm_many U) - 1) rfl (by omega) (Nat.le_of_ble_eq_true rfl) dX3_point_116 ?_
          refine lv_lstore (lv' := [(10, .long ((cm_pts U) ((cm_many U) - 1))), (8, .long ((cm_pts U) ((cm_many U) - 2))), (6, .long ((cm_pts U) ((cm_many U) - 3))), (4, .long ((cm_pts U) ((cm_many U) - 4))), (0, .ref (b 0)), (3, .int 1)]) hx hb dX3_point_117 hl (by decide) rfl (fun ls hl => ?_)
          refine lv_lload hx hb dX3_point_119 (lv_at hl 2 rfl) ?_
          refine lv_lload hx hb dX3_point_121 (lv_at hl 1 rfl) ?_
          refine lv_lsub hx hb dX3_point_123 ?_
          refine vp_callSl (W.runS (As := [.long (((cm_pts U) ((cm_many U) - 3)) - ((cm_pts U) ((cm_many U) - 2)))]) (rest := []) ⟨hx, hb, hml, hown, hts⟩ (kX3_size l (((cm_pts U) ((cm_many U) - 3)) - ((cm_pts U) ((cm_many U) - 2)))) (va_cwS 1 hts gX3_point_X3_size rfl rfl rfl (by decide +kernel) ⟨Nat.le_of_ble_eq_true rfl, Nat.le_of_ble_eq_true rfl⟩) ⟨fun _ _ _ _ q => q, fun U hU hW => ⟨rfl, trivial⟩⟩ rfl rfl hl.1 rfl (lv_room (Nat.le_of_ble_eq_true rfl)) dX3_point_124 ⟨Nat.le_of_ble_eq_true rfl, Nat.le_of_ble_eq_true rfl⟩) (fun r13 hr13 => ?_)
          obtain rfl : r13 = mSz (((cm_pts U) ((cm_many U) - 3)) - ((cm_pts U) ((cm_many U) - 2))) := hr13
          refine lv_lload hx hb dX3_point_127 (lv_at hl 3 rfl) ?_
          refine lv_lload hx hb dX3_point_129 (lv_at hl 2 rfl) ?_
          refine lv_lsub hx hb dX3_point_131 ?_
          refine vp_callSl (W.runS (As := [.long (((cm_pts U) ((cm_many U) - 4)) - ((cm_pts U) ((cm_many U) - 3)))]) (rest := [.long (mSz (((cm_pts U) ((cm_many U) - 3)) - ((cm_pts U) ((cm_many U) - 2))))]) ⟨hx, hb, hml, hown, hts⟩ (kX3_size l (((cm_pts U) ((cm_many U) - 4)) - ((cm_pts U) ((cm_many U) - 3)))) (va_cwS 1 hts gX3_point_X3_size rfl rfl rfl (by decide +kernel) ⟨Nat.le_of_ble_eq_true rfl, Nat.le_of_ble_eq_true rfl⟩) ⟨fun _ _ _ _ q => q, fun U hU hW => ⟨rfl, trivial⟩⟩ rfl rfl hl.1 rfl (lv_room (Nat.le_of_ble_eq_true rfl)) dX3_point_132 ⟨Nat.le_of_ble_eq_true rfl, Nat.le_of_ble_eq_true rfl⟩) (fun r14 hr14 => ?_)
          obtain rfl : r14 = mSz (((cm_pts U) ((cm_many U) - 4)) - ((cm_pts U) ((cm_many U) - 3))) := hr14
          refine il_gt (tgt := 163) hx hb dX3_point_135 dX3_point_136 (by decide) (fun h_15 => ?_) (fun h_15 => ?_)
          · refine lv_iconst (v := 0) hx hb dX3_point_163 (by decide) ?_
            refine lv_istore_n (lv' := [(3, .int 0), (10, .long ((cm_pts U) ((cm_many U) - 1))), (8, .long ((cm_pts U) ((cm_many U) - 2))), (6, .long ((cm_pts U) ((cm_many U) - 3))), (4, .long ((cm_pts U) ((cm_many U) - 4))), (0, .ref (b 0))]) hx hb dX3_point_164 rfl hl (by decide) rfl (fun ls hl => ?_)
            refine lv_iload_n hx hb dX3_point_165 rfl (lv_at hl 0 rfl) ?_
            refine iz_eq (tgt := 245) hx hb dX3_point_166 (by decide) (fun h_16 => ?_) (fun h_16 => ?_)
            · refine lv_goto (tgt := 55) hx hb dX3_point_245 (by decide) ?_
              refine lv_iload_n hx hb dX3_point_55 rfl (lv_at hl 0 rfl) ?_
              refine iz_eq (tgt := 248) hx hb dX3_point_56 (by decide) (fun h_17 => ?_) (fun h_17 => ?_)
              · exact W.vret hx hb hr (fun t ht hW => ⟨⟨U, rfl, (by show U = mTco 250 (mPut M v); rw [← hs_M1, ← hT]; simp only [mTco, if_neg h_11, if_pos h_12, if_pos h_15, if_pos h_16, if_pos h_17]), by rw [ht]; exact hP, va_K.moved hW.alike hK, hD⟩, hS.F ht⟩) hS.2.2 dX3_point_248
              · exact absurd h_16 h_17
            · exact absurd (by decide) h_16
          · refine lv_lload hx hb dX3_point_139 (lv_at hl 2 rfl) ?_
            refine lv_lload hx hb dX3_point_141 (lv_at hl 1 rfl) ?_
            refine lv_lsub hx hb dX3_point_143 ?_
            refine vp_callSl (W.runS (As := [.long (((cm_pts U) ((cm_many U) - 3)) - ((cm_pts U) ((cm_many U) - 2)))]) (rest := []) ⟨hx, hb, hml, hown, hts⟩ (kX3_size l (((cm_pts U) ((cm_many U) - 3)) - ((cm_pts U) ((cm_many U) - 2)))) (va_cwS 1 hts gX3_point_X3_size rfl rfl rfl (by decide +kernel) ⟨Nat.le_of_ble_eq_true rfl, Nat.le_of_ble_eq_true rfl⟩) ⟨fun _ _ _ _ q => q, fun U hU hW => ⟨rfl, trivial⟩⟩ rfl rfl hl.1 rfl (lv_room (Nat.le_of_ble_eq_true rfl)) dX3_point_144 ⟨Nat.le_of_ble_eq_true rfl, Nat.le_of_ble_eq_true rfl⟩) (fun r18 hr18 => ?_)
            obtain rfl : r18 = mSz (((cm_pts U) ((cm_many U) - 3)) - ((cm_pts U) ((cm_many U) - 2))) := hr18
            refine lv_lload hx hb dX3_point_147 (lv_at hl 1 rfl) ?_
            refine lv_lload hx hb dX3_point_149 (lv_at hl 0 rfl) ?_
            refine lv_lsub hx hb dX3_point_151 ?_
            refine vp_callSl (W.runS (As := [.long (((cm_pts U) ((cm_many U) - 2)) - ((cm_pts U) ((cm_many U) - 1)))]) (rest := [.long (mSz (((cm_pts U) ((cm_many U) - 3)) - ((cm_pts U) ((cm_many U) - 2))))]) ⟨hx, hb, hml, hown, hts⟩ (kX3_size l (((cm_pts U) ((cm_many U) - 2)) - ((cm_pts U) ((cm_many U) - 1)))) (va_cwS 1 hts gX3_point_X3_size rfl rfl rfl (by decide +kernel) ⟨Nat.le_of_ble_eq_true rfl, Nat.le_of_ble_eq_true rfl⟩) ⟨fun _ _ _ _ q => q, fun U hU hW => ⟨rfl, trivial⟩⟩ rfl rfl hl.1 rfl (lv_room (Nat.le_of_ble_eq_true rfl)) dX3_point_152 ⟨Nat.le_of_ble_eq_true rfl, Nat.le_of_ble_eq_true rfl⟩) (fun r19 hr19 => ?_)
            obtain rfl : r19 = mSz (((cm_pts U) ((cm_many U) - 2)) - ((cm_pts U) ((cm_many U) - 1))) := hr19
            refine il_gt (tgt := 163) hx hb dX3_point_155 dX3_point_156 (by decide) (fun h_20 => ?_) (fun h_20 => ?_)
            · refine lv_iconst (v := 0) hx hb dX3_point_163 (by decide) ?_
              refine lv_istore_n (lv' := [(3, .int 0), (10, .long ((cm_pts U) ((cm_many U) - 1))), (8, .long ((cm_pts U) ((cm_many U) - 2))), (6, .long ((cm_pts U) ((cm_many U) - 3))), (4, .long ((cm_pts U) ((cm_many U) - 4))), (0, .ref (b 0))]) hx hb dX3_point_164 rfl hl (by decide) rfl (fun ls hl => ?_)
              refine lv_iload_n hx hb dX3_point_165 rfl (lv_at hl 0 rfl) ?_
              refine iz_eq (tgt := 245) hx hb dX3_point_166 (by decide) (fun h_21 => ?_) (fun h_21 => ?_)
              · refine lv_goto (tgt := 55) hx hb dX3_point_245 (by decide) ?_
                refine lv_iload_n hx hb dX3_point_55 rfl (lv_at hl 0 rfl) ?_
                refine iz_eq (tgt := 248) hx hb dX3_point_56 (by decide) (fun h_22 => ?_) (fun h_22 => ?_)
                · exact W.vret hx hb hr (fun t ht hW => ⟨⟨U, rfl, (by show U = mTco 250 (mPut M v); rw [← hs_M1, ← hT]; simp only [mTco, if_neg h_11, if_pos h_12, if_neg h_15, if_pos h_20, if_pos h_21, if_pos h_22]), by rw [ht]; exact hP, va_K.moved hW.alike hK, hD⟩, hS.F ht⟩) hS.2.2 dX3_point_248
                · exact absurd h_21 h_22
              · exact absurd (by decide) h_21
            · refine lv_iconst (v := 1) hx hb dX3_point_159 (by decide) ?_
              refine lv_goto (tgt := 164) hx hb dX3_point_160 (by decide) ?_
              refine lv_istore_n (lv' := [(3, .int 1), (10, .long ((cm_pts U) ((cm_many U) - 1))), (8, .long ((cm_pts U) ((cm_many U) - 2))), (6, .long ((cm_pts U) ((cm_many U) - 3))), (4, .long ((cm_pts U) ((cm_many U) - 4))), (0, .ref (b 0))]) hx hb dX3_point_164 rfl hl (by decide) rfl (fun ls hl => ?_)
              refine lv_iload_n hx hb dX3_point_165 rfl (lv_at hl 0 rfl) ?_
              refine iz_eq (tgt := 245) hx hb dX3_point_166 (by decide) (fun h_23 => ?_) (fun h_23 => ?_)
              · exact absurd h_23 h_11
              · refine W.joinH (P := fun (v9 : MS) (H' : Heap) (locs' : List Loc) => v9 = cm_set_rng U (va_up (cm_rng U) (cm_cyc U) (mSz (cm_pts U (cm_many U - 3) - cm_pts U (cm_many U - 2))).toInt32) ∧ va_P D vwCl (wM cm b n v9) H' ∧ va_D A (wM cm b n v9) ∧ va_S A s.heap H' locs') (g := fun _ => F0 m 187 ls []) (fun Ur H24 locs24 hj24 => ?_) (fun J24 => ?_)
                · obtain ⟨hs_Ur, hP, hD, hS⟩ := hj24
                  have Ur_cyc : cm_cyc Ur = cm_cyc U := by rw [hs_Ur]; exact mg_cyc_rng _ _
                  have Ur_low : cm_low Ur = cm_low U := by rw [hs_Ur]; exact mg_low_rng _ _
                  have Ur_pts : cm_pts Ur = cm_pts U := by rw [hs_Ur]; exact mg_pts_rng _ _
                  have Ur_many : cm_many Ur = cm_many U := by rw [hs_Ur]; exact mg_many_rng _ _
                  refine W.joinH (P := fun (v9 : MS) (H' : Heap) (locs' : List Loc) => v9 = cm_set_low Ur (va_up (cm_low Ur) (cm_cyc Ur) (if cm_pts U (cm_many U - 3) < cm_pts U (cm_many U - 2) then cm_pts U (cm_many U - 3) else cm_pts U (cm_many U - 2)).toInt32) ∧ va_P D vwCl (wM cm b n v9) H' ∧ va_D A (wM cm b n v9) ∧ va_S A s.heap H' locs') (g := fun _ => F0 m 212 ls []) (fun Ul H27 locs27 hj27 => ?_) (fun J27 => ?_)
                  · obtain ⟨hs_Ul, hP, hD, hS⟩ := hj27
                    have Ul_cyc : cm_cyc Ul = cm_cyc Ur := by rw [hs_Ul]; exact mg_cyc_low _ _
                    have Ul_pts : cm_pts Ul = cm_pts Ur := by rw [hs_Ul]; exact mg_pts_low _ _
                    have Ul_many : cm_many Ul = cm_many Ur := by rw [hs_Ul]; exact mg_many_low _ _
                    refine W.joinH (P := fun (v9 : MS) (H' : Heap) (locs' : List Loc) => v9 = cm_set_cyc Ul (cm_cyc Ul + 1) ∧ va_P D vwCl (wM cm b n v9) H' ∧ va_D A (wM cm b n v9) ∧ va_S A s.heap H' locs') (g := fun _ => F0 m 222 ls []) (fun Uc H31 locs31 hj31 => ?_) (fun J31 => ?_)
                    · obtain ⟨hs_Uc, hP, hD, hS⟩ := hj31
                      have Uc_cyc : cm_cyc Uc = cm_cyc Ul + 1 := by rw [hs_Uc]; exact mg_cyc_cyc _ _
                      have Uc_pts : cm_pts Uc = cm_pts Ul := by rw [hs_Uc]; exact mg_pts_cyc _ _
                      have Uc_many : cm_many Uc = cm_many Ul := by rw [hs_Uc]; exact mg_many_cyc _ _
                      refine W.joinH (P := fun (v9 : MS) (H' : Heap) (locs' : List Loc) => v9 = cm_set_pts Uc (va_up (cm_pts Uc) (cm_many Uc - 3) (cm_pts U (cm_many U - 1))) ∧ va_P D vwCl (wM cm b n v9) H' ∧ va_D A (wM cm b n v9) ∧ va_S A s.heap H' locs') (g := fun _ => F0 m 235 ls []) (fun Up H33 locs33 hj33 => ?_) (fun J33 => ?_)
                      · obtain ⟨hs_Up, hP, hD, hS⟩ := hj33
                        have Up_cyc : cm_cyc Up = cm_cyc Uc := by rw [hs_Up]; exact mg_cyc_pts _ _
                        have Up_many : cm_many Up = cm_many Uc := by rw [hs_Up]; exact mg_many_pts _ _
                        have hUp : cm_set_many Up (cm_many Up - 2) = mTco1 U := by simp only [mTco1, mTcoA, hs_Up, hs_Uc, hs_Ul, hs_Ur, mg_many_rng, mg_many_low, mg_many_cyc, mg_many_pts, mg_pts_rng, mg_pts_low, mg_pts_cyc, mg_pts_pts, mg_cyc_rng, mg_cyc_low, mg_cyc_cyc, mg_cyc_pts, mg_low_rng, mg_low_low, mg_low_cyc, mg_low_pts]
                        refine lv_aload_n hx hb dX3_point_235 rfl (lv_at hl 5 rfl) ?_
                        refine lv_aload_n hx hb dX3_point_236 rfl (lv_at hl 5 rfl) ?_
                        refine va_get (D := D) (ci := 4) (v := .int (nI (cm_many Up))) (C := RX3) (T := TX3) (N := 20) hx hb hts iX3_point_X3 hown hK hP 0 rfl rfl 16 (by decide) (hts (.fieldLink RX3 82 "CellRows2Model" "many" "I") (by decide +kernel)) (fun _ h9 => h9) rfl dX3_point_237 ?_
                        refine lv_iconst (v := 2) hx hb dX3_point_240 (by decide) ?_
                        refine lv_isub hx hb dX3_point_241 ?_
                        refine W.eqi (pk_sub (a := (cm_many Up)) (b := 2) (by omega)) ?_
                        refine va_put (D := D) (ci := 4) (v := .int (nI ((cm_many Up) - 2))) (ty := .int) (C := RX3) (T := TX3) (N := 20) hx hb hts iX3_point_X3 tyX3 tyX3_ok nmX3 hown hK hP hD hS 0 rfl rfl 16 (by decide) (hts (.fieldLink RX3 82 "CellRows2Model" "many" "I") (by decide +kernel)) (fun _ h9 => h9) rfl (by decide +kernel) rfl rfl (Nat.le_of_ble_eq_true rfl) dX3_point_242 (fun H35 locs35 hP hD hS => ?_)
                        have hP : va_P D vwCl (wM cm b n (cm_set_many Up ((cm_many Up) - 2))) H35 := hP
                        have hD : va_D A (wM cm b n (cm_set_many Up ((cm_many Up) - 2))) := hD
                        refine lv_goto (tgt := 55) hx hb dX3_point_245 (by decide) ?_
                        exact ih ((cm_set_many Up ((cm_many Up) - 2)), ls) _ _ ⟨(by rw [← hT]; show mTco k9 (cm_set_many Up (cm_many Up - 2)) = _; rw [hUp]; simp only [mTco, if_neg h_11, if_pos h_12, if_neg h_15, if_neg h_20, if_neg h_23]), (by show cm_many Up - 2 ≤ 2 * k9 + 3; omega), (by show cm_many Up - 2 ≤ 500; omega), (by show cm_many Up - 2 + 2 * cm_cyc Up ≤ 514; omega), hP, hD, hS, lv_sub hl [5, 0] rfl⟩
                      · refine lv_aload_n hx hb dX3_point_222 rfl (lv_at hl 5 rfl) ?_
                        refine va_get (D := D) (ci := 4) (v := .ref (b 10)) (C := RX3) (T := TX3) (N := 20) hx hb hts iX3_point_X3 hown hK hP 0 rfl rfl 15 (by decide) (hts (.fieldLink RX3 52 "CellRows2Model" "points" "[J") (by decide +kernel)) (fun _ h9 => h9) rfl dX3_point_223 ?_
                        refine lv_aload_n hx hb dX3_point_226 rfl (lv_at hl 5 rfl) ?_
                        refine va_get (D := D) (ci := 4) (v := .int (nI (cm_many Uc))) (C := RX3) (T := TX3) (N := 20) hx hb hts iX3_point_X3 hown hK hP 0 rfl rfl 16 (by decide) (hts (.fieldLink RX3 82 "CellRows2Model" "many" "I") (by decide +kernel)) (fun _ h9 => h9) rfl dX3_point_227 ?_
                        refine lv_iconst (v := 3) hx hb dX3_point_230 (by decide) ?_
                        refine lv_isub hx hb dX3_point_231 ?_
                        refine W.eqi (pk_sub (a := (cm_many Uc)) (b := 3) (by omega)) ?_
                        refine lv_lload hx hb dX3_point_232 (lv_at hl 1 rfl) ?_
                        refine rs_l (f := (cm_pts Uc)) hx hb hK hP hD hS 10 9 rfl rfl ((cm_many Uc) - 3) rfl (by omega) (Nat.le_of_ble_eq_true rfl) dX3_point_234 (fun H34 locs34 hP hD hS => ?_)
                        have hP : va_P D vwCl (wM cm b n (cm_set_pts Uc (va_up (cm_pts Uc) ((cm_many Uc) - 3) ((cm_pts U) ((cm_many U) - 1))))) H34 := hP
                        have hD : va_D A (wM cm b n (cm_set_pts Uc (va_up (cm_pts Uc) ((cm_many Uc) - 3) ((cm_pts U) ((cm_many U) - 1))))) := hD
                        exact J33 (cm_set_pts Uc (va_up (cm_pts Uc) ((cm_many Uc) - 3) ((cm_pts U) ((cm_many U) - 1)))) _ _ ⟨by first | rfl | (simp only [if_neg h_11, if_pos h_12, if_neg h_15, if_neg h_20, if_neg h_23]), hP, hD, hS⟩
                    · refine lv_aload_n hx hb dX3_point_212 rfl (lv_at hl 5 rfl) ?_
                      refine lv_dup hx hb dX3_point_213 rfl ?_
                      refine va_get (D := D) (ci := 4) (v := .int (nI (cm_cyc Ul))) (C := RX3) (T := TX3) (N := 20) hx hb hts iX3_point_X3 hown hK hP 0 rfl rfl 19 (by decide) (hts (.fieldLink RX3 93 "CellRows2Model" "cycles" "I") (by decide +kernel)) (fun _ h9 => h9) rfl dX3_point_214 ?_
                      refine lv_iconst (v := 1) hx hb dX3_point_217 (by decide) ?_
                      refine lv_iadd hx hb dX3_point_218 ?_
                      refine W.eqi (nI_1 (cm_cyc Ul)) ?_
                      refine va_put (D := D) (ci := 4) (v := .int (nI ((cm_cyc Ul) + 1))) (ty := .int) (C := RX3) (T := TX3) (N := 20) hx hb hts iX3_point_X3 tyX3 tyX3_ok nmX3 hown hK hP hD hS 0 rfl rfl 19 (by decide) (hts (.fieldLink RX3 93 "CellRows2Model" "cycles" "I") (by decide +kernel)) (fun _ h9 => h9) rfl (by decide +kernel) rfl rfl (Nat.le_of_ble_eq_true rfl) dX3_point_219 (fun H32 locs32 hP hD hS => ?_)
                      have hP : va_P D vwCl (wM cm b n (cm_set_cyc Ul ((cm_cyc Ul) + 1))) H32 := hP
                      have hD : va_D A (wM cm b n (cm_set_cyc Ul ((cm_cyc Ul) + 1))) := hD
                      exact J31 (cm_set_cyc Ul ((cm_cyc Ul) + 1)) _ _ ⟨by first | rfl | (simp only [if_neg h_11, if_pos h_12, if_neg h_15, if_neg h_20, if_neg h_23]), hP, hD, hS⟩
                  · refine lv_aload_n hx hb dX3_point_187 rfl (lv_at hl 5 rfl) ?_
                    refine va_get (D := D) (ci := 4) (v := .ref (b 12)) (C := RX3) (T := TX3) (N := 20) hx hb hts iX3_point_X3 hown hK hP 0 rfl rfl 18 (by decide) (hts (.fieldLink RX3 58 "CellRows2Model" "lows" "[I") (by decide +kernel)) (fun _ h9 => h9) rfl dX3_point_188 ?_
                    refine lv_aload_n hx hb dX3_point_191 rfl (lv_at hl 5 rfl) ?_
                    refine va_get (D := D) (ci := 4) (v := .int (nI (cm_cyc Ur))) (C := RX3) (T := TX3) (N := 20) hx hb hts iX3_point_X3 hown hK hP 0 rfl rfl 19 (by decide) (hts (.fieldLink RX3 93 "CellRows2Model" "cycles" "I") (by decide +kernel)) (fun _ h9 => h9) rfl dX3_point_192 ?_
                    refine lv_lload hx hb dX3_point_195 (lv_at hl 3 rfl) ?_
                    refine lv_lload hx hb dX3_point_197 (lv_at hl 2 rfl) ?_
                    refine W.join (P := fun v9 : Int64 => v9 = if (cm_pts U) ((cm_many U) - 3) < ((cm_pts U) ((cm_many U) - 2)) then (cm_pts U) ((cm_many U) - 3) else (cm_pts U) ((cm_many U) - 2)) (g := fun v9 => F0 m 210 ls [.long v9, .int (nI (cm_cyc Ur)), .ref (b 12)]) (fun v28 hv28 => ?_) (fun J28 => ?_)
                    · subst hv28
                      refine lv_l2i hx hb dX3_point_210 rfl ?_
                      refine rs_i (f := (cm_low Ur)) hx hb hK hP hD hS 12 11 rfl rfl (cm_cyc Ur) rfl (by omega) (Nat.le_of_ble_eq_true rfl) dX3_point_211 (fun H30 locs30 hP hD hS => ?_)
                      have hP : va_P D vwCl (wM cm b n (cm_set_low Ur (va_up (cm_low Ur) (cm_cyc Ur) (((if (cm_pts U) ((cm_many U) - 3) < ((cm_pts U) ((cm_many U) - 2)) then (cm_pts U) ((cm_many U) - 3) else (cm_pts U) ((cm_many U) - 2))).toInt32)))) H30 := hP
                      have hD : va_D A (wM cm b n (cm_set_low Ur (va_up (cm_low Ur) (cm_cyc Ur) (((if (cm_pts U) ((cm_many U) - 3) < ((cm_pts U) ((cm_many U) - 2)) then (cm_pts U) ((cm_many U) - 3) else (cm_pts U) ((cm_many U) - 2))).toInt32)))) := hD
                      exact J27 (cm_set_low Ur (va_up (cm_low Ur) (cm_cyc Ur) (((if (cm_pts U) ((cm_many U) - 3) < ((cm_pts U) ((cm_many U) - 2)) then (cm_pts U) ((cm_many U) - 3) else (cm_pts U) ((cm_many U) - 2))).toInt32))) _ _ ⟨by first | rfl | (simp only [if_neg h_11, if_pos h_12, if_neg h_15, if_neg h_20, if_neg h_23]), hP, hD, hS⟩
                    · refine il_ge (tgt := 208) hx hb dX3_point_199 dX3_point_200 (by decide) (fun h_29 => ?_) (fun h_29 => ?_)
                      · refine lv_lload hx hb dX3_point_208 (lv_at hl 2 rfl) ?_
                        exact J28 _ (by simp only [if_neg h_29])
                      · refine lv_lload hx hb dX3_point_203 (lv_at hl 3 rfl) ?_
                        refine lv_goto (tgt := 210) hx hb dX3_point_205 (by decide) ?_
                        exact J28 _ (by simp only [if_pos h_29])
                · refine lv_aload_n hx hb dX3_point_169 rfl (lv_at hl 5 rfl) ?_
                  refine va_get (D := D) (ci := 4) (v := .ref (b 11)) (C := RX3) (T := TX3) (N := 20) hx hb hts iX3_point_X3 hown hK hP 0 rfl rfl 17 (by decide) (hts (.fieldLink RX3 55 "CellRows2Model" "ranges" "[I") (by decide +kernel)) (fun _ h9 => h9) rfl dX3_point_170 ?_
                  refine lv_aload_n hx hb dX3_point_173 rfl (lv_at hl 5 rfl) ?_
                  refine va_get (D := D) (ci := 4) (v := .int (nI (cm_cyc U))) (C := RX3) (T := TX3) (N := 20) hx hb hts iX3_point_X3 hown hK hP 0 rfl rfl 19 (by decide) (hts (.fieldLink RX3 93 "CellRows2Model" "cycles" "I") (by decide +kernel)) (fun _ h9 => h9) rfl dX3_point_174 ?_
                  refine lv_lload hx hb dX3_point_177 (lv_at hl 3 rfl) ?_
                  refine lv_lload hx hb dX3_point_179 (lv_at hl 2 rfl) ?_
                  refine lv_lsub hx hb dX3_point_181 ?_
                  refine vp_callSl (W.runS (As := [.long (((cm_pts U) ((cm_many U) - 3)) - ((cm_pts U) ((cm_many U) - 2)))]) (rest := [.int (nI (cm_cyc U)), .ref (b 11)]) ⟨hx, hb, hml, hown, hts⟩ (kX3_size l (((cm_pts U) ((cm_many U) - 3)) - ((cm_pts U) ((cm_many U) - 2)))) (va_cwS 1 hts gX3_point_X3_size rfl rfl rfl (by decide +kernel) ⟨Nat.le_of_ble_eq_true rfl, Nat.le_of_ble_eq_true rfl⟩) ⟨fun _ _ _ _ q => q, fun U hU hW => ⟨rfl, trivial⟩⟩ rfl rfl hl.1 rfl (lv_room (Nat.le_of_ble_eq_true rfl)) dX3_point_182 ⟨Nat.le_of_ble_eq_true rfl, Nat.le_of_ble_eq_true rfl⟩) (fun r25 hr25 => ?_)
                  obtain rfl : r25 = mSz (((cm_pts U) ((cm_many U) - 3)) - ((cm_pts U) ((cm_many U) - 2))) := hr25
                  refine lv_l2i hx hb dX3_point_185 rfl ?_
                  refine rs_i (f := (cm_rng U)) hx hb hK hP hD hS 11 10 rfl rfl (cm_cyc U) rfl (by omega) (Nat.le_of_ble_eq_true rfl) dX3_point_186 (fun H26 locs26 hP hD hS => ?_)
                  have hP : va_P D vwCl (wM cm b n (cm_set_rng U (va_up (cm_rng U) (cm_cyc U) (((mSz (((cm_pts U) ((cm_many U) - 3)) - ((cm_pts U) ((cm_many U) - 2))))).toInt32)))) H26 := hP
                  have hD : va_D A (wM cm b n (cm_set_rng U (va_up (cm_rng U) (cm_cyc U) (((mSz (((cm_pts U) ((cm_many U) - 3)) - ((cm_pts U) ((cm_many U) - 2))))).toInt32)))) := hD
                  exact J24 (cm_set_rng U (va_up (cm_rng U) (cm_cyc U) (((mSz (((cm_pts U) ((cm_many U) - 3)) - ((cm_pts U) ((cm_many U) - 2))))).toInt32))) _ _ ⟨by first | rfl | (simp only [if_neg h_11, if_pos h_12, if_neg h_15, if_neg h_20, if_neg h_23]), hP, hD, hS⟩
  · refine iz_eq (tgt := 23) hx hb dX3_point_5 (by decide) (fun h_3 => ?_) (fun h_3 => ?_)
    · refine lv_aload_n hx hb dX3_point_23 rfl (lv_at hl 0 rfl) ?_
      refine va_get (D := D) (ci := 4) (v := .int (nI (cm_many M))) (C := RX3) (T := TX3) (N := 20) hx hb hts iX3_point_X3 hown hK hP 0 rfl rfl 16 (by decide) (hts (.fieldLink RX3 82 "CellRows2Model" "many" "I") (by decide +kernel)) (fun _ h9 => h9) rfl dX3_point_24 ?_
      refine lv_sipush (v := 500) hx hb dX3_point_27 (by decide) ?_
      refine ib_ge (tgt := 53) hx hb dX3_point_30 (by decide) (fun h_4 => ?_) (fun h_4 => ?_)
      · exact J2 M _ _ ⟨by first | rfl | (simp only [mPut, if_pos h_3, if_neg h_4]), hP, hD, hS⟩
      · have g5 : cm_many M < 500 := nI_islt (b := 500) (by omega) (by omega) h_4
        refine lv_aload_n hx hb dX3_point_33 rfl (lv_at hl 0 rfl) ?_
        refine va_get (D := D) (ci := 4) (v := .ref (b 10)) (C := RX3) (T := TX3) (N := 20) hx hb hts iX3_point_X3 hown hK hP 0 rfl rfl 15 (by decide) (hts (.fieldLink RX3 52 "CellRows2Model" "points" "[J") (by decide +kernel)) (fun _ h9 => h9) rfl dX3_point_34 ?_
        refine lv_aload_n hx hb dX3_point_37 rfl (lv_at hl 0 rfl) ?_
        refine va_get (D := D) (ci := 4) (v := .int (nI (cm_many M))) (C := RX3) (T := TX3) (N := 20) hx hb hts iX3_point_X3 hown hK hP 0 rfl rfl 16 (by decide) (hts (.fieldLink RX3 82 "CellRows2Model" "many" "I") (by decide +kernel)) (fun _ h9 => h9) rfl dX3_point_38 ?_
        refine lv_lload_n hx hb dX3_point_41 rfl (lv_at hl 1 rfl) ?_
        refine rs_l (f := (cm_pts M)) hx hb hK hP hD hS 10 9 rfl rfl (cm_many M) rfl (by omega) (Nat.le_of_ble_eq_true rfl) dX3_point_42 (fun H5 locs5 hP hD hS => ?_)
        have hP : va_P D vwCl (wM cm b n (cm_set_pts M (va_up (cm_pts M) (cm_many M) v))) H5 := hP
        have hD : va_D A (wM cm b n (cm_set_pts M (va_up (cm_pts M) (cm_many M) v))) := hD
        refine lv_aload_n hx hb dX3_point_43 rfl (lv_at hl 0 rfl) ?_
        refine lv_dup hx hb dX3_point_44 rfl ?_
        refine va_get (D := D) (ci := 4) (v := .int (nI (cm_many M))) (C := RX3) (T := TX3) (N := 20) hx hb hts iX3_point_X3 hown hK hP 0 rfl rfl 16 (by decide) (hts (.fieldLink RX3 82 "CellRows2Model" "many" "I") (by decide +kernel)) (fun _ h9 => h9) rfl dX3_point_45 ?_
        refine lv_iconst (v := 1) hx hb dX3_point_48 (by decide) ?_
        refine lv_iadd hx hb dX3_point_49 ?_
        refine W.eqi (nI_1 (cm_many M)) ?_
        refine va_put (D := D) (ci := 4) (v := .int (nI ((cm_many M) + 1))) (ty := .int) (C := RX3) (T := TX3) (N := 20) hx hb hts iX3_point_X3 tyX3 tyX3_ok nmX3 hown hK hP hD hS 0 rfl rfl 16 (by decide) (hts (.fieldLink RX3 82 "CellRows2Model" "many" "I") (by decide +kernel)) (fun _ h9 => h9) rfl (by decide +kernel) rfl rfl (Nat.le_of_ble_eq_true rfl) dX3_point_50 (fun H6 locs6 hP hD hS => ?_)
        have hP : va_P D vwCl (wM cm b n (cm_set_many (cm_set_pts M (va_up (cm_pts M) (cm_many M) v)) ((cm_many M) + 1))) H6 := hP
        have hD : va_D A (wM cm b n (cm_set_many (cm_set_pts M (va_up (cm_pts M) (cm_many M) v)) ((cm_many M) + 1))) := hD
        exact J2 (cm_set_many (cm_set_pts M (va_up (cm_pts M) (cm_many M) v)) ((cm_many M) + 1)) _ _ ⟨by first | rfl | (simp only [mPut, if_pos h_3, if_pos h_4]), hP, hD, hS⟩
    · have g1 : 1 ≤ cm_many M := mGo_pos h_3
      refine lv_aload_n hx hb dX3_point_8 rfl (lv_at hl 0 rfl) ?_
      refine va_get (D := D) (ci := 4) (v := .ref (b 10)) (C := RX3) (T := TX3) (N := 20) hx hb hts iX3_point_X3 hown hK hP 0 rfl rfl 15 (by decide) (hts (.fieldLink RX3 52 "CellRows2Model" "points" "[J") (by decide +kernel)) (fun _ h9 => h9) rfl dX3_point_9 ?_
      refine lv_aload_n hx hb dX3_point_12 rfl (lv_at hl 0 rfl) ?_
      refine va_get (D := D) (ci := 4) (v := .int (nI (cm_many M))) (C := RX3) (T := TX3) (N := 20) hx hb hts iX3_point_X3 hown hK hP 0 rfl rfl 16 (by decide) (hts (.fieldLink RX3 82 "CellRows2Model" "many" "I") (by decide +kernel)) (fun _ h9 => h9) rfl dX3_point_13 ?_
      refine lv_iconst (v := 1) hx hb dX3_point_16 (by decide) ?_
      refine lv_isub hx hb dX3_point_17 ?_
      refine W.eqi (pk_sub (a := (cm_many M)) (b := 1) (by omega)) ?_
      refine lv_lload_n hx hb dX3_point_18 rfl (lv_at hl 1 rfl) ?_
      refine rs_l (f := (cm_pts M)) hx hb hK hP hD hS 10 9 rfl rfl ((cm_many M) - 1) rfl (by omega) (Nat.le_of_ble_eq_true rfl) dX3_point_19 (fun H7 locs7 hP hD hS => ?_)
      have hP : va_P D vwCl (wM cm b n (cm_set_pts M (va_up (cm_pts M) ((cm_many M) - 1) v))) H7 := hP
      have hD : va_D A (wM cm b n (cm_set_pts M (va_up (cm_pts M) ((cm_many M) - 1) v))) := hD
      refine lv_goto (tgt := 53) hx hb dX3_point_20 (by decide) ?_
      exact J2 (cm_set_pts M (va_up (cm_pts M) ((cm_many M) - 1) v)) _ _ ⟨by first | rfl | (simp only [mPut, if_neg h_3]), hP, hD, hS⟩
