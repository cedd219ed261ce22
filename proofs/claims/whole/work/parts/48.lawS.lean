set_option maxHeartbeats 1000000 in
set_option maxRecDepth 100000 in
/-- THE LAW, from its entry -/
theorem whole_start {p : Program} {e : Env} {s : State} {m : MethodId} {below : List Frame} {meth : Method} {c : Code} (l : Launch) (hflags : l.flags = flags0) {b L : Nat} {xs : Nat → Int32} (hL : L ≤ 4097) (C0 : lw_At p s m meth c b L xs) : W p l e room_1 s m #[Value.ref b] below meth c s.heap [] 0 0 (lw_Z below #[Value.ref b] s) (entryFrame m ([Value.ref b] : List Value).toArray 9) := by
  obtain ⟨hx, hb0, hr, hml, hown0, hts0, hX, hbl, hlocks, hgv⟩ := C0
  have hown : s.vm.findClass RL = some m.cls := hown0
  have hb : c.code = cL_law := hb0
  have hts : ∀ w ∈ wsL_law, w.before #[Value.ref b] s = true := fun w h => hts0 w (wsL_law_in w h)
  have hA : ∀ q : Nat, s.heap.size ≤ q → (fun q : Nat => s.heap.size ≤ q) q := fun _ h => h
  have hAn : ∀ q : Nat, q < s.heap.size → ¬ (fun q : Nat => s.heap.size ≤ q) q := fun q h => Nat.not_le.mpr h
  have hst : l.stackTraces = false := by unfold Launch.stackTraces; rw [hflags]; decide +kernel
  obtain ⟨D, fa, cF, sa1, sa2, hKc, hN, hXA, hXD, hR1, hR2, hXU, hXZ, hZ, hfa, hat, hof, hnm, hcs, hAO⟩ := lwF_of hts0 hgv
  have hKe : va_K D vwCl [] s := ⟨hKc, fun k q h => by simp at h⟩
  have hS : va_S (fun q : Nat => s.heap.size ≤ q) s.heap s.heap [] := va_S.rf
  have hP : va_P D vwCl [] s.heap := fun k q h => by simp at h
  have hD : va_D (fun q : Nat => s.heap.size ≤ q) [] := ⟨fun i j p q h => by simp at h, fun k q h => by simp at h⟩
  have hl := lv_entry ([.ref b]) (n := 9) (Nat.le_of_ble_eq_true rfl)
  rw [lg_entry_eq]
  generalize (lg_sl ([.ref b]) ++ List.replicate (9 - (lg_sl ([.ref b])).length) Slot.unset).toArray = ls at hl ⊢
  have hl : lv_has ls 9 [(0, .ref b)] := hl
  refine va_new (ci := 3) (fs := [.null, .null, .null, .null, .null, .int 0, .int 0, .int 0]) (C := RX2) (T := TX2) (N := 8) hx hb hts inlX2 tyX2 tyX2_ok hown (hts (.classLink RL 8 RX2) (by decide +kernel)) (hts (.instantiable RX2 8) (by decide +kernel)) (hts (.initialized RX2) (by decide +kernel)) hKe hP hD hS hA rfl (fun j hj => by rcases (show j = 0 ∨ j = 1 ∨ j = 2 ∨ j = 3 ∨ j = 4 ∨ j = 5 ∨ j = 6 ∨ j = 7 by omega) with rfl | rfl | rfl | rfl | rfl | rfl | rfl | rfl <;> rfl) (Nat.le_of_ble_eq_true rfl) (Nat.le_of_ble_eq_true rfl) dL_law_0 (fun q1 H1 hP hD hS => ?_)
  have hP : va_P D vwCl [(q1, .inr (3, [.null, .null, .null, .null, .null, .int 0, .int 0, .int 0]))] H1 := hP
  have hD : va_D (fun q : Nat => s.heap.size ≤ q) [(q1, .inr (3, [.null, .null, .null, .null, .null, .int 0, .int 0, .int 0]))] := hD
  refine lv_dup hx hb dL_law_3 rfl ?_
  refine lv_aload_n hx hb dL_law_4 rfl (lv_at hl 0 rfl) ?_
  refine lv_iconst (v := 0) hx hb dL_law_5 (by decide) ?_
  refine vp_callSi (W.runS (As := [.ref b, .int 0]) (rest := [.ref q1, .ref q1]) ⟨hx, hb, hml, hown, hts⟩ (kL_cell l b L xs hL) (va_cwS 2 hts gL_law_L_cell rfl rfl rfl (by decide +kernel) ⟨Nat.le_of_ble_eq_true rfl, Nat.le_of_ble_eq_true rfl⟩) ⟨cell_blind, fun U hU hW => ⟨rfl, by rw [hU]; exact (hX.kept (hS.2.1 b hbl (hAn b hbl))).moved hW.alike, by rw [hU]; exact Nat.lt_of_lt_of_le hbl hS.1⟩⟩ rfl rfl hl.1 rfl (lv_room (Nat.le_of_ble_eq_true rfl)) dL_law_6 ⟨Nat.le_of_ble_eq_true rfl, Nat.le_of_ble_eq_true rfl⟩) (fun r1 hr1 => ?_)
  obtain ⟨n, hn1, hn, hcl⟩ := clampI_n r1
  have hF1 := freeAll hD hS hA
  refine va_callv (va_runI (As := [.int r1]) (rest := [.ref q1]) ⟨hx, hb, hml, hown, hts⟩ (kX2_init l D q1 H1.size n r1 hcl hn fa cF lim0) (cwI 1 hts gL_law_X2_init rfl rfl rfl (hts (.initialized RX2) (by decide +kernel)) (hts (.methodLink RL 27 yX2_init) (by decide +kernel)) (hts (.instanceMethod yX2_init) (by decide +kernel)) rfl (by decide +kernel) ⟨Nat.le_of_ble_eq_true rfl, Nat.le_of_ble_eq_true rfl⟩) ⟨pF_blind, fun U hU hW => ⟨rfl, ⟨by rw [hU], by rw [hU]; exact hP, va_K.moved hW.alike hKe, hD.weaken (fun _ _ _ _ => trivial)⟩, nwX_warm hW hN, by rw [hU]; exact ((hZ.kept hS.2.1).narrow hF1).moved hW.alike, by rw [hU]; exact hat.kept (hS.2.1 fa hfa (hAn fa hfa)), fun h => hAn fa hfa (hF1 fa h), ⟨arrOfT_moved hW.alike hof.1, hof.2.moved hW.alike⟩, by rw [hW.alike.findClass]; exact hnm, va_Nw.warmC hW hcs, hAO.moved hW.alike⟩⟩ rfl rfl hl.1 rfl (lv_room (Nat.le_of_ble_eq_true rfl)) dL_law_9 ⟨Nat.le_of_ble_eq_true rfl, Nat.le_of_ble_eq_true rfl⟩) hS (fun q _ h => hF1 q h) hF1 (fun u t1 H2 locs2 ht hvm hw hB hz1 hk1 hS => ?_)
  obtain ⟨a, cy⟩ := u
  obtain ⟨ha0, hP1, hK1, hD1⟩ := hB
  rw [ht] at hP1
  have hKX : va_K D vwCl (tX cy) s := va_K.moved hvm.symm hK1
  have ha0 : a 0 = q1 := ha0
  obtain ⟨S0, hS0⟩ : ∃ S0 : CS, S0 = sFol (S00 lim0) 50000 := ⟨_, rfl⟩
  have hPS : va_P D vwCl (wX cy a n S0) H2 := by rw [hS0]; exact hP1
  have hDS : va_D (fun q : Nat => s.heap.size ≤ q) (wX cy a n S0) := by rw [hS0]; exact hD1.weaken (fun k q _ h => hF1 q.1 h)
  subst ha0
  refine lv_astore_n (lv' := [(1, .ref (a 0)), (0, .ref b)]) hx hb dL_law_12 rfl hl (by decide) rfl (fun ls hl => ?_)
  refine va_new (ci := 4) (fs := [.int 0, .int 0, .null, .null, .null, .null, .null, .null, .null, .int 0, .int 0, .int 0, .null, .null, .int 0, .null, .int 0, .null, .null, .int 0]) (C := RX3) (T := TX3) (N := 20) hx hb hts inlX3 tyX3 tyX3_ok hown (hts (.classLink RL 30 RX3) (by decide +kernel)) (hts (.instantiable RX3 20) (by decide +kernel)) (hts (.initialized RX3) (by decide +kernel)) hKe hPS hDS hS hA rfl (fun j hj => by rcases (show j = 0 ∨ j = 1 ∨ j = 2 ∨ j = 3 ∨ j = 4 ∨ j = 5 ∨ j = 6 ∨ j = 7 ∨ j = 8 ∨ j = 9 ∨ j = 10 ∨ j = 11 ∨ j = 12 ∨ j = 13 ∨ j = 14 ∨ j = 15 ∨ j = 16 ∨ j = 17 ∨ j = 18 ∨ j = 19 by omega) with rfl | rfl | rfl | rfl | rfl | rfl | rfl | rfl | rfl | rfl | rfl | rfl | rfl | rfl | rfl | rfl | rfl | rfl | rfl | rfl <;> rfl) (Nat.le_of_ble_eq_true rfl) (Nat.le_of_ble_eq_true rfl) dL_law_13 (fun q2 H3 hP hD hS => ?_)
  refine lv_dup hx hb dL_law_16 rfl ?_
  refine lv_aload_n hx hb dL_law_17 rfl (lv_at hl 1 rfl) ?_
  refine lv_iconst (v := 0) hx hb dL_law_18 (by decide) ?_
  refine vp_callSi (W.runS (As := [.ref b, .int 0]) (rest := [.ref q2, .ref q2]) ⟨hx, hb, hml, hown, hts⟩ (kL_cell l b L xs hL) (va_cwS 2 hts gL_law_L_cell rfl rfl rfl (by decide +kernel) ⟨Nat.le_of_ble_eq_true rfl, Nat.le_of_ble_eq_true rfl⟩) ⟨cell_blind, fun U hU hW => ⟨rfl, by rw [hU]; exact (hX.kept (hS.2.1 b hbl (hAn b hbl))).moved hW.alike, by rw [hU]; exact Nat.lt_of_lt_of_le hbl hS.1⟩⟩ rfl rfl hl.1 rfl (lv_room (Nat.le_of_ble_eq_true rfl)) dL_law_19 ⟨Nat.le_of_ble_eq_true rfl, Nat.le_of_ble_eq_true rfl⟩) (fun r2 hr2 => ?_)
  obtain rfl : r1 = r2 := hr1.trans hr2.symm
  have hF2 := va_free1 hD hS hA
  have hPq := hP.tail1
  refine va_callv (va_runI (As := [.int r1]) (rest := [.ref q2]) ⟨hx, hb, hml, hown, hts⟩ (kX3_init l D q2 H3.size n r1 hcl) (cwI 1 hts gL_law_X3_init rfl rfl rfl (hts (.initialized RX3) (by decide +kernel)) (hts (.methodLink RL 32 yX3_init) (by decide +kernel)) (hts (.instanceMethod yX3_init) (by decide +kernel)) rfl (by decide +kernel) ⟨Nat.le_of_ble_eq_true rfl, Nat.le_of_ble_eq_true rfl⟩) ⟨pW_blind, fun U hU hW => ⟨rfl, by rw [hU], by rw [hU]; exact hPq, va_K.moved hW.alike hKe, va_D.one trivial⟩⟩ rfl rfl hl.1 rfl (lv_room (Nat.le_of_ble_eq_true rfl)) dL_law_22 ⟨Nat.le_of_ble_eq_true rfl, Nat.le_of_ble_eq_true rfl⟩) hS (fun q _ h => hF2 q h) hF2 (fun u t2 H4 locs4 ht hvm hw hB hz1 hk2 hS => ?_)
  obtain ⟨bb, cm⟩ := u
  obtain ⟨hb0, hP2, hK2, hD2⟩ := hB
  rw [ht] at hP2
  have hKM : va_K D vwCl (tM cm) s := va_K.moved hvm.symm hK2
  obtain ⟨hP, hD⟩ := va_last1 hP hD hk2 hP2 hD2 hF2
  have hb0 : bb 0 = q2 := hb0
  have hPm : va_P D vwCl (wX cy a n S0 ++ wM cm bb n (M0 24)) H4 := hP
  have hDm : va_D (fun q : Nat => s.heap.size ≤ q) (wX cy a n S0 ++ wM cm bb n (M0 24)) := hD
  subst hb0
  refine lv_astore_n (lv' := [(2, .ref (bb 0)), (1, .ref (a 0)), (0, .ref b)]) hx hb dL_law_25 rfl hl (by decide) rfl (fun ls hl => ?_)
  refine lv_iconst (v := 1) hx hb dL_law_26 (by decide) ?_
  refine va_newa (atype := .long) hx hb (hts (.arrayClass .long) (by decide +kernel)) (ty := .long) rfl hKe hPm hDm hS hA (N' := 1) (a0 := (1, .inr (.inl (fun _ => 0)))) (fun _ => rfl) (by decide) (by decide) (by decide) (Nat.le_of_ble_eq_true rfl) (Nat.le_of_ble_eq_true rfl) dL_law_27 (fun o co H5 hKo hP hD hS => ?_)
  refine lv_astore_n (lv' := [(3, .ref o), (2, .ref (bb 0)), (1, .ref (a 0)), (0, .ref b)]) hx hb dL_law_29 rfl hl (by decide) rfl (fun ls hl => ?_)
  refine lv_iconst (v := nI 1) hx hb dL_law_30 (by decide) ?_
  refine lv_istore (lv' := [(4, .int (nI 1)), (3, .ref o), (2, .ref (bb 0)), (1, .ref (a 0)), (0, .ref b)]) hx hb dL_law_31 hl (by decide) rfl (fun ls hl => ?_)
  have hw := LW_mk (f := fun _ => 0) hP hD
  have hKO : va_K D vwCl (tO co (tX cy)) s := ⟨hKX.1, fun k q hk => by
    cases k with
    | zero => cases hk; exact hKo.2 0 _ rfl
    | succ k => exact hKX.2 k q hk⟩
  refine W.widen (k := 100) (n := 8000) (Nat.le_of_ble_eq_true rfl) (Nat.le_of_ble_eq_true rfl) ?_
  exact law_loop l hr hlocks (sa1 := sa1) (sa2 := sa2) ⟨hx, hb, hml, hown, hts, hX, hbl, hKO, hKM, hN, hXA, hXD, hR1, hR2, hXU, hXZ, hst, hL⟩ hn1 hn 512 0 rfl S0 (M0 24) (fun _ => 0) H5 _ ls 100 8000 (by omega) (by omega) (by rw [hS0]; exact Rel_start hn (fun _ _ => rfl)) hw hS hl
