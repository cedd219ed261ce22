/-! constructors -/
abbrev pW (D : va_G) (ws : va_W) (tys : List (ClassId × FieldType)) (sz : Nat) (U : State) : Prop := U.heap.size = sz ∧ va_P D vwCl ws U.heap ∧ va_K D vwCl tys U ∧ va_D (fun _ => True) ws
abbrev eW (D : va_G) (ws : va_W) (tys : List (ClassId × FieldType)) (A : Nat → Prop) (t : State) : Prop := va_P D vwCl ws t.heap ∧ va_K D vwCl tys t ∧ va_D A ws
theorem pW_blind {av : List Value} {D : va_G} {ws : va_W} {tys : List (ClassId × FieldType)} {sz : Nat} : FrameBlind (va_Pc av (pW D ws tys sz)) := fun v U g mk q => ⟨q.1, q.2.1, q.2.2.1, va_K.moved (u := U) (U := U.calling g mk v) (Vm.Alike.refl U.vm) q.2.2.2.1, q.2.2.2.2⟩

set_option maxRecDepth 20000 in
theorem iX0_init_X0 : ∀ w ∈ wsX00, w ∈ wsX0_init := by decide +kernel
set_option maxHeartbeats 1000000 in
set_option maxRecDepth 100000 in
theorem kX0_init (l : Launch) (D : va_G) (q : Nat) (sz : Nat) : Met l yX0_init wsX0_init ({ frames := 1, cells := 0, slots := 0, locals := 12 }) (va_Pc [.ref q] (pW D [(q, .inr (1, [.long 0, .double 0, .long 0, .long 0, .int 0, .int 0]))] [] sz)) (va_Qv (fun _ : Unit => True) (fun _ t => eW D [(q, .inr (1, [.long 50000, .double 4602678819172646912, .long 3600, .long 250, .int 0, .int 0]))] [] (va_A [(q, .inr (1, [.long 0, .double 0, .long 0, .long 0, .int 0, .int 0]))] sz) t) (va_A [(q, .inr (1, [.long 0, .double 0, .long 0, .long 0, .int 0, .int 0]))] sz)) 0 0 (va_A [(q, .inr (1, [.long 0, .double 0, .long 0, .long 0, .int 0, .int 0]))] sz) := by
  refine Met.ofW (cc := cX0_init) (maxL := 1) (ret := none) (by decide) rfl ?_
  intro p e s m args below meth c s₁ B hml hv
  obtain ⟨rfl, hsz, hP, hK, hD0⟩ := hv
  have hx := B.exec
  have hb := B.bytes
  have hr := B.returns
  have hts := atoms_spec (ws := wsX0_init) B.pre
  have hown : s.vm.findClass RX0 = some m.cls := findClass_of_methodNamed B.named
  have hlocks := B.notSynchronized
  have hin : meth.name = "<init>" := (name_of_methodNamed B.named B.method).1
  subst hsz
  have hD := hD0.self (sz := s.heap.size)
  generalize hAe : va_A [(q, .inr (1, [.long 0, .double 0, .long 0, .long 0, .int 0, .int 0]))] s.heap.size = A at hD ⊢
  have hA : ∀ q : Nat, s.heap.size ≤ q → A q := fun q h => by rw [← hAe]; exact Or.inr h
  have hS : va_S A s.heap s.heap [] := va_S.rf
  have hl := lv_entry ([.ref q]) (n := 1) (Nat.le_of_ble_eq_true rfl)
  rw [lg_entry_eq]
  generalize (lg_sl ([.ref q]) ++ List.replicate (1 - (lg_sl ([.ref q])).length) Slot.unset).toArray = ls at hl ⊢
  have hl : lv_has ls 1 [(0, .ref q)] := hl
  refine lv_aload_n hx hb dX0_init_0 rfl (lv_at hl 0 rfl) ?_
  refine W.objInit hx hb hown (hts (.methodLink RX0 3 objectInit) (by decide +kernel)) (hts (.instanceMethod objectInit) (by decide +kernel)) (hts (.code objectInit ⟨#[0xb1]⟩ 1 none) (by decide +kernel)) rfl (by rw [hml]; exact hl.1) rfl dX0_init_1 (Nat.le_of_ble_eq_true rfl) (Nat.le_of_ble_eq_true rfl) ?_
  refine W.eq (g2 := F0 m 4 ls []) rfl ?_
  refine lv_aload_n hx hb dX0_init_4 rfl (lv_at hl 0 rfl) ?_
  refine lv_ldc2 hx hb hown (hts (.constantLong RX0 9 (50000)) (by decide +kernel)) dX0_init_5 ?_
  refine va_put (D := D) (ci := 1) (v := .long 50000) (ty := .long) (C := RX0) (T := TX0) (N := 6) hx hb hts iX0_init_X0 tyX0 tyX0_ok nmX0 hown hK hP hD hS 0 rfl rfl 0 (by decide) (hts (.fieldLink RX0 11 "CellRows2$Cell" "charge" "J") (by decide +kernel)) (fun _ h9 => h9) rfl (by decide +kernel) rfl rfl (Nat.le_of_ble_eq_true rfl) dX0_init_8 (fun H1 locs1 hP hD hS => ?_)
  have hP : va_P D vwCl [(q, .inr (1, [.long 50000, .double 0, .long 0, .long 0, .int 0, .int 0]))] H1 := hP
  have hD : va_D A [(q, .inr (1, [.long 50000, .double 0, .long 0, .long 0, .int 0, .int 0]))] := hD
  refine lv_aload_n hx hb dX0_init_11 rfl (lv_at hl 0 rfl) ?_
  refine lv_ldc2d hx hb hown (hts (.constantDouble RX0 17 (4602678819172646912)) (by decide +kernel)) dX0_init_12 ?_
  refine va_put (D := D) (ci := 1) (v := .double 4602678819172646912) (ty := .double) (C := RX0) (T := TX0) (N := 6) hx hb hts iX0_init_X0 tyX0 tyX0_ok nmX0 hown hK hP hD hS 0 rfl rfl 1 (by decide) (hts (.fieldLink RX0 19 "CellRows2$Cell" "estimate" "D") (by decide +kernel)) (fun _ h9 => h9) rfl (by decide +kernel) rfl rfl (Nat.le_of_ble_eq_true rfl) dX0_init_15 (fun H2 locs2 hP hD hS => ?_)
  have hP : va_P D vwCl [(q, .inr (1, [.long 50000, .double 4602678819172646912, .long 0, .long 0, .int 0, .int 0]))] H2 := hP
  have hD : va_D A [(q, .inr (1, [.long 50000, .double 4602678819172646912, .long 0, .long 0, .int 0, .int 0]))] := hD
  refine lv_aload_n hx hb dX0_init_18 rfl (lv_at hl 0 rfl) ?_
  refine lv_ldc2 hx hb hown (hts (.constantLong RX0 23 (3600)) (by decide +kernel)) dX0_init_19 ?_
  refine va_put (D := D) (ci := 1) (v := .long 3600) (ty := .long) (C := RX0) (T := TX0) (N := 6) hx hb hts iX0_init_X0 tyX0 tyX0_ok nmX0 hown hK hP hD hS 0 rfl rfl 2 (by decide) (hts (.fieldLink RX0 25 "CellRows2$Cell" "voltage" "J") (by decide +kernel)) (fun _ h9 => h9) rfl (by decide +kernel) rfl rfl (Nat.le_of_ble_eq_true rfl) dX0_init_22 (fun H3 locs3 hP hD hS => ?_)
  have hP : va_P D vwCl [(q, .inr (1, [.long 50000, .double 4602678819172646912, .long 3600, .long 0, .int 0, .int 0]))] H3 := hP
  have hD : va_D A [(q, .inr (1, [.long 50000, .double 4602678819172646912, .long 3600, .long 0, .int 0, .int 0]))] := hD
  refine lv_aload_n hx hb dX0_init_25 rfl (lv_at hl 0 rfl) ?_
  refine lv_ldc2 hx hb hown (hts (.constantLong RX0 28 (250)) (by decide +kernel)) dX0_init_26 ?_
  refine va_put (D := D) (ci := 1) (v := .long 250) (ty := .long) (C := RX0) (T := TX0) (N := 6) hx hb hts iX0_init_X0 tyX0 tyX0_ok nmX0 hown hK hP hD hS 0 rfl rfl 3 (by decide) (hts (.fieldLink RX0 30 "CellRows2$Cell" "warmth" "J") (by decide +kernel)) (fun _ h9 => h9) rfl (by decide +kernel) rfl rfl (Nat.le_of_ble_eq_true rfl) dX0_init_29 (fun H4 locs4 hP hD hS => ?_)
  have hP : va_P D vwCl [(q, .inr (1, [.long 50000, .double 4602678819172646912, .long 3600, .long 250, .int 0, .int 0]))] H4 := hP
  have hD : va_D A [(q, .inr (1, [.long 50000, .double 4602678819172646912, .long 3600, .long 250, .int 0, .int 0]))] := hD
  exact W.vret hx hb hr (fun t ht hW => ⟨⟨(), rfl, trivial, by rw [ht]; exact hP, va_K.moved hW.alike hK, hD⟩, hS.F ht⟩) hS.2.2 dX0_init_32
set_option maxRecDepth 20000 in
theorem iX1_init_X1 : ∀ w ∈ wsX10, w ∈ wsX1_init := by decide +kernel
set_option maxHeartbeats 1000000 in
set_option maxRecDepth 100000 in
theorem kX1_init (l : Launch) (D : va_G) (q : Nat) (sz : Nat) : Met l yX1_init wsX1_init ({ frames := 1, cells := 3, slots := 1012, locals := 12 }) (va_Pc [.ref q] (pW D [(q, .inr (2, [.null, .null, .null, .int 0, .int 0]))] [] sz)) (va_Qv (fun _ : (Nat → Nat) × (Nat → ClassId) => True) (fun u t => eW D [(q, .inr (2, [.ref (u.1 6), .ref (u.1 7), .ref (u.1 8), .int 0, .int 0])), ((u.1 6), .inl ((u.2 6), 500, .inr (.inl (fun _ => 0)))), ((u.1 7), .inl ((u.2 7), 256, .inr (.inl (fun _ => 0)))), ((u.1 8), .inl ((u.2 8), 256, .inr (.inl (fun _ => 0))))] [((u.2 6), .long), ((u.2 7), .long), ((u.2 8), .long)] (va_A [(q, .inr (2, [.null, .null, .null, .int 0, .int 0]))] sz) t) (va_A [(q, .inr (2, [.null, .null, .null, .int 0, .int 0]))] sz)) 3 1012 (va_A [(q, .inr (2, [.null, .null, .null, .int 0, .int 0]))] sz) := by
  refine Met.ofW (cc := cX1_init) (maxL := 1) (ret := none) (by decide) rfl ?_
  intro p e s m args below meth c s₁ B hml hv
  obtain ⟨rfl, hsz, hP, hK, hD0⟩ := hv
  have hx := B.exec
  have hb := B.bytes
  have hr := B.returns
  have hts := atoms_spec (ws := wsX1_init) B.pre
  have hown : s.vm.findClass RX1 = some m.cls := findClass_of_methodNamed B.named
  have hlocks := B.notSynchronized
  have hin : meth.name = "<init>" := (name_of_methodNamed B.named B.method).1
  subst hsz
  have hD := hD0.self (sz := s.heap.size)
  generalize hAe : va_A [(q, .inr (2, [.null, .null, .null, .int 0, .int 0]))] s.heap.size = A at hD ⊢
  have hA : ∀ q : Nat, s.heap.size ≤ q → A q := fun q h => by rw [← hAe]; exact Or.inr h
  have hS : va_S A s.heap s.heap [] := va_S.rf
  have hl := lv_entry ([.ref q]) (n := 1) (Nat.le_of_ble_eq_true rfl)
  rw [lg_entry_eq]
  generalize (lg_sl ([.ref q]) ++ List.replicate (1 - (lg_sl ([.ref q])).length) Slot.unset).toArray = ls at hl ⊢
  have hl : lv_has ls 1 [(0, .ref q)] := hl
  refine lv_aload_n hx hb dX1_init_0 rfl (lv_at hl 0 rfl) ?_
  refine W.objInit hx hb hown (hts (.methodLink RX1 3 objectInit) (by decide +kernel)) (hts (.instanceMethod objectInit) (by decide +kernel)) (hts (.code objectInit ⟨#[0xb1]⟩ 1 none) (by decide +kernel)) rfl (by rw [hml]; exact hl.1) rfl dX1_init_1 (Nat.le_of_ble_eq_true rfl) (Nat.le_of_ble_eq_true rfl) ?_
  refine W.eq (g2 := F0 m 4 ls []) rfl ?_
  refine lv_aload_n hx hb dX1_init_4 rfl (lv_at hl 0 rfl) ?_
  refine lv_sipush (v := 500) hx hb dX1_init_5 (by decide) ?_
  refine va_newa (atype := .long) hx hb (hts (.arrayClass .long) (by decide +kernel)) (ty := .long) rfl hK hP hD hS hA (N' := 500) (a0 := (500, .inr (.inl (fun _ => 0)))) (fun _ => rfl) (by decide) (by decide) (by decide) (Nat.le_of_ble_eq_true rfl) (Nat.le_of_ble_eq_true rfl) dX1_init_8 (fun q1 c1 H1 hK hP hD hS => ?_)
  have hK : va_K D vwCl [(c1, .long)] s := hK
  have hP : va_P D vwCl [(q, .inr (2, [.null, .null, .null, .int 0, .int 0])), (q1, .inl (c1, 500, .inr (.inl (fun _ => 0))))] H1 := hP
  have hD : va_D A [(q, .inr (2, [.null, .null, .null, .int 0, .int 0])), (q1, .inl (c1, 500, .inr (.inl (fun _ => 0))))] := hD
  refine va_putF (D := D) (ci := 2) (v := .ref q1) (ty := (.array .long)) (C := RX1) (T := TX1) (N := 5) hx hb hts iX1_init_X1 tyX1 tyX1_ok nmX1 hown hK hP hD hS 0 rfl rfl 0 (by decide) (hts (.fieldLink RX1 9 "CellRows2$Turns" "points" "[J") (by decide +kernel)) (fun _ h9 => h9) rfl hin rfl (by decide +kernel) rfl rfl (Nat.le_of_ble_eq_true rfl) dX1_init_10 (fun H2 locs2 hP hD hS => ?_)
  have hP : va_P D vwCl [(q, .inr (2, [.ref q1, .null, .null, .int 0, .int 0])), (q1, .inl (c1, 500, .inr (.inl (fun _ => 0))))] H2 := hP
  have hD : va_D A [(q, .inr (2, [.ref q1, .null, .null, .int 0, .int 0])), (q1, .inl (c1, 500, .inr (.inl (fun _ => 0))))] := hD
  refine lv_aload_n hx hb dX1_init_13 rfl (lv_at hl 0 rfl) ?_
  refine lv_sipush (v := 256) hx hb dX1_init_14 (by decide) ?_
  refine va_newa (atype := .long) hx hb (hts (.arrayClass .long) (by decide +kernel)) (ty := .long) rfl hK hP hD hS hA (N' := 256) (a0 := (256, .inr (.inl (fun _ => 0)))) (fun _ => rfl) (by decide) (by decide) (by decide) (Nat.le_of_ble_eq_true rfl) (Nat.le_of_ble_eq_true rfl) dX1_init_17 (fun q3 c3 H3 hK hP hD hS => ?_)
  have hK : va_K D vwCl [(c1, .long), (c3, .long)] s := hK
  have hP : va_P D vwCl [(q, .inr (2, [.ref q1, .null, .null, .int 0, .int 0])), (q1, .inl (c1, 500, .inr (.inl (fun _ => 0)))), (q3, .inl (c3, 256, .inr (.inl (fun _ => 0))))] H3 := hP
  have hD : va_D A [(q, .inr (2, [.ref q1, .null, .null, .int 0, .int 0])), (q1, .inl (c1, 500, .inr (.inl (fun _ => 0)))), (q3, .inl (c3, 256, .inr (.inl (fun _ => 0))))] := hD
  refine va_putF (D := D) (ci := 2) (v := .ref q3) (ty := (.array .long)) (C := RX1) (T := TX1) (N := 5) hx hb hts iX1_init_X1 tyX1 tyX1_ok nmX1 hown hK hP hD hS 0 rfl rfl 1 (by decide) (hts (.fieldLink RX1 15 "CellRows2$Turns" "cycleRanges" "[J") (by decide +kernel)) (fun _ h9 => h9) rfl hin rfl (by decide +kernel) rfl rfl (Nat.le_of_ble_eq_true rfl) dX1_init_19 (fun H4 locs4 hP hD hS => ?_)
  have hP : va_P D vwCl [(q, .inr (2, [.ref q1, .ref q3, .null, .int 0, .int 0])), (q1, .inl (c1, 500, .inr (.inl (fun _ => 0)))), (q3, .inl (c3, 256, .inr (.inl (fun _ => 0))))] H4 := hP
  have hD : va_D A [(q, .inr (2, [.ref q1, .ref q3, .null, .int 0, .int 0])), (q1, .inl (c1, 500, .inr (.inl (fun _ => 0)))), (q3, .inl (c3, 256, .inr (.inl (fun _ => 0))))] := hD
  refine lv_aload_n hx hb dX1_init_22 rfl (lv_at hl 0 rfl) ?_
  refine lv_sipush (v := 256) hx hb dX1_init_23 (by decide) ?_
  refine va_newa (atype := .long) hx hb (hts (.arrayClass .long) (by decide +kernel)) (ty := .long) rfl hK hP hD hS hA (N' := 256) (a0 := (256, .inr (.inl (fun _ => 0)))) (fun _ => rfl) (by decide) (by decide) (by decide) (Nat.le_of_ble_eq_true rfl) (Nat.le_of_ble_eq_true rfl) dX1_init_26 (fun q5 c5 H5 hK hP hD hS => ?_)
  have hK : va_K D vwCl [(c1, .long), (c3, .long), (c5, .long)] s := hK
  have hP : va_P D vwCl [(q, .inr (2, [.ref q1, .ref q3, .null, .int 0, .int 0])), (q1, .inl (c1, 500, .inr (.inl (fun _ => 0)))), (q3, .inl (c3, 256, .inr (.inl (fun _ => 0)))), (q5, .inl (c5, 256, .inr (.inl (fun _ => 0))))] H5 := hP
  have hD : va_D A [(q, .inr (2, [.ref q1, .ref q3, .null, .int 0, .int 0])), (q1, .inl (c1, 500, .inr (.inl (fun _ => 0)))), (q3, .inl (c3, 256, .inr (.inl (fun _ => 0)))), (q5, .inl (c5, 256, .inr (.inl (fun _ => 0))))] := hD
  refine va_putF (D := D) (ci := 2) (v := .ref q5) (ty := (.array .long)) (C := RX1) (T := TX1) (N := 5) hx hb hts iX1_init_X1 tyX1 tyX1_ok nmX1 hown hK hP hD hS 0 rfl rfl 2 (by decide) (hts (.fieldLink RX1 18 "CellRows2$Turns" "cycleLows" "[J") (by decide +kernel)) (fun _ h9 => h9) rfl hin rfl (by decide +kernel) rfl rfl (Nat.le_of_ble_eq_true rfl) dX1_init_28 (fun H6 locs6 hP hD hS => ?_)
  have hP : va_P D vwCl [(q, .inr (2, [.ref q1, .ref q3, .ref q5, .int 0, .int 0])), (q1, .inl (c1, 500, .inr (.inl (fun _ => 0)))), (q3, .inl (c3, 256, .inr (.inl (fun _ => 0)))), (q5, .inl (c5, 256, .inr (.inl (fun _ => 0))))] H6 := hP
  have hD : va_D A [(q, .inr (2, [.ref q1, .ref q3, .ref q5, .int 0, .int 0])), (q1, .inl (c1, 500, .inr (.inl (fun _ => 0)))), (q3, .inl (c3, 256, .inr (.inl (fun _ => 0)))), (q5, .inl (c5, 256, .inr (.inl (fun _ => 0))))] := hD
  exact W.vret hx hb hr (fun t ht hW => ⟨⟨(fun k => if k = 6 then q1 else if k = 7 then q3 else q5, fun k => if k = 6 then c1 else if k = 7 then c3 else c5), rfl, trivial, by rw [ht]; exact hP, va_K.moved hW.alike hK, hD⟩, hS.F ht⟩) hS.2.2 dX1_init_31
