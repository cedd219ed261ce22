abbrev pF (D : va_G) (q n sz fa : Nat) (cF : ClassId) (lf : Nat → Int64) (U : State) : Prop := pW D [(q, .inr (3, [.null, .null, .null, .null, .null, .int 0, .int 0, .int 0]))] [] sz U ∧ nwX U ∧ va_Z RX2 "FIRST_LIMITS" "[J" (.ref fa) (va_A [(q, .inr (3, [.null, .null, .null, .null, .null, .int 0, .int 0, .int 0]))] sz) U U.heap ∧ va_at0 fa cF (6, .inr (.inl lf)) U.heap ∧ ¬ va_A [(q, .inr (3, [.null, .null, .null, .null, .null, .int 0, .int 0, .int 0]))] sz fa ∧ (ArrOfT U cF .long ∧ va_RA U cF .long) ∧ U.vm.findClass "[J" = some cF ∧ va_Nw (.castable "[J" "java/lang/Cloneable") U ∧ va_AO RX0 U
set_option maxRecDepth 20000 in
theorem iX2_init_X0 : ∀ w ∈ wsX00, w ∈ wsX2_init := by decide +kernel
set_option maxRecDepth 20000 in
theorem iX2_init_X1 : ∀ w ∈ wsX10, w ∈ wsX2_init := by decide +kernel
set_option maxRecDepth 20000 in
theorem iX2_init_X2 : ∀ w ∈ wsX20, w ∈ wsX2_init := by decide +kernel
set_option maxHeartbeats 1000000 in
set_option maxRecDepth 100000 in
theorem kX2_init (l : Launch) (D : va_G) (q sz n : Nat) (p0 : Int32) (hn0 : clampI p0 = nI n) (hn1 : n ≤ 24) (fa : Nat) (cF : ClassId) (lf : Nat → Int64) : Met l yX2_init wsX2_init ({ frames := 3, cells := 32, slots := 2218, locals := 90 }) (va_Pc [.ref q, .int p0] (pF D q n sz fa cF lf)) (va_Qv (fun _ : (Nat → Nat) × (Nat → ClassId) => True) (fun u t => u.1 0 = q ∧ eX D u.2 u.1 n (va_A [(q, .inr (3, [.null, .null, .null, .null, .null, .int 0, .int 0, .int 0]))] sz) (sFol (S00 lf) 50000) t) (va_A [(q, .inr (3, [.null, .null, .null, .null, .null, .int 0, .int 0, .int 0]))] sz)) 32 2218 (va_A [(q, .inr (3, [.null, .null, .null, .null, .null, .int 0, .int 0, .int 0]))] sz) := by
  refine Met.ofW (cc := cX2_init) (maxL := 4) (ret := none) (by decide) rfl ?_
  intro p e s m args below meth c s₁ B hml hv
  obtain ⟨rfl, ⟨hsz, hP, hK, hD0⟩, hN, hZ, hfa, hfn, hfT, hnm, hcl, hAO⟩ := hv
  have hx := B.exec
  have hb := B.bytes
  have hr := B.returns
  have hts := atoms_spec (ws := wsX2_init) B.pre
  have hown : s.vm.findClass RX2 = some m.cls := findClass_of_methodNamed B.named
  have hlocks := B.notSynchronized
  have hin : meth.name = "<init>" := (name_of_methodNamed B.named B.method).1
  subst hsz
  have hD := hD0.self (sz := s.heap.size)
  generalize hAe : va_A [(q, .inr (3, [.null, .null, .null, .null, .null, .int 0, .int 0, .int 0]))] s.heap.size = A at hD hZ hfn ⊢
  have hA : ∀ q : Nat, s.heap.size ≤ q → A q := fun q h => by rw [← hAe]; exact Or.inr h
  have hS : va_S A s.heap s.heap [] := va_S.rf
  have hl := lv_entry ([.ref q, .int p0]) (n := 4) (Nat.le_of_ble_eq_true rfl)
  rw [lg_entry_eq]
  generalize (lg_sl ([.ref q, .int p0]) ++ List.replicate (4 - (lg_sl ([.ref q, .int p0])).length) Slot.unset).toArray = ls at hl ⊢
  have hl : lv_has ls 4 [(0, .ref q), (1, .int p0)] := hl
  refine lv_aload_n hx hb dX2_init_0 rfl (lv_at hl 0 rfl) ?_
  refine W.objInit hx hb hown (hts (.methodLink RX2 1 objectInit) (by decide +kernel)) (hts (.instanceMethod objectInit) (by decide +kernel)) (hts (.code objectInit ⟨#[0xb1]⟩ 1 none) (by decide +kernel)) rfl (by rw [hml]; exact hl.1) rfl dX2_init_1 (Nat.le_of_ble_eq_true rfl) (Nat.le_of_ble_eq_true rfl) ?_
  refine W.eq (g2 := F0 m 4 ls []) rfl ?_
  refine W.join (P := fun v9 : Int32 => v9 = nI n) (g := fun v9 => F0 m 21 ls [.int v9]) (fun v98 hv98 => ?_) (fun J98 => ?_)
  · subst hv98
    refine lv_istore_n (lv' := [(2, .int (nI n)), (0, .ref q), (1, .int p0)]) hx hb dX2_init_21 rfl hl (by decide) rfl (fun ls hl => ?_)
    refine lv_aload_n hx hb dX2_init_22 rfl (lv_at hl 1 rfl) ?_
    refine lv_iload_n hx hb dX2_init_23 rfl (lv_at hl 0 rfl) ?_
    refine va_newq hx hb hown (hts (.classLink RX2 9 RX0) (by decide +kernel)) hAO hK hP hD hS hA (n := nI n) (N' := n) (nI_pos (by omega)) (nI_clamp (by omega)) (by omega) (Nat.le_of_ble_eq_true rfl) (by show 0 + n ≤ 2218; omega) dX2_init_24 (fun q1 c1 H1 hK hP hD hS => ?_)
    refine va_putF (D := D) (ci := 3) (v := .ref q1) (ty := (.array (.object "CellRows2$Cell"))) (C := RX2) (T := TX2) (N := 8) hx hb hts iX2_init_X2 tyX2 tyX2_ok nmX2 hown hK hP hD hS 0 rfl rfl 0 (by decide) (hts (.fieldLink RX2 11 "CellRows2" "cells" "[LCellRows2$Cell;") (by decide +kernel)) (fun _ h9 => h9) rfl hin rfl (by decide +kernel) rfl rfl (Nat.le_of_ble_eq_true rfl) dX2_init_27 (fun H2 locs2 hP hD hS => ?_)
    have hK : va_K D vwCl [(c1, .object RX0)] s := hK
    have hP : va_P D vwCl [(q, .inr (3, [.ref q1, .null, .null, .null, .null, .int 0, .int 0, .int 0])), (q1, .inl (c1, n, .inr (.inr (.inr (.inr (fun _ => none))))))] H2 := hP
    have hD : va_D A [(q, .inr (3, [.ref q1, .null, .null, .null, .null, .int 0, .int 0, .int 0])), (q1, .inl (c1, n, .inr (.inr (.inr (.inr (fun _ => none))))))] := hD
    obtain ⟨fs0, hfs0⟩ : ∃ fs0 : List Value, fs0 = [.ref q1, .null, .null, .null, .null, .int 0, .int 0, .int 0] := ⟨_, rfl⟩
    have ew : wC q fs0 q1 c1 n (fun _ => 0) 0 = [(q, .inr (3, fs0)), (q1, .inl (c1, n, .inr (.inr (.inr (.inr (fun _ => none))))))] := rfl
    rw [← hfs0, ← ew] at hP hD
    refine lv_iconst (v := 0) hx hb dX2_init_30 (by decide) ?_
    refine lv_istore_n (lv' := [(3, .int 0), (2, .int (nI n)), (0, .ref q), (1, .int p0)]) hx hb dX2_init_31 rfl hl (by decide) rfl (fun ls hl => ?_)
    refine W.widen (k := 1 + (n - n)) (n := n + 6 * (n - n)) (by omega) (by omega) ?_
    refine W.loopC (α := Nat × (Nat → Nat) × Array Slot) (g := fun v9 => F0 m 32 v9.2.2 []) (fun k9 => 1 + (n - k9)) (fun k9 => n + 6 * (n - k9)) (fun k9 v9 H' L' => v9.1 + k9 = n ∧ va_P D vwCl (wC q fs0 q1 c1 n v9.2.1 v9.1) H' ∧ va_D A (wC q fs0 q1 c1 n v9.2.1 v9.1) ∧ va_S A s.heap H' L' ∧ lv_has v9.2.2 4 [(3, .int (nI v9.1)), (2, .int (nI n)), (0, .ref q), (1, .int p0)]) ?_ ?_ n (0, (fun _ => 0), ls) ⟨by omega, hP, hD, hS, hl⟩
    · rintro ⟨i, ac, ls⟩ H3 locs3 ⟨h9, hP, hD, hS, hl⟩
      have h9 : i + 0 = n := h9
      obtain rfl : i = n := h9
      have hP : va_P D vwCl (wC q fs0 q1 c1 i ac i) H3 := hP
      have hD : va_D A (wC q fs0 q1 c1 i ac i) := hD
      have hl : lv_has ls 4 [(3, .int (nI i)), (2, .int (nI i)), (0, .ref q), (1, .int p0)] := hl
      refine lv_iload_n hx hb dX2_init_32 rfl (lv_at hl 0 rfl) ?_
      refine lv_iload_n hx hb dX2_init_33 rfl (lv_at hl 1 rfl) ?_
      refine ib_ge (tgt := 56) hx hb dX2_init_34 (by decide) (fun h_1 => ?_) (fun h_1 => ?_)
      · subst hfs0
        refine lv_aload_n hx hb dX2_init_56 rfl (lv_at hl 2 rfl) ?_
        refine va_gets hx hb hZ hS hown (hts (.fieldLink RX2 16 "CellRows2" "FIRST_LIMITS" "[J") (by decide +kernel)) (fun _ h9 => h9) dX2_init_57 ?_
        refine va_cloneF hx hb (hml.trans hl.1.symm) hown (hts (.methodLink RX2 20 ⟨"[J", "clone", "()Ljava/lang/Object;"⟩) (by decide +kernel)) (hts (.sameMethod "[J" "java/lang/Object" "clone" "()Ljava/lang/Object;") (by decide +kernel)) (hts (.native ⟨"java/lang/Object", "clone", "()Ljava/lang/Object;"⟩) (by decide +kernel)) (hts (.instanceMethod ⟨"java/lang/Object", "clone", "()Ljava/lang/Object;"⟩) (by decide +kernel)) (hts (.selects "[J" ⟨"[J", "clone", "()Ljava/lang/Object;"⟩ ⟨"java/lang/Object", "clone", "()Ljava/lang/Object;"⟩) (by decide +kernel)) hcl hK hP hD hS hA hfa hfn hfT hnm (fun j v h => va_fit (n := 6) (F := fun j => .long (lf j)) (fun _ _ => rfl) j v h) (Nat.le_of_ble_eq_true rfl) (Nat.le_of_ble_eq_true rfl) (by show 1 + (i - 0) + 1 ≤ 32; omega) (by show i + 6 * (i - 0) + 6 ≤ 2218; omega) dX2_init_60 (fun q2 H4 hK hP hD hS => ?_)
        refine va_castA hx hb hown (hts (.classLink RX2 21 "[J") (by decide +kernel)) hP (i + 2) (by rw [List.getElem?_append_right (by rw [wC_len]; exact Nat.le_refl _), wC_len, Nat.sub_self]; rfl) hnm dX2_init_63 ?_
        refine va_putF (D := D) (ci := 3) (v := .ref q2) (ty := (.array .long)) (C := RX2) (T := TX2) (N := 8) hx hb hts iX2_init_X2 tyX2 tyX2_ok nmX2 hown hK hP hD hS 0 rfl rfl 1 (by decide) (hts (.fieldLink RX2 25 "CellRows2" "limits" "[J") (by decide +kernel)) (fun _ h9 => h9) rfl hin rfl (by decide +kernel) rfl rfl (Nat.le_of_ble_eq_true rfl) dX2_init_66 (fun H5 locs5 hP hD hS => ?_)
        have hP : va_P D vwCl (wC q [.ref q1, .ref q2, .null, .null, .null, .int 0, .int 0, .int 0] q1 c1 i ac i ++ [(q2, .inl (cF, 6, .inr (.inl lf)))]) H5 := hP
        have hD : va_D A (wC q [.ref q1, .ref q2, .null, .null, .null, .int 0, .int 0, .int 0] q1 c1 i ac i ++ [(q2, .inl (cF, 6, .inr (.inl lf)))]) := hD
        refine lv_aload_n hx hb dX2_init_69 rfl (lv_at hl 2 rfl) ?_
        refine lv_iconst (v := 3) hx hb dX2_init_70 (by decide) ?_
        refine va_newa (atype := .boolean) hx hb (hts (.arrayClass .boolean) (by decide +kernel)) (ty := .boolean) rfl hK hP hD hS hA (N' := 3) (a0 := (3, .inl (fun _ => 0))) (fun _ => rfl) (by decide) (by decide) (by decide) (by show 1 + (i - 0) + 1 + 1 ≤ 32; omega) (by show i + 6 * (i - 0) + 6 + 3 ≤ 2218; omega) dX2_init_71 (fun q3 c3 H6 hK hP hD hS => ?_)
        refine va_putF (D := D) (ci := 3) (v := .ref q3) (ty := (.array .boolean)) (C := RX2) (T := TX2) (N := 8) hx hb hts iX2_init_X2 tyX2 tyX2_ok nmX2 hown hK hP hD hS 0 rfl rfl 2 (by decide) (hts (.fieldLink RX2 28 "CellRows2" "stuckContactors" "[Z") (by decide +kernel)) (fun _ h9 => h9) rfl hin rfl (by decide +kernel) rfl rfl (Nat.le_of_ble_eq_true rfl) dX2_init_73 (fun H7 locs7 hP hD hS => ?_)
        have hP : va_P D vwCl (wC q [.ref q1, .ref q2, .ref q3, .null, .null, .int 0, .int 0, .int 0] q1 c1 i ac i ++ [(q2, .inl (cF, 6, .inr (.inl lf)))] ++ [(q3, .inl (c3, 3, .inl (fun _ => 0)))]) H7 := hP
        have hD : va_D A (wC q [.ref q1, .ref q2, .ref q3, .null, .null, .int 0, .int 0, .int 0] q1 c1 i ac i ++ [(q2, .inl (cF, 6, .inr (.inl lf)))] ++ [(q3, .inl (c3, 3, .inl (fun _ => 0)))]) := hD
        refine lv_aload_n hx hb dX2_init_76 rfl (lv_at hl 2 rfl) ?_
        refine lv_sipush (v := 1024) hx hb dX2_init_77 (by decide) ?_
        refine va_newa (atype := .int) hx hb (hts (.arrayClass .int) (by decide +kernel)) (ty := .int) rfl hK hP hD hS hA (N' := 1024) (a0 := (1024, .inl (fun _ => 0))) (fun _ => rfl) (by decide) (by decide) (by decide) (by show 1 + (i - 0) + 1 + 1 + 1 ≤ 32; omega) (by show i + 6 * (i - 0) + 6 + 3 + 1024 ≤ 2218; omega) dX2_init_80 (fun q4 c4 H8 hK hP hD hS => ?_)
        refine va_putF (D := D) (ci := 3) (v := .ref q4) (ty := (.array .int)) (C := RX2) (T := TX2) (N := 8) hx hb hts iX2_init_X2 tyX2 tyX2_ok nmX2 hown hK hP hD hS 0 rfl rfl 3 (by decide) (hts (.fieldLink RX2 32 "CellRows2" "faults" "[I") (by decide +kernel)) (fun _ h9 => h9) rfl hin rfl (by decide +kernel) rfl rfl (Nat.le_of_ble_eq_true rfl) dX2_init_82 (fun H9 locs9 hP hD hS => ?_)
        have hP : va_P D vwCl (wC q [.ref q1, .ref q2, .ref q3, .ref q4, .null, .int 0, .int 0, .int 0] q1 c1 i ac i ++ [(q2, .inl (cF, 6, .inr (.inl lf)))] ++ [(q3, .inl (c3, 3, .inl (fun _ => 0)))] ++ [(q4, .inl (c4, 1024, .inl (fun _ => 0)))]) H9 := hP
        have hD : va_D A (wC q [.ref q1, .ref q2, .ref q3, .ref q4, .null, .int 0, .int 0, .int 0] q1 c1 i ac i ++ [(q2, .inl (cF, 6, .inr (.inl lf)))] ++ [(q3, .inl (c3, 3, .inl (fun _ => 0)))] ++ [(q4, .inl (c4, 1024, .inl (fun _ => 0)))]) := hD
        refine lv_aload_n hx hb dX2_init_85 rfl (lv_at hl 2 rfl) ?_
        refine va_new (ci := 2) (fs := [.null, .null, .null, .int 0, .int 0]) (C := RX1) (T := TX1) (N := 5) hx hb hts iX2_init_X1 tyX1 tyX1_ok hown (hts (.classLink RX2 36 RX1) (by decide +kernel)) (hts (.instantiable RX1 5) (by decide +kernel)) (hts (.initialized RX1) (by decide +kernel)) hK hP hD hS hA rfl (fun j hj => by rcases (show j = 0 ∨ j = 1 ∨ j = 2 ∨ j = 3 ∨ j = 4 by omega) with rfl | rfl | rfl | rfl | rfl <;> rfl) (by show 1 + (i - 0) + 1 + 1 + 1 + 1 ≤ 32; omega) (by show i + 6 * (i - 0) + 6 + 3 + 1024 + 5 ≤ 2218; omega) dX2_init_86 (fun q5 H10 hP hD hS => ?_)
        refine lv_dup hx hb dX2_init_89 rfl ?_
        have hF := va_free1 hD hS hA
        have hKe : va_K D vwCl [] s := ⟨hK.1, fun k q h => by cases h⟩
        have hPq := hP.tail1
        refine va_callv (va_runIN (As := []) (rest := [.ref q5, .ref q]) ⟨hx, hb, hml, hown, hts⟩ (kX1_init l D q5 H10.size) ⟨va_cnB 0 hts gX2_init_X1_init_n38 rfl rfl rfl (hN _ (List.mem_of_getElem? (i := 10) rfl)) (hts (.initialized RX1) (by decide +kernel)) (by decide +kernel) ⟨(Nat.le_of_ble_eq_true rfl), (Nat.le_of_ble_eq_true rfl)⟩, rfl, hts (.instanceMethod yX1_init) (by decide +kernel)⟩ ⟨pW_blind, fun U hU hW => ⟨rfl, by rw [hU], by rw [hU]; exact hPq, va_K.moved hW.alike hKe, va_D.one trivial⟩⟩ rfl rfl hl.1 rfl (lv_room (Nat.le_of_ble_eq_true rfl)) dX2_init_90 ⟨(by show 1 + (i - 0) + 1 + 1 + 1 + 1 + 3 ≤ 32; omega), (by show i + 6 * (i - 0) + 6 + 3 + 1024 + 5 + 1012 ≤ 2218; omega)⟩) hS (fun q _ h => hF q h) hF (fun u t11 H11 locs11 ht hvm h6 hB hz1 hk1 hS => ?_)
        obtain ⟨hP1, hK1, hD1⟩ := hB
        rw [ht] at hP1
        have hK1 := va_K.moved hvm.symm hK1
        obtain ⟨hP, hD⟩ := va_last1 hP hD hk1 hP1 hD1 hF
        refine va_putF (D := D) (ci := 3) (v := .ref q5) (ty := (.object "CellRows2$Turns")) (C := RX2) (T := TX2) (N := 8) hx hb hts iX2_init_X2 tyX2 tyX2_ok nmX2 hown hK hP hD hS 0 rfl rfl 4 (by decide) (hts (.fieldLink RX2 39 "CellRows2" "turns" "LCellRows2$Turns;") (by decide +kernel)) (fun _ h9 => h9) rfl hin rfl (by decide +kernel) rfl rfl (Nat.le_of_ble_eq_true rfl) dX2_init_93 (fun H12 locs12 hP hD hS => ?_)
        have hP : va_P D vwCl (wC q [.ref q1, .ref q2, .ref q3, .ref q4, .ref q5, .int 0, .int 0, .int 0] q1 c1 i ac i ++ [(q2, .inl (cF, 6, .inr (.inl lf)))] ++ [(q3, .inl (c3, 3, .inl (fun _ => 0)))] ++ [(q4, .inl (c4, 1024, .inl (fun _ => 0)))] ++ [(q5, .inr (2, [.ref (u.1 6), .ref (u.1 7), .ref (u.1 8), .int 0, .int 0])), ((u.1 6), .inl ((u.2 6), 500, .inr (.inl (fun _ => 0)))), ((u.1 7), .inl ((u.2 7), 256, .inr (.inl (fun _ => 0)))), ((u.1 8), .inl ((u.2 8), 256, .inr (.inl (fun _ => 0))))]) H12 := hP
        have hD : va_D A (wC q [.ref q1, .ref q2, .ref q3, .ref q4, .ref q5, .int 0, .int 0, .int 0] q1 c1 i ac i ++ [(q2, .inl (cF, 6, .inr (.inl lf)))] ++ [(q3, .inl (c3, 3, .inl (fun _ => 0)))] ++ [(q4, .inl (c4, 1024, .inl (fun _ => 0)))] ++ [(q5, .inr (2, [.ref (u.1 6), .ref (u.1 7), .ref (u.1 8), .int 0, .int 0])), ((u.1 6), .inl ((u.2 6), 500, .inr (.inl (fun _ => 0)))), ((u.1 7), .inl ((u.2 7), 256, .inr (.inl (fun _ => 0)))), ((u.1 8), .inl ((u.2 8), 256, .inr (.inl (fun _ => 0))))]) := hD
        refine lv_aload_n hx hb dX2_init_96 rfl (lv_at hl 2 rfl) ?_
        refine va_get (D := D) (ci := 3) (v := .ref q5) (C := RX2) (T := TX2) (N := 8) hx hb hts iX2_init_X2 hown hK hP 0 rfl rfl 4 (by decide) (hts (.fieldLink RX2 39 "CellRows2" "turns" "LCellRows2$Turns;") (by decide +kernel)) (fun _ h9 => h9) rfl dX2_init_97 ?_
        refine lv_ldc2 hx hb hown (hts (.constantLong RX2 43 (50000)) (by decide +kernel)) dX2_init_100 ?_
        obtain ⟨hP, hD⟩ := wX_of hP hD
        have hK := hK.app hK1
        obtain ⟨a, hae⟩ : ∃ a : Nat → Nat, a = aM q q1 q2 q3 q4 q5 (u.1 6) (u.1 7) (u.1 8) ac := ⟨_, rfl⟩
        obtain ⟨cy, hce⟩ : ∃ cy : Nat → ClassId, cy = cM c1 cF c3 c4 (u.2 6) (u.2 7) (u.2 8) := ⟨_, rfl⟩
        rw [← hae, ← hce] at hP hD
        have hK : va_K D vwCl (tX cy) s := by rw [hce]; exact hK
        have ha5 : a 5 = q5 := congrFun hae 5
        have ha0 : a 0 = q := congrFun hae 0
        refine W.eqs (st2 := [.long 50000, .ref (a 5)]) (by rw [ha5]) ?_
        have hSo := hS
        refine va_callv (va_runVN (As := [.long 50000]) (rest := []) ⟨hx, hb, hml, hown, hts⟩ (kX1_follow l D cy a i (S00 lf) H12.size 50000 (by show 0 ≤ 500; omega) (by show 0 + 2 * 0 ≤ 513; omega)) ⟨va_cnB 1 hts gX2_init_X1_follow_n45 rfl rfl rfl (hN _ (List.mem_of_getElem? (i := 11) rfl)) (hts (.initialized RX1) (by decide +kernel)) (by decide +kernel) ⟨(Nat.le_of_ble_eq_true rfl), (Nat.le_of_ble_eq_true rfl)⟩, hts (.instanceMethod yX1_follow) (by decide +kernel), hts (.selects RX1 yX1_follow yX1_follow) (by decide +kernel)⟩ ⟨pX_blind, va_recv hK hP (ci := 2) (q0 := 5) rfl rfl, fun U hU hW => ⟨rfl, pX_mk hP hK hD hN hU hW⟩⟩ rfl rfl hl.1 rfl (lv_room (Nat.le_of_ble_eq_true rfl)) dX2_init_103 ⟨(by show 1 + (i - 0) + 1 + 1 + 1 + 1 + 3 + 0 ≤ 32; omega), (by show i + 6 * (i - 0) + 6 + 3 + 1024 + 5 + 1012 + 0 ≤ 2218; omega)⟩) hS (fun q _ h => freeAll hD hS hA q h) (freeAll hD hS hA) (fun u9 t9 H13 locs13 ht hvm hw hB hz1 hk1 hS => ?_)
        obtain ⟨hP1, hK1, hD1⟩ := hB
        rw [ht] at hP1
        obtain rfl : u9 = sFol (S00 lf) 50000 := hw
        have hD := hD1.weaken (fun _ q _ h => freeAll hD hSo hA q.1 h)
        refine W.widen (k := 32) (n := 2218) (by show 1 + (i - 0) + 1 + 1 + 1 + 1 + 3 + 0 + 0 ≤ 32; omega) (by show i + 6 * (i - 0) + 6 + 3 + 1024 + 5 + 1012 + 0 + 0 ≤ 2218; omega) ?_
        exact W.vret hx hb hr (fun t ht hW => ⟨⟨(a, cy), rfl, trivial, ⟨ha0, by rw [ht]; exact hP1, va_K.moved hW.alike hK, hD⟩⟩, hS.F ht⟩) hS.2.2 dX2_init_106
      · exact absurd h_1 (nI_nlt (a := i) (b := i) (Nat.le_refl _) (by omega))
    · rintro k9 ih ⟨i, ac, ls⟩ H3 locs3 ⟨h9, hP, hD, hS, hl⟩
      have h9 : i + (k9 + 1) = n := h9
      have hi : i < n := by omega
      have hP : va_P D vwCl (wC q fs0 q1 c1 n ac i) H3 := hP
      have hD : va_D A (wC q fs0 q1 c1 n ac i) := hD
      have hl : lv_has ls 4 [(3, .int (nI i)), (2, .int (nI n)), (0, .ref q), (1, .int p0)] := hl
      refine lv_iload_n hx hb dX2_init_32 rfl (lv_at hl 0 rfl) ?_
      refine lv_iload_n hx hb dX2_init_33 rfl (lv_at hl 1 rfl) ?_
      refine ib_ge (tgt := 56) hx hb dX2_init_34 (by decide) (fun h_1 => ?_) (fun h_1 => ?_)
      · exact absurd (nI_lt (a := i) (b := n) hi (by omega)) h_1
      · refine lv_aload_n hx hb dX2_init_37 rfl (lv_at hl 2 rfl) ?_
        refine va_get (D := D) (ci := 3) (v := .ref q1) (C := RX2) (T := TX2) (N := 8) hx hb hts iX2_init_X2 hown hK hP 0 rfl rfl 0 (by decide) (hts (.fieldLink RX2 11 "CellRows2" "cells" "[LCellRows2$Cell;") (by decide +kernel)) (fun _ h9 => h9) (by rw [hfs0]; rfl) dX2_init_38 ?_
        refine lv_iload_n hx hb dX2_init_41 rfl (lv_at hl 0 rfl) ?_
        refine va_new (ci := 1) (fs := [.long 0, .double 0, .long 0, .long 0, .int 0, .int 0]) (C := RX0) (T := TX0) (N := 6) hx hb hts iX2_init_X0 tyX0 tyX0_ok hown (hts (.classLink RX2 9 RX0) (by decide +kernel)) (hts (.instantiable RX0 6) (by decide +kernel)) (hts (.initialized RX0) (by decide +kernel)) hK hP hD hS hA rfl (fun j hj => by rcases (show j = 0 ∨ j = 1 ∨ j = 2 ∨ j = 3 ∨ j = 4 ∨ j = 5 by omega) with rfl | rfl | rfl | rfl | rfl | rfl <;> rfl) (by show 1 + (n - (k9 + 1)) + 1 ≤ 32; omega) (by show n + 6 * (n - (k9 + 1)) + 6 ≤ 2218; omega) dX2_init_42 (fun q5 H5 hP hD hS => ?_)
        refine lv_dup hx hb dX2_init_45 rfl ?_
        have hF := va_free1 hD hS hA
        have hKe : va_K D vwCl [] s := ⟨hK.1, fun k q h => by cases h⟩
        have hPq := hP.tail1
        refine va_callv (va_runIN (As := []) (rest := [.ref q5, .int (nI i), .ref q1]) ⟨hx, hb, hml, hown, hts⟩ (kX0_init l D q5 H5.size) ⟨va_cnB 0 hts gX2_init_X0_init_n15 rfl rfl rfl (hN _ (List.mem_of_getElem? (i := 9) rfl)) (hts (.initialized RX0) (by decide +kernel)) (by decide +kernel) ⟨(Nat.le_of_ble_eq_true rfl), (Nat.le_of_ble_eq_true rfl)⟩, rfl, hts (.instanceMethod yX0_init) (by decide +kernel)⟩ ⟨pW_blind, fun U hU hW => ⟨rfl, by rw [hU], by rw [hU]; exact hPq, va_K.moved hW.alike hKe, va_D.one trivial⟩⟩ rfl rfl hl.1 rfl (lv_room (Nat.le_of_ble_eq_true rfl)) dX2_init_46 ⟨by show 1 + (n - (k9 + 1)) + 1 + 0 ≤ 32; omega, by show n + 6 * (n - (k9 + 1)) + 6 + 0 ≤ 2218; omega⟩) hS (fun q _ h => hF q h) hF (fun u6 t6 H6 locs6 ht hvm h6 hB hz1 hk1 hS => ?_)
        obtain ⟨hP1, hK1, hD1⟩ := hB
        rw [ht] at hP1
        obtain ⟨hP, hD⟩ := va_last1 hP hD hk1 hP1 hD1 hF
        refine va_astq (r := (RX0, TX0, 6)) hx hb hK hP hD hS 1 0 (i + 2) 1 (f := fun j => if j < i then some (ac j) else none) rfl rfl (by rw [List.getElem?_append_right (by rw [wC_len]; exact Nat.le_refl _), wC_len, Nat.sub_self]; rfl) rfl (vp_in_nI hi (by omega)) dX2_init_49 (fun H7 locs7 hP hD hS => ?_)
        rw [nI_clamp (by omega)] at hP hD
        have hP : va_P D vwCl (wC q fs0 q1 c1 n (va_up ac i q5) (i + 1)) H7 := by rw [← wC_step]; exact hP
        have hD : va_D A (wC q fs0 q1 c1 n (va_up ac i q5) (i + 1)) := by rw [← wC_step]; exact hD
        refine lv_iinc (v := nI (i + 1)) (lv' := [(3, .int (nI (i + 1))), (2, .int (nI n)), (0, .ref q), (1, .int p0)]) hx hb dX2_init_50 hl (k := 0) rfl (nI_1 i) (by decide) rfl (fun ls hl => ?_)
        refine lv_goto (tgt := 32) hx hb dX2_init_53 (by decide) ?_
        refine W.widen (k := 1 + (n - k9)) (n := n + 6 * (n - k9)) (by show 1 + (n - (k9 + 1)) + 1 + 0 ≤ _; omega) (by show n + 6 * (n - (k9 + 1)) + 6 + 0 ≤ _; omega) ?_
        exact ih (i + 1, va_up ac i q5, ls) _ _ ⟨by show i + 1 + k9 = n; omega, hP, hD, hS, hl⟩
  · refine lv_iload_n hx hb dX2_init_4 rfl (lv_at hl 1 rfl) ?_
    refine lv_iconst (v := 1) hx hb dX2_init_5 (by decide) ?_
    refine ib_lt (tgt := 15) hx hb dX2_init_6 (by decide) (fun h_1 => ?_) (fun h_1 => ?_)
    · refine lv_bipush (v := 8) hx hb dX2_init_15 (by decide) ?_
      refine lv_goto (tgt := 21) hx hb dX2_init_17 (by decide) ?_
      exact J98 _ (by rw [← hn0]; simp only [clampI, if_pos h_1])
    · refine lv_iload_n hx hb dX2_init_9 rfl (lv_at hl 1 rfl) ?_
      refine lv_bipush (v := 24) hx hb dX2_init_10 (by decide) ?_
      refine ib_le (tgt := 20) hx hb dX2_init_12 (by decide) (fun h_2 => ?_) (fun h_2 => ?_)
      · refine lv_iload_n hx hb dX2_init_20 rfl (lv_at hl 1 rfl) ?_
        exact J98 _ (by rw [← hn0]; simp only [clampI, if_neg h_1, if_neg h_2])
      · refine lv_bipush (v := 8) hx hb dX2_init_15 (by decide) ?_
        refine lv_goto (tgt := 21) hx hb dX2_init_17 (by decide) ?_
        exact J98 _ (by rw [← hn0]; simp only [clampI, if_neg h_1, if_pos h_2])
