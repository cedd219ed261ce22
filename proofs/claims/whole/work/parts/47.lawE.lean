/-! the law's entry: what the statement gives of the start -/
theorem len_at {args : Array Value} {s : State} {t : Term} {v : Value} (h : (Term.length t).eval args s none [] s = some v) : ∃ a cell, t.eval args s none [] s = some (.ref a) ∧ s.arrayAt? a = some cell ∧ cell.slots.size < 2147483648 ∧ v = .int cell.slots.size.toInt32 := by
  simp only [Term.eval, Option.bind_eq_bind] at h
  cases ht : t.eval args s none [] s with
  | none => simp [ht] at h
  | some x =>
    cases x <;> simp [ht] at h
    case ref a =>
      obtain ⟨cell, hcell, h⟩ := Option.bind_eq_some_iff.mp h
      by_cases hn : cell.slots.size < 2147483648
      · rw [if_pos hn] at h; cases h; exact ⟨a, cell, rfl, hcell, hn, rfl⟩
      · rw [if_neg hn] at h; cases h
/-- the static array of the first limits -/
theorem lim_at {args : Array Value} {s : State} {t : Term} (hlen : (Cond.eq (.length t) (.int 6)).before args s = true) (hex : (Cond.exactly t "[J").before args s = true) (harr : (Cond.arrayOf t .long).before args s = true)
    (h0 : (Cond.eq (.elem t (.int 0)) (.long 2800)).before args s = true) (h1 : (Cond.eq (.elem t (.int 1)) (.long 4200)).before args s = true) (h2 : (Cond.eq (.elem t (.int 2)) (.long 600)).before args s = true) (h3 : (Cond.eq (.elem t (.int 3)) (.long 5000)).before args s = true) (h4 : (Cond.eq (.elem t (.int 4)) (.long 1000)).before args s = true) (h5 : (Cond.eq (.elem t (.int 5)) (.long 100000)).before args s = true) :
    ∃ (fa : Nat) (cF : ClassId), t.eval args s none [] s = some (.ref fa) ∧ fa < s.heap.size ∧ va_at0 fa cF (6, .inr (.inl lim0)) s.heap ∧ (ArrOfT s cF .long ∧ va_RA s cF .long) ∧ s.vm.findClass "[J" = some cF := by
  obtain ⟨fa, cell, ht, hat, hn, hv⟩ := len_at (va_eqt hlen)
  obtain ⟨hcell, -, -, -⟩ := State.arrayAt?_spec hat
  have hsz : cell.slots.size = 6 := by
    have e6 : nI 6 = nI cell.slots.size := Value.int.inj hv
    exact ((nI_eq (by omega) (by omega)).mp e6).symm
  obtain ⟨hof, hkn⟩ := Cond.arrayOf_spec harr ht hcell
  obtain ⟨fa2, c2, cell2, k2, g1, g2, g3, g4, g5, g6, -⟩ := Cond.exactly_spec hex
  obtain rfl : fa = fa2 := Value.ref.inj (Option.some.inj (ht.symm.trans g1))
  obtain rfl : cell = cell2 := Option.some.inj (hcell.symm.trans g3)
  have el : ∀ (j : Nat) (z : Int64), (Cond.eq (.elem t (.int (nI j))) (.long z)).before args s = true → j < 6 → cell.slots[j]? = some (.long z) := by
    intro j z h hj
    obtain ⟨a2, i2, cell3, p1, p2, p3, p4, p5⟩ := Term.elem_spec (va_eqtl h)
    obtain rfl : fa = a2 := Value.ref.inj (Option.some.inj (ht.symm.trans p1))
    obtain rfl : cell = cell3 := Option.some.inj (hat.symm.trans p3)
    have ei : nI j = i2 := Value.int.inj (Option.some.inj p2)
    rw [← ei, nI_clamp (by omega)] at p5
    exact p5
  refine ⟨fa, c2, ht, (Array.getElem?_eq_some_iff.mp hcell).1, ⟨cell, hcell, g6, ?_, hof.1, hkn⟩, ⟨fun n z => ?_, ?_⟩, g2⟩
  · apply Array.ext_getElem?
    intro j
    by_cases hj : j < 6
    · rw [show (vp_cell c2 (6, .inr (.inl lim0))).slots[j]? = some (.long (lim0 j)) from arrV_read c2 (fun j => .long (lim0 j)) hj]
      rcases (show j = 0 ∨ j = 1 ∨ j = 2 ∨ j = 3 ∨ j = 4 ∨ j = 5 by omega) with rfl | rfl | rfl | rfl | rfl | rfl
      · exact el 0 _ h0 (by omega)
      · exact el 1 _ h1 (by omega)
      · exact el 2 _ h2 (by omega)
      · exact el 3 _ h3 (by omega)
      · exact el 4 _ h4 (by omega)
      · exact el 5 _ h5 (by omega)
    · have hz : (vp_cell c2 (6, .inr (.inl lim0))).slots.size = 6 := arrV_size _ _ _
      rw [Array.getElem?_eq_none (by omega), Array.getElem?_eq_none (by omega)]
  · obtain ⟨-, kA, h2, comp, h3⟩ := hof
    rw [g6] at h2
    exact ⟨fun k h => (by cases h), kA, h2, comp, h3⟩
  · have e : "[" ++ FieldType.long.toString = "[J" := by decide +kernel
    show s.vm.findClass ("[" ++ FieldType.long.toString) = some c2
    rw [e]
    exact g2
theorem va_at0.kept {a : Nat} {cA : ClassId} {x : vp_A} {H H1 : Heap} (h : va_at0 a cA x H) (he : H1[a]? = H[a]?) : va_at0 a cA x H1 := by
  obtain ⟨cell, k1, k2⟩ := h
  exact ⟨cell, he.trans k1, k2⟩
theorem pF_blind {av : List Value} {D : va_G} {q n sz fa : Nat} {cF : ClassId} {lf : Nat → Int64} : FrameBlind (va_Pc av (pF D q n sz fa cF lf)) := fun v U g mk h => ⟨h.1, ⟨h.2.1.1, h.2.1.2.1, va_K.moved (u := U) (U := U.calling g mk v) (Vm.Alike.refl U.vm) h.2.1.2.2.1, h.2.1.2.2.2⟩, nwX_same (u := U) (U := U.calling g mk v) rfl h.2.2.1, va_Z.moved (u := U) (U := U.calling g mk v) (Vm.Alike.refl U.vm) h.2.2.2.1, h.2.2.2.2.1, h.2.2.2.2.2.1, ⟨arrOfT_moved (u := U) (E := U.calling g mk v) (Vm.Alike.refl U.vm) h.2.2.2.2.2.2.1.1, va_RA.moved (u := U) (U := U.calling g mk v) (Vm.Alike.refl U.vm) h.2.2.2.2.2.2.1.2⟩, h.2.2.2.2.2.2.2.1, va_Nw.same (u := U) (U := U.calling g mk v) rfl rfl h.2.2.2.2.2.2.2.2.1, va_AO.moved (u := U) (U := U.calling g mk v) (Vm.Alike.refl U.vm) h.2.2.2.2.2.2.2.2.2⟩
theorem cell_blind {av : List Value} {b L : Nat} {xs : Nat → Int32} : FrameBlind (va_Pc av (fun U => va_X b L xs U U.heap ∧ b < U.heap.size)) := fun v U g mk h => ⟨h.1, va_X.moved (u := U) (U := U.calling g mk v) (Vm.Alike.refl U.vm) h.2.1, h.2.2⟩
theorem va_D.rot {A : Nat → Prop} {x : Nat × va_E} {ws : va_W} (h : va_D A (ws ++ [x])) : va_D A (x :: ws) := by
  have g : ∀ (k : Nat) (q : Nat × va_E), (x :: ws)[k]? = some q → ∃ k', (ws ++ [x])[k']? = some q ∧ ((k = 0 ∧ k' = ws.length) ∨ (k = k' + 1 ∧ k' < ws.length)) := by
    intro k q hk
    cases k with
    | zero => exact ⟨ws.length, by rw [List.getElem?_append_right (Nat.le_refl _), Nat.sub_self]; exact hk, Or.inl ⟨rfl, rfl⟩⟩
    | succ k =>
      have hk2 : ws[k]? = some q := hk
      have hlt := (List.getElem?_eq_some_iff.mp hk2).1
      exact ⟨k, by rw [List.getElem?_append_left hlt]; exact hk2, Or.inr ⟨rfl, hlt⟩⟩
  refine ⟨fun i j p q hi hj e => ?_, fun k q hk => ?_⟩
  · obtain ⟨i', a1, a2⟩ := g i p hi
    obtain ⟨j', b1, b2⟩ := g j q hj
    have := h.1 i' j' p q a1 b1 e
    omega
  · obtain ⟨k', a1, -⟩ := g k q hk
    exact h.2 k' q a1
theorem LW_mk {D : va_G} {cy cm : Nat → ClassId} {a b : Nat → Nat} {n : Nat} {co : ClassId} {o : Nat} {A : Nat → Prop} {S : CS} {M : MS} {f : Nat → Int64} {H : Heap} (hP : va_P D vwCl (wX cy a n S ++ wM cm b n M ++ [(o, .inl (co, 1, .inr (.inl f)))]) H) (hD : va_D A (wX cy a n S ++ wM cm b n M ++ [(o, .inl (co, 1, .inr (.inl f)))])) : LW D cy cm a b n co o A S M f H := by
  refine ⟨fun k q hq => hP k q ?_, fun k q hq => hP ((wX cy a n S).length + k) q ?_, hP.tail1 0 _ rfl, hD.rot⟩
  · rw [List.append_assoc, List.getElem?_append_left (List.getElem?_eq_some_iff.mp hq).1]
    exact hq
  · rw [List.append_assoc, List.getElem?_append_right (by omega), Nat.add_sub_cancel_left, List.getElem?_append_left (List.getElem?_eq_some_iff.mp hq).1]
    exact hq
set_option maxRecDepth 100000 in
theorem nestL_in : ∀ w ∈ nestL, w ∈ lw_tbl := by decide +kernel
set_option maxRecDepth 100000 in
theorem xAL_in : ∀ w ∈ xAL, w ∈ lw_tbl := by decide +kernel
set_option maxRecDepth 100000 in
theorem xDL_in : ∀ w ∈ xDL, w ∈ lw_tbl := by decide +kernel
theorem str_at {s : State} {args : Array Value} {k : Nat} {tx : String} (h1 : (Cond.stringRef RX2 k tx).before args s = true) (h2 : (Cond.exactly (Term.string RX2 k) "java/lang/String").before args s = true) : ∃ sa : Nat, vk_R RX2 k tx sa s := by
  obtain ⟨a, c2, cell2, k2, g1, -⟩ := Cond.exactly_spec h2
  exact ⟨a, vk_R.of h1 g1⟩
/-- all that the walk wants of the start -/
def lwF (s : State) (D : va_G) (fa : Nat) (cF : ClassId) (sa1 sa2 : Nat) : Prop :=
  (∀ (k : Nat) (q : vw_C), vwCl[k]? = some q → u_Kn s q.1 q.2.1 q.2.2 (D.1 k) (D.2 k)) ∧ nwX s ∧ (∀ w ∈ xAL, w.before #[] s = true) ∧ (∀ w ∈ xDL, w.before #[] s = true) ∧ vk_R RX2 69 "there is no such cell" sa1 s ∧ vk_R RX2 103 "the capacity is 0" sa2 s ∧ vx_Zq Bundle.tN "UNASSIGNED_STACK" Bundle.steD (fun q => s.heap.size ≤ q) s s.heap ∧ vx_Zq Bundle.tN "SUPPRESSED_SENTINEL" Bundle.listD (fun q => s.heap.size ≤ q) s s.heap ∧ va_Z RX2 "FIRST_LIMITS" "[J" (.ref fa) (fun q => s.heap.size ≤ q) s s.heap ∧ fa < s.heap.size ∧ va_at0 fa cF (6, .inr (.inl lim0)) s.heap ∧ (ArrOfT s cF .long ∧ va_RA s cF .long) ∧ s.vm.findClass "[J" = some cF ∧ va_Nw (.castable "[J" "java/lang/Cloneable") s ∧ va_AO RX0 s
set_option maxHeartbeats 1000000 in
set_option maxRecDepth 100000 in
theorem lwF_of {s : State} {b : Nat} (hts : ∀ w ∈ lw_tbl, w.before #[Value.ref b] s = true) (hgv : (Jvm.Cond.and given_1 narrow_1).before #[Value.ref b] s = true) : ∃ (D : va_G) (fa : Nat) (cF : ClassId) (sa1 sa2 : Nat), lwF s D fa cF sa1 sa2 := by
  have hs := flat_of_before _ hgv
  have hAn : ∀ q : Nat, q < s.heap.size → ¬ (fun q : Nat => s.heap.size ≤ q) q := fun q h => Nat.not_le.mpr h
  obtain ⟨c0, i0, hK0⟩ := u_known (C := RJx00060) (T := TJx00060) (N := 6) (n := 6) hts inJx00060 (hts (.instantiable RJx00060 6) (by decide +kernel))
  obtain ⟨c1, i1, hK1⟩ := u_known (C := RX0) (T := TX0) (N := 6) (n := 6) hts inX0 (hts (.instantiable RX0 6) (by decide +kernel))
  obtain ⟨c2, i2, hK2⟩ := u_known (C := RX1) (T := TX1) (N := 5) (n := 5) hts inX1 (hts (.instantiable RX1 5) (by decide +kernel))
  obtain ⟨c3, i3, hK3⟩ := u_known (C := RX2) (T := TX2) (N := 8) (n := 8) hts inX2 (hts (.instantiable RX2 8) (by decide +kernel))
  obtain ⟨c4, i4, hK4⟩ := u_known (C := RX3) (T := TX3) (N := 20) (n := 20) hts inX3 (hts (.instantiable RX3 20) (by decide +kernel))
  obtain ⟨fa, cF, ht, hfa, hat, hof, hnm⟩ := lim_at (t := Term.static RX2 "FIRST_LIMITS" "[J") (hs _ (by decide +kernel)) (hs _ (by decide +kernel)) (hs _ (by decide +kernel)) (hs _ (by decide +kernel)) (hs _ (by decide +kernel)) (hs _ (by decide +kernel)) (hs _ (by decide +kernel)) (hs _ (by decide +kernel)) (hs _ (by decide +kernel))
  obtain ⟨sa1, hR1⟩ := str_at (k := 69) (hts (.stringRef RX2 69 "there is no such cell") (by decide +kernel)) (hs _ (by decide +kernel))
  obtain ⟨sa2, hR2⟩ := str_at (k := 103) (hts (.stringRef RX2 103 "the capacity is 0") (by decide +kernel)) (hs _ (by decide +kernel))
  refine ⟨(fun k => if k = 0 then c0 else if k = 1 then c1 else if k = 2 then c2 else if k = 3 then c3 else c4, fun k => if k = 0 then i0 else if k = 1 then i1 else if k = 2 then i2 else if k = 3 then i3 else i4), fa, cF, sa1, sa2, ?_, nwX_of (fun w h => hts w (nestL_in w h)), hat_warm xAL_ok (State.WarmedH.refl s) (fun w h => hts w (xAL_in w h)), hat_warm xDL_ok (State.WarmedH.refl s) (fun w h => hts w (xDL_in w h)), hR1, hR2, vx_Zqof (hts (.laysStatic Bundle.tN "UNASSIGNED_STACK" Bundle.steD) (by decide +kernel)) (hts (.initialized Bundle.tN) (by decide +kernel)) (hs (.isRef (.static Bundle.tN "UNASSIGNED_STACK" Bundle.steD)) (by decide +kernel)) hAn, vx_Zqof (hts (.laysStatic Bundle.tN "SUPPRESSED_SENTINEL" Bundle.listD) (by decide +kernel)) (hts (.initialized Bundle.tN) (by decide +kernel)) (hs (.isRef (.static Bundle.tN "SUPPRESSED_SENTINEL" Bundle.listD)) (by decide +kernel)) hAn, va_Zref (hts (.laysStatic RX2 "FIRST_LIMITS" "[J") (by decide +kernel)) (hts (.initialized RX2) (by decide +kernel)) ht hAn, hfa, hat, hof, hnm, va_Nw.of rfl (hts (.castable "[J" "java/lang/Cloneable") (by decide +kernel)), va_AO.of (A := #[Value.ref b]) (hts (.arrayOver (.object RX0)) (by decide +kernel))⟩
  intro k q hq
  match k, hq with
  | 0, hq => cases hq; exact hK0
  | 1, hq => cases hq; exact hK1
  | 2, hq => cases hq; exact hK2
  | 3, hq => cases hq; exact hK3
  | 4, hq => cases hq; exact hK4
  | k + 5, hq => simp [vwCl] at hq
