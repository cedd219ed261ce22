/-! THE CLAIM OUT OF ONE WALK OF THE LAW'S BODY. Your part is whole_start (and what it stands on); all else here is the same for every law, but numbers. -/
def R_law : String := "CellRows2Law"
def lw_P (b : Addr) (xs : List Int32) (args : Array Value) (s : State) : Prop := args = #[.ref b] ∧ s.IntsAt b xs ∧ xs.length ≤ 4097 ∧ (Jvm.Cond.and given_1 narrow_1).before args s = true
/-- what a walk over the start with the record d0 says of its end, said of the start itself -/
theorem lw_closed {s t : State} {o : Outcome} {d0 : Drawn} {L : List Loc} {k n : Nat} (hd0 : s.drawn.sameBut d0 lw_cs) (hv : ∃ v, o = .returned v) (hW : (s.setDrawn d0).WarmedH t.vm) (hs : (s.setDrawn d0).sameButNew ({ t with vm := s.vm } : State) L k n) : State.butDraws s t lw_cs (fun t1 => Framed s o t1 L k n) := by
  have h2 : t.drawn = d0 := congrArg State.drawn hs.1
  refine ⟨⟨hv, hW, State.sameButNew.setDrawn hs s.drawn⟩, ?_, by decide⟩
  rw [h2]
  exact hd0
def lw_Q (_ : Array Value) (s : State) (o : Outcome) (t : State) : Prop := o = .returned (some (.int 1)) ∧ State.butDraws s t lw_cs (fun t1 => Framed s o t1 [] 601024 7293000)
def lw_Z (below : List Frame) (a : Array Value) (s : State) : State → Prop := fun t => ∃ o, t.status = .running ∧ Ended t below o ∧ lw_Q a s o t
/-- the law's own end, with 1 on the stack, nothing written that was there before, its room as the claim has it; d0: the record of draws at this point (at the entry s.drawn: begin with 'refine W.base ?_' and 'have hd0 := Drawn.sameBut.refl s.drawn lw_cs') -/
theorem lw_ret {p : Program} {l : Launch} {e : Env} {s : State} {m : MethodId} {below : List Frame} {meth : Method} {c : Code} {b : Nat} {d0 : Drawn} (hd0 : s.drawn.sameBut d0 lw_cs) (hx : p.tables.exec = Jvm.exec) (hb : c.code = code) (hr : meth.sig.returnType = ret) (hlocks : meth.locks = false) {pc : Nat} {H : Heap} {ls : Array Slot} (hdg : decode code pc = .ok (.ireturn, 1)) : W p l e room_1 (s.setDrawn d0) m #[Value.ref b] below meth c H [] 601024 7293000 (lw_Z below #[Value.ref b] s) (F0 m pc ls [.int 1]) := by
  intro T hT X
  obtain ⟨fs, hret, hrun, hended, hW, hframe⟩ := X.leave (v := some (.int 1)) (hlocks := hlocks) (fun h => by rw [hr] at h; cases h)
  have hmeth' : T.vm.method? m = some meth := X.method'
  refine ⟨T.setFrames fs, ?_, .returned (some (.int 1)), hrun, hended, rfl, lw_closed hd0 ⟨_, rfl⟩ hW hframe⟩
  jvm_step X.here [X.here.top, hx, hb, hdg, hmeth', hr, ret, narrow_b1]
  (try refine ⟨rfl, ?_⟩); (try refine ⟨rfl, ?_⟩)
  first | (intro acts; rw [hret _ acts rfl rfl rfl]) | rw [hret _ _ rfl rfl rfl]
  exact Steps.refl _
/-- what holds at the law's entry: the machine, the code, the tables' words (any of lw_tbl by 'hts w (by decide +kernel)'), the script of L ints xs at the cell b, what the Statement gives of the start (any of its parts by flat_of_before) -/
def lw_At (p : Program) (s : State) (m : MethodId) (meth : Method) (c : Code) (b L : Nat) (xs : Nat → Int32) : Prop :=
  p.tables.exec = Jvm.exec ∧ c.code = code ∧ meth.sig.returnType = ret ∧ c.maxLocals = 9 ∧ s.vm.findClass R_law = some m.cls ∧ (∀ w ∈ lw_tbl, w.before #[Value.ref b] s = true) ∧ va_X b L xs s s.heap ∧ b < s.heap.size ∧ meth.locks = false ∧ (Jvm.Cond.and given_1 narrow_1).before #[Value.ref b] s = true
theorem lw_bnd {i L : Nat} (hi : i ≤ 5000) (hL : L ≤ 4097) (h : ¬ nI L - 8 < nI i) : i + 8 ≤ L := by
  have e8 : (8 : Int32).toInt = 8 := rfl
  rw [Int32.lt_iff_toInt_lt, Int32.toInt_sub, nI_toInt (by omega), nI_toInt (by omega), e8, Int.bmod_eq_of_le (by omega) (by omega)] at h
  omega
section LOOPL
variable {p : Program} {e : Env} {s : State} {m : MethodId} {below : List Frame} {meth : Method} {c : Code} {b L : Nat} {xs : Nat → Int32} {D : va_G} {cy cm : Nat → ClassId} {a bb : Nat → Nat} {n : Nat} {co : ClassId} {o sa1 sa2 k cells slots : Nat} {H : Heap} {locs : List Loc} {ls : Array Slot}
set_option maxRecDepth 100000 in
/-- the loop's head: out, with 1; or in -/
theorem law_top (l : Launch) (hr : meth.sig.returnType = ret) (hlocks : meth.locks = false) (C0 : lwB p l s m c b L xs D cy cm co sa1 sa2) (hk : k ≤ 512) (hcl : cells ≤ 600000) (hsl : slots ≤ 7000000) (hS : va_S (fun q => s.heap.size ≤ q) s.heap H locs) (hl : lv_has ls 9 (lvL b (a 0) (bb 0) o (1 + 8 * k))) (K : 1 + 8 * k + 8 ≤ L → W p l e room_1 s m #[Value.ref b] below meth c H locs cells slots (lw_Z below #[Value.ref b] s) (F0 m 43 ls [])) : W p l e room_1 s m #[Value.ref b] below meth c H locs cells slots (lw_Z below #[Value.ref b] s) (F0 m 33 ls []) := by
  obtain ⟨hx, hb, hml, hown, hts, hX, hbl, hK1, hK2, hN, hXA, hXD, hR1, hR2, hXU, hXZ, hst, hL⟩ := C0
  refine lv_iload hx hb dL_law_33 (lv_at hl 0 rfl) ?_
  refine lv_aload_n hx hb dL_law_35 rfl (lv_at hl 4 rfl) ?_
  refine va_slen (A := fun q => s.heap.size ≤ q) hx hb hX hbl (Nat.not_le.mpr hbl) hS dL_law_36 ?_
  refine lv_bipush (v := 8) hx hb dL_law_37 (by decide) ?_
  refine lv_isub hx hb dL_law_39 ?_
  refine ib_gt (tgt := 765) hx hb dL_law_40 (by decide) (fun h_1 => ?_) (fun h_1 => K (lw_bnd (by omega) hL h_1))
  refine lv_iconst (v := 1) hx hb dL_law_765 (by decide) ?_
  refine va_forget (fun q hq => hS.2.2 q hq) ?_
  refine W.widen (k := 601024) (n := 7293000) (by omega) (by omega) ?_
  refine W.base ?_
  exact lw_ret (Drawn.sameBut.refl s.drawn lw_cs) hx hb hr hlocks dL_law_766
set_option maxHeartbeats 1000000 in
set_option maxRecDepth 100000 in
/-- one turn: the op, its call, pc 759 -/
theorem law_turn {Q : State → Prop} {S : CS} {M : MS} {f : Nat → Int64} {i : Nat} (l : Launch) (C0 : lwB p l s m c b L xs D cy cm co sa1 sa2) (hn1 : 1 ≤ n) (hn : n ≤ 24) (hk : k ≤ 511) (hi : i + 8 ≤ L) (hcl : cells + 1 ≤ 601024) (hsl : slots + 6 ≤ 7293000) (hR : Rel n S M k) (hw : LW D cy cm a bb n co o (fun q => s.heap.size ≤ q) S M f H) (hS : va_S (fun q => s.heap.size ≤ q) s.heap H locs) (hl : lv_has ls 9 (lvL b (a 0) (bb 0) o i)) (J : lwJ p l e s m below meth c b D cy cm a bb n co o i (k + 1) (cells + 1) (slots + 6) Q) : W p l e room_1 s m #[Value.ref b] below meth c H locs cells slots Q (F0 m 43 ls []) := by
  obtain ⟨hx, hb, hml, hown, hts, hX, hbl, hK1, hK2, hN, hXA, hXD, hR1, hR2, hXU, hXZ, hst, hL⟩ := id C0
  refine lv_aload_n hx hb dL_law_43 rfl (lv_at hl 4 rfl) ?_
  refine lv_iload hx hb dL_law_44 (lv_at hl 0 rfl) ?_
  refine va_sld (A := fun q => s.heap.size ≤ q) hx hb hX hbl (Nat.not_le.mpr hbl) hS (vp_in_nI (by omega) (by omega)) dL_law_46 ?_
  refine lv_bipush (v := 15) hx hb dL_law_47 (by decide) ?_
  refine lv_iand hx hb dL_law_49 ?_
  refine lv_topi (fun v hv => ?_)
  clear hv
  by_cases c1 : v.toInt < 0 ∨ 12 < v.toInt
  · refine lv_tableOut (tgt := 759) hx hb dL_law_50 c1 (by decide) ?_
    refine W.widen (k := cells + 1) (n := slots + 6) (by omega) (by omega) ?_
    exact J _ _ _ _ _ _ hR.mono hw hS hl
  · obtain ⟨j, hj, rfl⟩ := nI_of2 (x := v) (M := 12) (n := 12) rfl (fun q => c1 (Or.inl (Int32.lt_iff_toInt_lt.mp q))) (Int32.le_iff_toInt_le.mpr (by have e12 : (12 : Int32).toInt = 12 := rfl; omega))
    clear c1
    rcases (show j = 0 ∨ j = 1 ∨ j = 2 ∨ j = 3 ∨ j = 4 ∨ j = 5 ∨ j = 6 ∨ j = 7 ∨ j = 8 ∨ j = 9 ∨ j = 10 ∨ j = 11 ∨ j = 12 by omega) with rfl | rfl | rfl | rfl | rfl | rfl | rfl | rfl | rfl | rfl | rfl | rfl | rfl
    · refine lv_tableIn (off := 66) (tgt := 116) hx hb dL_law_50 (by decide) (by decide) (by decide) (by decide) ?_
      exact kc_0 l C0 hn1 hn hk hi hcl hsl hR hw hS hl J
    · refine lv_tableIn (off := 258) (tgt := 308) hx hb dL_law_50 (by decide) (by decide) (by decide) (by decide) ?_
      exact kc_1 l C0 hn1 hn hk hi hcl hsl hR hw hS hl J
    · refine lv_tableIn (off := 284) (tgt := 334) hx hb dL_law_50 (by decide) (by decide) (by decide) (by decide) ?_
      exact kc_2 l C0 hn1 hn hk hi hcl hsl hR hw hS hl J
    · refine lv_tableIn (off := 337) (tgt := 387) hx hb dL_law_50 (by decide) (by decide) (by decide) (by decide) ?_
      exact kc_3 l C0 hn1 hn hk hi hcl hsl hR hw hS hl J
    · refine lv_tableIn (off := 404) (tgt := 454) hx hb dL_law_50 (by decide) (by decide) (by decide) (by decide) ?_
      exact kc_4 l C0 hn1 hn hk hi hcl hsl hR hw hS hl J
    · refine lv_tableIn (off := 445) (tgt := 495) hx hb dL_law_50 (by decide) (by decide) (by decide) (by decide) ?_
      exact kc_5 l C0 hn1 hn hk hi hcl hsl hR hw hS hl J
    · refine lv_tableIn (off := 470) (tgt := 520) hx hb dL_law_50 (by decide) (by decide) (by decide) (by decide) ?_
      exact kc_6 l C0 hn1 hn hk hi hcl hsl hR hw hS hl J
    · refine lv_tableIn (off := 539) (tgt := 589) hx hb dL_law_50 (by decide) (by decide) (by decide) (by decide) ?_
      exact kc_7 l C0 hn1 hn hk hi hcl hsl hR hw hS hl J
    · refine lv_tableIn (off := 552) (tgt := 602) hx hb dL_law_50 (by decide) (by decide) (by decide) (by decide) ?_
      exact kc_8 l C0 hn1 hn hk hi hcl hsl hR hw hS hl J
    · refine lv_tableIn (off := 609) (tgt := 659) hx hb dL_law_50 (by decide) (by decide) (by decide) (by decide) ?_
      exact kc_9 l C0 hn1 hn hk hi hcl hsl hR hw hS hl J
    · refine lv_tableIn (off := 634) (tgt := 684) hx hb dL_law_50 (by decide) (by decide) (by decide) (by decide) ?_
      exact kc_10 l C0 hn1 hn hk hi hcl hsl hR hw hS hl J
    · refine lv_tableIn (off := 671) (tgt := 721) hx hb dL_law_50 (by decide) (by decide) (by decide) (by decide) ?_
      exact kc_11 l C0 hn1 hn hk hi hcl hsl hR hw hS hl J
    · refine lv_tableIn (off := 684) (tgt := 734) hx hb dL_law_50 (by decide) (by decide) (by decide) (by decide) ?_
      exact kc_12 l C0 hn1 hn hk hi hcl hsl hR hw hS hl J
set_option maxRecDepth 100000 in
/-- the loop -/
theorem law_loop (l : Launch) (hr : meth.sig.returnType = ret) (hlocks : meth.locks = false) (C0 : lwB p l s m c b L xs D cy cm co sa1 sa2) (hn1 : 1 ≤ n) (hn : n ≤ 24) : ∀ (fuel k : Nat), k + fuel = 512 → ∀ (S : CS) (M : MS) (f : Nat → Int64) (H : Heap) (locs : List Loc) (ls : Array Slot) (cells slots : Nat), cells ≤ 100 + k → slots ≤ 8000 + 6 * k → Rel n S M k → LW D cy cm a bb n co o (fun q => s.heap.size ≤ q) S M f H → va_S (fun q => s.heap.size ≤ q) s.heap H locs → lv_has ls 9 (lvL b (a 0) (bb 0) o (1 + 8 * k)) → W p l e room_1 s m #[Value.ref b] below meth c H locs cells slots (lw_Z below #[Value.ref b] s) (F0 m 33 ls [])
  | 0, k, hf, S, M, f, H, locs, ls, cells, slots, hcl, hsl, hR, hw, hS, hl => law_top l hr hlocks C0 (by omega) (by omega) (by omega) hS hl (fun q => by
      have hL : L ≤ 4097 := C0.2.2.2.2.2.2.2.2.2.2.2.2.2.2.2.2.2
      omega)
  | fuel + 1, k, hf, S, M, f, H, locs, ls, cells, slots, hcl, hsl, hR, hw, hS, hl => law_top l hr hlocks C0 (by omega) (by omega) (by omega) hS hl (fun q => law_turn l C0 hn1 hn (by omega) q (by omega) (by omega) hR hw hS hl (fun S1 M1 f1 H1 locs1 ls1 hR1 hw1 hS1 hl1 => by
      have hx := C0.1
      have hb := C0.2.1
      refine lv_iinc (v := nI (1 + 8 * (k + 1))) (lv' := lvL b (a 0) (bb 0) o (1 + 8 * (k + 1))) hx hb dL_law_759 hl1 (k := 0) rfl (by show nI (1 + 8 * k) + nI 8 = _; rw [nI_add]; exact congrArg nI (by omega)) (by decide) rfl (fun ls2 hl2 => ?_)
      refine lv_goto (tgt := 33) hx hb dL_law_762 (by decide) ?_
      exact law_loop l hr hlocks C0 hn1 hn fuel (k + 1) (by omega) S1 M1 f1 H1 locs1 ls2 (cells + 1) (slots + 6) (by omega) (by omega) hR1 hw1 hS1 hl2))
end LOOPL
