/-! the law class's own methods -/
theorem Met_ofWH {l : Launch} {y : MethodName} {ws ws' : List Cond} {rm : Room} {Pc : Array Value → State → Prop} {Qc : Array Value → State → Outcome → State → Prop} {mc ms : Nat} {free : Addr → Prop} {cc : ByteArray} {maxL : Nat} {ret : Option FieldType} {hh : List (Nat × Nat × Nat × Nat)}
    (hy : plainName y.cls = true) (hw : ws = Cond.codeWith y cc maxL ret hh :: ws')
    (body : ∀ p e s m args below meth c s₁, BodyLoose p l y (headSpec ws rm) cc maxL ret e s m args below meth c s₁ → c.maxLocals = maxL → Pc args s →
      W p l e (headSpec ws rm).room s m args below meth c s.heap [] 0 0 (MQ below Qc args s mc ms free) (entryFrame m args maxL)) : Met l y ws rm Pc Qc mc ms free := by
  refine MetFree.of_bodyS (code := cc) (maxLocals := maxL) (ret := ret) hy ?_ ?_
  · intro args s m h hn
    obtain ⟨m9, meth, c, hn9, h1, h2, h3, h4, -, h5, h6, -⟩ := Cond.codeWith_spec (atoms_spec (ws := ws) h _ (by rw [hw]; exact List.mem_cons_self))
    cases hn.symm.trans hn9
    exact ⟨meth, c, h1, h2, h3, h4, h5, h6⟩
  · intro p e s m args below meth c s₁ B hml hP _
    have hh0 : s₁.heap = s.heap := by rw [B.state]; rfl
    obtain ⟨t, a1, o, b1, b2, b3⟩ := body p e s m args below meth c s₁ B hml hP s₁ hh0 (Stand.of_body B)
    exact ⟨t, o, a1, b1, b2, ⟨b3.1, b3.2⟩⟩
theorem va_D.addr {A : Nat → Prop} {ws ws' : va_W} (h : ws'.map Prod.fst = ws.map Prod.fst) (hD : va_D A ws) : va_D A ws' := by
  have g : ∀ (k : Nat) (q : Nat × va_E), ws'[k]? = some q → ∃ q', ws[k]? = some q' ∧ q'.1 = q.1 := by
    intro k q hk
    have h1 : (ws'.map Prod.fst)[k]? = some q.1 := by rw [List.getElem?_map, hk]; rfl
    rw [h, List.getElem?_map] at h1
    cases h2 : ws[k]? with
    | none => rw [h2] at h1; cases h1
    | some q' => rw [h2] at h1; exact ⟨q', rfl, Option.some.inj h1⟩
  refine ⟨fun i j p q hi hj e => ?_, fun k q hk => ?_⟩
  · obtain ⟨p', a1, a2⟩ := g i p hi
    obtain ⟨q', b1, b2⟩ := g j q hj
    exact hD.1 i j p' q' a1 b1 (by rw [a2, b2, e])
  · obtain ⟨q', b1, b2⟩ := g k q hk
    rw [← b2]; exact hD.2 k q' b1
theorem wX_addr (cy : Nat → ClassId) (a : Nat → Nat) (n : Nat) (S S' : CS) : (wX cy a n S').map Prod.fst = (wX cy a n S).map Prod.fst := by
  unfold wX
  rw [List.map_append, List.map_append, List.map_map, List.map_map]
  rfl
theorem wM_addr (cm : Nat → ClassId) (b : Nat → Nat) (n : Nat) (M M' : MS) : (wM cm b n M').map Prod.fst = (wM cm b n M).map Prod.fst := rfl
theorem va_A_tail {e : Nat × va_E} {ws : va_W} {sz q : Nat} (h : va_A ws sz q) : va_A (e :: ws) sz q := by
  rcases h with ⟨k, x, h⟩ | h
  · exact Or.inl ⟨k + 1, x, h⟩
  · exact Or.inr h
/-- a place of the rest isn't the part's -/
theorem va_off {A : Nat → Prop} {D : va_G} {cl : List vw_C} {x : Nat × va_E} {ws : va_W} {H : Heap} (hD : va_D A (x :: ws)) (hx : va_at D cl x H) : ¬ va_A ws H.size x.1 := by
  rintro (⟨k, e, h⟩ | h)
  · exact absurd (hD.1 0 (k + 1) x (x.1, e) rfl h rfl) (by omega)
  · exact absurd hx.lt (by omega)
def wO (co : ClassId) (o : Nat) (f : Nat → Int64) (ws : va_W) : va_W := (o, .inl (co, 1, .inr (.inl f))) :: ws
abbrev tO (co : ClassId) (ts : List (ClassId × FieldType)) : List (ClassId × FieldType) := (co, .long) :: ts
def xAL : List Cond := .classLink RL 13 RJx00060 :: xA
def xDL : List Cond := .classLink RL 19 "java/lang/ArithmeticException" :: xD
theorem xAL_ok : xAL.all (fun w => w.onTables && (w.keeps || w.faceAtom)) = true := by decide +kernel
theorem xDL_ok : xDL.all (fun w => w.onTables && (w.keeps || w.faceAtom)) = true := by decide +kernel
abbrev pO (D : va_G) (cy : Nat → ClassId) (a : Nat → Nat) (n : Nat) (S : CS) (co : ClassId) (o : Nat) (f : Nat → Int64) (sz : Nat) (L : List Cond) (is : Nat) (tx : String) (sa : Nat) (U : State) : Prop := U.heap.size = sz ∧ va_P D vwCl (wO co o f (wX cy a n S)) U.heap ∧ va_K D vwCl (tO co (tX cy)) U ∧ va_D (fun _ => True) (wO co o f (wX cy a n S)) ∧ nwX U ∧ (∀ w ∈ L, w.before #[] U = true) ∧ vk_R RX2 is tx sa U ∧ vx_Zq Bundle.tN "UNASSIGNED_STACK" Bundle.steD (va_A (wO co o f (wX cy a n S)) sz) U U.heap ∧ vx_Zq Bundle.tN "SUPPRESSED_SENTINEL" Bundle.listD (va_A (wO co o f (wX cy a n S)) sz) U U.heap
theorem pO_blind {av : List Value} {D : va_G} {cy : Nat → ClassId} {a : Nat → Nat} {n : Nat} {S : CS} {co : ClassId} {o : Nat} {f : Nat → Int64} {sz : Nat} {L : List Cond} (hL : L.all (fun w => w.onTables && (w.keeps || w.faceAtom)) = true) {is : Nat} {tx : String} {sa : Nat} : FrameBlind (va_Pc av (pO D cy a n S co o f sz L is tx sa)) := fun v U g mk q => ⟨q.1, q.2.1, q.2.2.1, va_K.moved (u := U) (U := U.calling g mk v) (Vm.Alike.refl U.vm) q.2.2.2.1, q.2.2.2.2.1, nwX_same (u := U) (U := U.calling g mk v) rfl q.2.2.2.2.2.1, hat_warm hL (s := U) (U := U.calling g mk v) (State.WarmedH.refl U) q.2.2.2.2.2.2.1, vk_R.same (u := U) (U := U.calling g mk v) rfl q.2.2.2.2.2.2.2.1, vx_Zq.moved (u := U) (U := U.calling g mk v) (Vm.Alike.refl U.vm) q.2.2.2.2.2.2.2.2.1, vx_Zq.moved (u := U) (U := U.calling g mk v) (Vm.Alike.refl U.vm) q.2.2.2.2.2.2.2.2.2⟩
def eO (D : va_G) (cy : Nat → ClassId) (a : Nat → Nat) (n : Nat) (co : ClassId) (o : Nat) (A : Nat → Prop) (u : CS × (Nat → Int64)) (t : State) : Prop := va_P D vwCl (wO co o u.2 (wX cy a n u.1)) t.heap ∧ va_K D vwCl (tO co (tX cy)) t ∧ va_D A (wO co o u.2 (wX cy a n u.1))
def thI (n : Nat) (p : Int32) (cur vo wa : Int64) : Int32 := if sOuts cur vo wa = 0 then (ix n p).elim 1 (fun _ => 0) else 0
theorem thI_1 {n : Nat} {p : Int32} {cur vo wa : Int64} (h : thSx n p cur vo wa) : thI n p cur vo wa = 1 := by
  unfold thI; rw [if_pos h.1, h.2]; rfl
theorem thI_0 {n : Nat} {p : Int32} {cur vo wa : Int64} (h : ¬ thSx n p cur vo wa) : thI n p cur vo wa = 0 := by
  unfold thI
  by_cases h1 : sOuts cur vo wa = 0
  · rw [if_pos h1]
    cases hq : ix n p with
    | none => exact absurd ⟨h1, hq⟩ h
    | some j => rfl
  · rw [if_neg h1]
theorem gSx_th {S : CS} {n : Nat} {p : Int32} {cur vo wa : Int64} (h : thSx n p cur vo wa) : gSx S n p cur vo wa = S := by
  unfold gSx; rw [if_pos h.1, h.2]; rfl
def thJ (S : CS) (n : Nat) (p : Int32) : Int32 := (ix n p).elim 0 (fun _ => if cs_lim S 5 = 0 then 1 else 0)
theorem thJ_1 {S : CS} {n : Nat} {p : Int32} (h : thWx S n p) : thJ S n p = 1 := by
  unfold thJ
  obtain ⟨h1, h2⟩ := h
  cases hq : ix n p with
  | none => rw [hq] at h1; cases h1
  | some j => exact if_pos h2
theorem thJ_0 {S : CS} {n : Nat} {p : Int32} (h : ¬ thWx S n p) : thJ S n p = 0 := by
  unfold thJ
  cases hq : ix n p with
  | none => rfl
  | some j => exact if_neg (fun h2 => h ⟨by rw [hq]; rfl, h2⟩)

set_option maxHeartbeats 1000000 in
set_option maxRecDepth 100000 in
theorem kL_step (l : Launch) (D : va_G) (cy : Nat → ClassId) (a : Nat → Nat) (n : Nat) (S : CS) (co : ClassId) (o : Nat) (f : Nat → Int64) (sz : Nat) (hst : l.stackTraces = false) (sa : Nat) (p0 : Int32) (cur vo wa : Int64) (hn : n ≤ 24) (hf : cs_fc S + 1 < 1024) (hp : cs_pc S ≤ 500) (hc : cs_pc S + 2 * cs_cyc S ≤ 513) (he0 : ∀ j, j < n → okD 1026 (cs_es S j)) : Met l yL_step wsL_step ({ frames := 8, cells := 1, slots := 6, locals := 140 }) (va_Pc [.ref (a 0), .int p0, .long cur, .long vo, .long wa, .ref o] (pO D cy a n S co o f sz xAL 69 "there is no such cell" sa)) (va_Qi (fun r (u : CS × (Nat → Int64)) => r = thI n p0 cur vo wa ∧ u = (gSx S n p0 cur vo wa, if thI n p0 cur vo wa = 0 then va_up f 0 (rSx S n p0 cur vo wa).toInt64 else f)) (eO D cy a n co o (va_A (wO co o f (wX cy a n S)) sz)) (va_A (wO co o f (wX cy a n S)) sz)) 1 6 (va_A (wO co o f (wX cy a n S)) sz) := by
  refine Met_ofWH (cc := cL_step) (maxL := 10) (ret := (some .int)) (hh := [(0, 15, 18, 13)]) (by decide) rfl ?_
  intro p e s m args below meth c s₁ B hml hv
  obtain ⟨rfl, hsz, hP, hK, hD0, hN, hXA, hXR, hXU, hXZ⟩ := hv
  have hx := B.exec
  have hb := B.bytes
  have hr := B.returns
  have hts := atoms_spec (ws := wsL_step) B.pre
  have hown : s.vm.findClass RL = some m.cls := findClass_of_methodNamed B.named
  have hlocks := B.notSynchronized
  have htab := vx_table (x := yL_step) B (hts (.codeWith yL_step cL_step 10 (some .int) [(0, 15, 18, 13)]) List.mem_cons_self)
  subst hsz
  have hD := hD0.self (sz := s.heap.size)
  generalize hAe : va_A (wO co o f (wX cy a n S)) s.heap.size = A at hD hXU hXZ ⊢
  have hA : ∀ q : Nat, s.heap.size ≤ q → A q := fun q h => by rw [← hAe]; exact Or.inr h
  have hsub : ∀ q : Nat, va_A (wX cy a n S) s.heap.size q → A q := fun q h => by rw [← hAe]; exact va_A_tail h
  have hS : va_S A s.heap s.heap [] := va_S.rf
  have hPx : va_P D vwCl (wX cy a n S) s.heap := fun k q hk => hP (k + 1) q hk
  have hKx : va_K D vwCl (tX cy) s := ⟨hK.1, fun k q hk => hK.2 (k + 1) q hk⟩
  have hDx : va_D A (wX cy a n S) := ⟨fun i j p q hi hj e => Nat.succ.inj (hD.1 (i + 1) (j + 1) p q hi hj e), fun k q hk => hD.2 (k + 1) q hk⟩
  have hao : va_at D vwCl (o, .inl (co, 1, .inr (.inl f))) s.heap := hP 0 _ rfl
  have hoff : ¬ va_A (wX cy a n S) s.heap.size o := va_off hD hao
  have hl := lv_entry ([.ref (a 0), .int p0, .long cur, .long vo, .long wa, .ref o]) (n := 10) (Nat.le_of_ble_eq_true rfl)
  rw [lg_entry_eq]
  generalize (lg_sl ([.ref (a 0), .int p0, .long cur, .long vo, .long wa, .ref o]) ++ List.replicate (10 - (lg_sl ([.ref (a 0), .int p0, .long cur, .long vo, .long wa, .ref o])).length) Slot.unset).toArray = ls at hl ⊢
  have hl : lv_has ls 10 [(0, .ref (a 0)), (1, .int p0), (2, .long cur), (4, .long vo), (6, .long wa), (8, .ref o)] := hl
  refine lv_aload hx hb dL_step_0 (lv_at hl 5 rfl) ?_
  refine lv_iconst (v := 0) hx hb dL_step_2 (by decide) ?_
  refine lv_aload_n hx hb dL_step_3 rfl (lv_at hl 0 rfl) ?_
  refine lv_iload_n hx hb dL_step_4 rfl (lv_at hl 1 rfl) ?_
  refine lv_lload_n hx hb dL_step_5 rfl (lv_at hl 2 rfl) ?_
  refine lv_lload hx hb dL_step_6 (lv_at hl 3 rfl) ?_
  refine lv_lload hx hb dL_step_8 (lv_at hl 4 rfl) ?_
  refine vx_calli (vx_runV (As := [.int p0, .long cur, .long vo, .long wa]) (rest := [.int 0, .ref o]) ⟨hx, hb, hml, hown, hts⟩ (kX2_step l D cy a n S s.heap.size hst sa p0 cur vo wa hn hf hp hc he0) (cwV 4 hts gL_step_X2_step rfl rfl rfl (by decide +kernel) ⟨Nat.le_of_ble_eq_true rfl, Nat.le_of_ble_eq_true rfl⟩) ⟨pXx_blind xA_ok, va_recv hK hP (ci := 3) (q0 := 1) rfl rfl, fun U hU hW => ⟨rfl, pX_mk hPx hKx hDx hN hU hW, hat_warm xA_ok hW (fun w hw => hXA w (List.mem_cons_of_mem _ hw)), vk_R.warm hW hXR, by rw [hU]; exact (hXU.narrow hsub).moved hW.alike, by rw [hU]; exact (hXZ.narrow hsub).moved hW.alike⟩⟩ rfl rfl hl.1 rfl (lv_room (Nat.le_of_ble_eq_true rfl)) dL_step_10 ⟨Nat.le_of_ble_eq_true rfl, Nat.le_of_ble_eq_true rfl⟩) hS (fun q _ h => hsub q h) hsub (fun q _ h => hsub q h) ?_ ?_
  · rintro E ce q9 u t H1 locs1 ht hvm ⟨hu, hth⟩ ⟨rfl, hP1, hK1, hD1⟩ hz hk hS hcell hcv hcl
    obtain rfl : S = u := hu.symm
    rw [ht] at hP1
    refine vx_catch hown [] ⟨0, 15, 18, 13⟩ [] htab (fun z hz => absurd hz List.not_mem_nil) (by decide) (by decide) (hat_warm xAL_ok (State.WarmedH.refl s) hXA _ List.mem_cons_self) (hat_warm xAL_ok (State.WarmedH.refl s) hXA (.castable RJx00060 RJx00060) (by decide +kernel)) hcell hcv hcl ?_
    have hao1 : va_at D vwCl (o, .inl (co, 1, .inr (.inl f))) H1 := hao.kept (hk o hao.lt hoff)
    have hP2 : va_P D vwCl (wO co o f (wX cy a n S)) H1 := fun k q hq => by
      cases k with
      | zero => cases hq; exact hao1
      | succ k => exact hP1 k q hq
    have hK2 : va_K D vwCl (tO co (tX cy)) t := va_K.moved hvm hK
    refine lv_astore (lv' := [(9, .ref q9), (0, .ref (a 0)), (1, .int p0), (2, .long cur), (4, .long vo), (6, .long wa), (8, .ref o)]) hx hb dL_step_18 hl (by decide) rfl (fun ls hl => ?_)
    refine lv_iconst (v := 1) hx hb dL_step_20 (by decide) ?_
    exact W.iret (v := 1) hx hb hr (fun t2 ht2 hW => ⟨⟨1, (gSx S n p0 cur vo wa, f), rfl, ⟨by rw [thI_1 hth], by rw [thI_1 hth]; rfl⟩, by unfold eO; rw [ht2]; rw [gSx_th hth]; exact ⟨hP2, va_K.moved hW.alike hK, hD⟩⟩, hS.F ht2⟩) hS.2.2 dL_step_21
  · rintro r u t H1 locs1 ht hvm ⟨rfl, hu, hnt⟩ ⟨hP1, hK1, hD1⟩ hz hk hS
    obtain rfl : gSx S n p0 cur vo wa = u := hu.symm
    rw [ht] at hP1
    have hao1 : va_at D vwCl (o, .inl (co, 1, .inr (.inl f))) H1 := hao.kept (hk o hao.lt hoff)
    have hP : va_P D vwCl (wO co o f (wX cy a n (gSx S n p0 cur vo wa))) H1 := fun k q hq => by
      cases k with
      | zero => cases hq; exact hao1
      | succ k => exact hP1 k q hq
    have hD : va_D A (wO co o f (wX cy a n (gSx S n p0 cur vo wa))) := va_D.addr (by show o :: _ = o :: _; rw [wX_addr cy a n S]) hD
    refine lv_i2l hx hb dL_step_13 rfl ?_
    refine rs_l (f := f) hx hb hK hP hD hS 0 0 rfl rfl 0 rfl (by decide) (by decide) dL_step_14 (fun H2 locs2 hP hD hS => ?_)
    have hP : va_P D vwCl (wO co o (va_up f 0 (rSx S n p0 cur vo wa).toInt64) (wX cy a n (gSx S n p0 cur vo wa))) H2 := hP
    have hD : va_D A (wO co o (va_up f 0 (rSx S n p0 cur vo wa).toInt64) (wX cy a n (gSx S n p0 cur vo wa))) := hD
    refine lv_goto (tgt := 22) hx hb dL_step_15 (by decide) ?_
    refine lv_iconst (v := 0) hx hb dL_step_22 (by decide) ?_
    exact W.iret (v := 0) hx hb hr (fun t2 ht2 hW => ⟨⟨0, (gSx S n p0 cur vo wa, va_up f 0 (rSx S n p0 cur vo wa).toInt64), rfl, ⟨by rw [thI_0 hnt], by rw [thI_0 hnt]; rfl⟩, by unfold eO; rw [ht2]; exact ⟨hP, va_K.moved hW.alike hK, hD⟩⟩, hS.F ht2⟩) hS.2.2 dL_step_23
set_option maxHeartbeats 1000000 in
set_option maxRecDepth 100000 in
theorem kL_whole (l : Launch) (D : va_G) (cy : Nat → ClassId) (a : Nat → Nat) (n : Nat) (S : CS) (co : ClassId) (o : Nat) (f : Nat → Int64) (sz : Nat) (hst : l.stackTraces = false) (sa : Nat) (p0 p1 : Int32) (hn : n ≤ 24) : Met l yL_whole wsL_whole ({ frames := 8, cells := 1, slots := 6, locals := 140 }) (va_Pc [.ref (a 0), .int p0, .int p1, .ref o] (pO D cy a n S co o f sz xDL 103 "the capacity is 0" sa)) (va_Qi (fun r (u : CS × (Nat → Int64)) => r = thJ S n p0 ∧ u = (S, if thJ S n p0 = 0 then va_up f 0 (rWx S n p0 p1) else f)) (eO D cy a n co o (va_A (wO co o f (wX cy a n S)) sz)) (va_A (wO co o f (wX cy a n S)) sz)) 1 6 (va_A (wO co o f (wX cy a n S)) sz) := by
  refine Met_ofWH (cc := cL_whole) (maxL := 5) (ret := (some .int)) (hh := [(0, 9, 12, 19)]) (by decide) rfl ?_
  intro p e s m args below meth c s₁ B hml hv
  obtain ⟨rfl, hsz, hP, hK, hD0, hN, hXA, hXR, hXU, hXZ⟩ := hv
  have hx := B.exec
  have hb := B.bytes
  have hr := B.returns
  have hts := atoms_spec (ws := wsL_whole) B.pre
  have hown : s.vm.findClass RL = some m.cls := findClass_of_methodNamed B.named
  have hlocks := B.notSynchronized
  have htab := vx_table (x := yL_whole) B (hts (.codeWith yL_whole cL_whole 5 (some .int) [(0, 9, 12, 19)]) List.mem_cons_self)
  subst hsz
  have hD := hD0.self (sz := s.heap.size)
  generalize hAe : va_A (wO co o f (wX cy a n S)) s.heap.size = A at hD hXU hXZ ⊢
  have hA : ∀ q : Nat, s.heap.size ≤ q → A q := fun q h => by rw [← hAe]; exact Or.inr h
  have hsub : ∀ q : Nat, va_A (wX cy a n S) s.heap.size q → A q := fun q h => by rw [← hAe]; exact va_A_tail h
  have hS : va_S A s.heap s.heap [] := va_S.rf
  have hPx : va_P D vwCl (wX cy a n S) s.heap := fun k q hk => hP (k + 1) q hk
  have hKx : va_K D vwCl (tX cy) s := ⟨hK.1, fun k q hk => hK.2 (k + 1) q hk⟩
  have hDx : va_D A (wX cy a n S) := ⟨fun i j p q hi hj e => Nat.succ.inj (hD.1 (i + 1) (j + 1) p q hi hj e), fun k q hk => hD.2 (k + 1) q hk⟩
  have hao : va_at D vwCl (o, .inl (co, 1, .inr (.inl f))) s.heap := hP 0 _ rfl
  have hoff : ¬ va_A (wX cy a n S) s.heap.size o := va_off hD hao
  have hl := lv_entry ([.ref (a 0), .int p0, .int p1, .ref o]) (n := 5) (Nat.le_of_ble_eq_true rfl)
  rw [lg_entry_eq]
  generalize (lg_sl ([.ref (a 0), .int p0, .int p1, .ref o]) ++ List.replicate (5 - (lg_sl ([.ref (a 0), .int p0, .int p1, .ref o])).length) Slot.unset).toArray = ls at hl ⊢
  have hl : lv_has ls 5 [(0, .ref (a 0)), (1, .int p0), (2, .int p1), (3, .ref o)] := hl
  refine lv_aload_n hx hb dL_whole_0 rfl (lv_at hl 3 rfl) ?_
  refine lv_iconst (v := 0) hx hb dL_whole_1 (by decide) ?_
  refine lv_aload_n hx hb dL_whole_2 rfl (lv_at hl 0 rfl) ?_
  refine lv_iload_n hx hb dL_whole_3 rfl (lv_at hl 1 rfl) ?_
  refine lv_iload_n hx hb dL_whole_4 rfl (lv_at hl 2 rfl) ?_
  refine vx_calll (vx_runV (As := [.int p0, .int p1]) (rest := [.int 0, .ref o]) ⟨hx, hb, hml, hown, hts⟩ (kX2_whole l D cy a n S s.heap.size hst sa p0 p1 hn) (cwV 2 hts gL_whole_X2_whole rfl rfl rfl (by decide +kernel) ⟨Nat.le_of_ble_eq_true rfl, Nat.le_of_ble_eq_true rfl⟩) ⟨pXx_blind xD_ok, va_recv hK hP (ci := 3) (q0 := 1) rfl rfl, fun U hU hW => ⟨rfl, pX_mk hPx hKx hDx hN hU hW, hat_warm xD_ok hW (fun w hw => hXA w (List.mem_cons_of_mem _ hw)), vk_R.warm hW hXR, by rw [hU]; exact (hXU.narrow hsub).moved hW.alike, by rw [hU]; exact (hXZ.narrow hsub).moved hW.alike⟩⟩ rfl rfl hl.1 rfl (lv_room (Nat.le_of_ble_eq_true rfl)) dL_whole_5 ⟨Nat.le_of_ble_eq_true rfl, Nat.le_of_ble_eq_true rfl⟩) hS (fun q _ h => hsub q h) hsub (fun q _ h => hsub q h) ?_ ?_
  · rintro E ce q9 u t H1 locs1 ht hvm ⟨hu, hth⟩ ⟨rfl, hP1, hK1, hD1⟩ hz hk hS hcell hcv hcl
    obtain rfl : S = u := hu.symm
    rw [ht] at hP1
    refine vx_catch hown [] ⟨0, 9, 12, 19⟩ [] htab (fun z hz => absurd hz List.not_mem_nil) (by decide) (by decide) (hat_warm xDL_ok (State.WarmedH.refl s) hXA _ List.mem_cons_self) (hat_warm xDL_ok (State.WarmedH.refl s) hXA (.castable "java/lang/ArithmeticException" "java/lang/ArithmeticException") (by decide +kernel)) hcell hcv hcl ?_
    have hao1 : va_at D vwCl (o, .inl (co, 1, .inr (.inl f))) H1 := hao.kept (hk o hao.lt hoff)
    have hP2 : va_P D vwCl (wO co o f (wX cy a n S)) H1 := fun k q hq => by
      cases k with
      | zero => cases hq; exact hao1
      | succ k => exact hP1 k q hq
    have hK2 : va_K D vwCl (tO co (tX cy)) t := va_K.moved hvm hK
    refine lv_astore (lv' := [(4, .ref q9), (0, .ref (a 0)), (1, .int p0), (2, .int p1), (3, .ref o)]) hx hb dL_whole_12 hl (by decide) rfl (fun ls hl => ?_)
    refine lv_iconst (v := 1) hx hb dL_whole_14 (by decide) ?_
    exact W.iret (v := 1) hx hb hr (fun t2 ht2 hW => ⟨⟨1, (S, f), rfl, ⟨by rw [thJ_1 hth], by rw [thJ_1 hth]; rfl⟩, by unfold eO; rw [ht2]; exact ⟨hP2, va_K.moved hW.alike hK, hD⟩⟩, hS.F ht2⟩) hS.2.2 dL_whole_15
  · rintro r u t H1 locs1 ht hvm ⟨rfl, hu, hnt⟩ ⟨hP1, hK1, hD1⟩ hz hk hS
    obtain rfl : S = u := hu.symm
    rw [ht] at hP1
    have hao1 : va_at D vwCl (o, .inl (co, 1, .inr (.inl f))) H1 := hao.kept (hk o hao.lt hoff)
    have hP : va_P D vwCl (wO co o f (wX cy a n (S))) H1 := fun k q hq => by
      cases k with
      | zero => cases hq; exact hao1
      | succ k => exact hP1 k q hq
    have hD : va_D A (wO co o f (wX cy a n (S))) := va_D.addr (by show o :: _ = o :: _; rw [wX_addr cy a n S]) hD
    refine rs_l (f := f) hx hb hK hP hD hS 0 0 rfl rfl 0 rfl (by decide) (by decide) dL_whole_8 (fun H2 locs2 hP hD hS => ?_)
    have hP : va_P D vwCl (wO co o (va_up f 0 (rWx S n p0 p1)) (wX cy a n (S))) H2 := hP
    have hD : va_D A (wO co o (va_up f 0 (rWx S n p0 p1)) (wX cy a n (S))) := hD
    refine lv_goto (tgt := 16) hx hb dL_whole_9 (by decide) ?_
    refine lv_iconst (v := 0) hx hb dL_whole_16 (by decide) ?_
    exact W.iret (v := 0) hx hb hr (fun t2 ht2 hW => ⟨⟨0, (S, va_up f 0 (rWx S n p0 p1)), rfl, ⟨by rw [thJ_0 hnt], by rw [thJ_0 hnt]; rfl⟩, by unfold eO; rw [ht2]; exact ⟨hP, va_K.moved hW.alike hK, hD⟩⟩, hS.F ht2⟩) hS.2.2 dL_whole_17
