section
-- ===== PART A: goes FIRST, ahead of the names: the tables' words, and 'selects' of the private methods out of them =====
/-- a private method of a class that the tables say can be made, by its rows of tables_1 -/
def lw_okq (q : MethodName × Nat) : Prop := (q.1.cls ≠ "java/lang/invoke/MethodHandle" ∧ q.1.cls ≠ "java/lang/invoke/VarHandle") ∧ Cond.instantiable q.1.cls q.2 ∈ tables_1 ∧ Cond.privateMethod q.1 ∈ tables_1 ∧ Cond.instanceMethod q.1 ∈ tables_1
theorem lw_p0 : lw_okq (⟨"CellRows2$Turns", "follow", "(J)V"⟩, 5) := ⟨⟨by decide +kernel, by decide +kernel⟩, List.mem_of_getElem? (i := 65) (by decide +kernel), List.mem_of_getElem? (i := 94) (by decide +kernel), List.mem_of_getElem? (i := 95) (by decide +kernel)⟩
theorem lw_p1 : lw_okq (⟨"CellRows2$Turns", "goesOn", "(J)Z"⟩, 5) := ⟨⟨by decide +kernel, by decide +kernel⟩, List.mem_of_getElem? (i := 65) (by decide +kernel), List.mem_of_getElem? (i := 98) (by decide +kernel), List.mem_of_getElem? (i := 99) (by decide +kernel)⟩
theorem lw_p2 : lw_okq (⟨"CellRows2$Turns", "takeCyclesOut", "()V"⟩, 5) := ⟨⟨by decide +kernel, by decide +kernel⟩, List.mem_of_getElem? (i := 65) (by decide +kernel), List.mem_of_getElem? (i := 102) (by decide +kernel), List.mem_of_getElem? (i := 103) (by decide +kernel)⟩
theorem lw_p3 : lw_okq (⟨"CellRows2$Turns", "keepCycle", "(JJ)V"⟩, 5) := ⟨⟨by decide +kernel, by decide +kernel⟩, List.mem_of_getElem? (i := 65) (by decide +kernel), List.mem_of_getElem? (i := 112) (by decide +kernel), List.mem_of_getElem? (i := 113) (by decide +kernel)⟩
theorem lw_p4 : lw_okq (⟨"CellRows2", "cellOf", "(I)LCellRows2$Cell;"⟩, 8) := ⟨⟨by decide +kernel, by decide +kernel⟩, List.mem_of_getElem? (i := 13) (by decide +kernel), List.mem_of_getElem? (i := 145) (by decide +kernel), List.mem_of_getElem? (i := 146) (by decide +kernel)⟩
theorem lw_p5 : lw_okq (⟨"CellRows2", "closeNextContactor", "()I"⟩, 8) := ⟨⟨by decide +kernel, by decide +kernel⟩, List.mem_of_getElem? (i := 13) (by decide +kernel), List.mem_of_getElem? (i := 157) (by decide +kernel), List.mem_of_getElem? (i := 158) (by decide +kernel)⟩
theorem lw_p6 : lw_okq (⟨"CellRows2", "noteFault", "(I)V"⟩, 8) := ⟨⟨by decide +kernel, by decide +kernel⟩, List.mem_of_getElem? (i := 13) (by decide +kernel), List.mem_of_getElem? (i := 161) (by decide +kernel), List.mem_of_getElem? (i := 162) (by decide +kernel)⟩
theorem lw_p7 : lw_okq (⟨"CellRows2", "isStuck", "(I)Z"⟩, 8) := ⟨⟨by decide +kernel, by decide +kernel⟩, List.mem_of_getElem? (i := 13) (by decide +kernel), List.mem_of_getElem? (i := 165) (by decide +kernel), List.mem_of_getElem? (i := 166) (by decide +kernel)⟩
theorem lw_p8 : lw_okq (⟨"CellRows2", "mayBleed", "(LCellRows2$Cell;)Z"⟩, 8) := ⟨⟨by decide +kernel, by decide +kernel⟩, List.mem_of_getElem? (i := 13) (by decide +kernel), List.mem_of_getElem? (i := 173) (by decide +kernel), List.mem_of_getElem? (i := 174) (by decide +kernel)⟩
theorem lw_p9 : lw_okq (⟨"CellRows2", "leastVoltage", "()J"⟩, 8) := ⟨⟨by decide +kernel, by decide +kernel⟩, List.mem_of_getElem? (i := 13) (by decide +kernel), List.mem_of_getElem? (i := 177) (by decide +kernel), List.mem_of_getElem? (i := 178) (by decide +kernel)⟩
theorem lw_p10 : lw_okq (⟨"CellRows2", "bleedingCells", "()I"⟩, 8) := ⟨⟨by decide +kernel, by decide +kernel⟩, List.mem_of_getElem? (i := 13) (by decide +kernel), List.mem_of_getElem? (i := 184) (by decide +kernel), List.mem_of_getElem? (i := 185) (by decide +kernel)⟩
theorem lw_p11 : lw_okq (⟨"CellRows2", "greatestWarmth", "()J"⟩, 8) := ⟨⟨by decide +kernel, by decide +kernel⟩, List.mem_of_getElem? (i := 13) (by decide +kernel), List.mem_of_getElem? (i := 218) (by decide +kernel), List.mem_of_getElem? (i := 219) (by decide +kernel)⟩
theorem lw_p12 : lw_okq (⟨"java/lang/Throwable", "fillInStackTrace", "(I)Ljava/lang/Throwable;"⟩, 6) := ⟨⟨by decide +kernel, by decide +kernel⟩, List.mem_of_getElem? (i := 287) (by decide +kernel), List.mem_of_getElem? (i := 285) (by decide +kernel), List.mem_of_getElem? (i := 286) (by decide +kernel)⟩
theorem lw_p13 : lw_okq (⟨"CellRows2$Cell", "take", "(JJJJ)V"⟩, 6) := ⟨⟨by decide +kernel, by decide +kernel⟩, List.mem_of_getElem? (i := 22) (by decide +kernel), List.mem_of_getElem? (i := 320) (by decide +kernel), List.mem_of_getElem? (i := 321) (by decide +kernel)⟩
theorem lw_p14 : lw_okq (⟨"CellRows2", "isBeyond", "(LCellRows2$Cell;J)Z"⟩, 8) := ⟨⟨by decide +kernel, by decide +kernel⟩, List.mem_of_getElem? (i := 13) (by decide +kernel), List.mem_of_getElem? (i := 331) (by decide +kernel), List.mem_of_getElem? (i := 332) (by decide +kernel)⟩
theorem lw_p15 : lw_okq (⟨"CellRows2", "noteFaultsOfStep", "(LCellRows2$Cell;)Z"⟩, 8) := ⟨⟨by decide +kernel, by decide +kernel⟩, List.mem_of_getElem? (i := 13) (by decide +kernel), List.mem_of_getElem? (i := 336) (by decide +kernel), List.mem_of_getElem? (i := 337) (by decide +kernel)⟩
def lw_privs_1 : List (MethodName × Nat) := [(⟨"CellRows2$Turns", "follow", "(J)V"⟩, 5), (⟨"CellRows2$Turns", "goesOn", "(J)Z"⟩, 5), (⟨"CellRows2$Turns", "takeCyclesOut", "()V"⟩, 5), (⟨"CellRows2$Turns", "keepCycle", "(JJ)V"⟩, 5), (⟨"CellRows2", "cellOf", "(I)LCellRows2$Cell;"⟩, 8), (⟨"CellRows2", "closeNextContactor", "()I"⟩, 8), (⟨"CellRows2", "noteFault", "(I)V"⟩, 8), (⟨"CellRows2", "isStuck", "(I)Z"⟩, 8), (⟨"CellRows2", "mayBleed", "(LCellRows2$Cell;)Z"⟩, 8), (⟨"CellRows2", "leastVoltage", "()J"⟩, 8), (⟨"CellRows2", "bleedingCells", "()I"⟩, 8), (⟨"CellRows2", "greatestWarmth", "()J"⟩, 8), (⟨"java/lang/Throwable", "fillInStackTrace", "(I)Ljava/lang/Throwable;"⟩, 6), (⟨"CellRows2$Cell", "take", "(JJJJ)V"⟩, 6), (⟨"CellRows2", "isBeyond", "(LCellRows2$Cell;J)Z"⟩, 8), (⟨"CellRows2", "noteFaultsOfStep", "(LCellRows2$Cell;)Z"⟩, 8)]
theorem lw_r1 : ∀ q ∈ lw_privs_1, lw_okq q := List.forall_mem_cons.mpr ⟨lw_p0, List.forall_mem_cons.mpr ⟨lw_p1, List.forall_mem_cons.mpr ⟨lw_p2, List.forall_mem_cons.mpr ⟨lw_p3, List.forall_mem_cons.mpr ⟨lw_p4, List.forall_mem_cons.mpr ⟨lw_p5, List.forall_mem_cons.mpr ⟨lw_p6, List.forall_mem_cons.mpr ⟨lw_p7, List.forall_mem_cons.mpr ⟨lw_p8, List.forall_mem_cons.mpr ⟨lw_p9, List.forall_mem_cons.mpr ⟨lw_p10, List.forall_mem_cons.mpr ⟨lw_p11, List.forall_mem_cons.mpr ⟨lw_p12, List.forall_mem_cons.mpr ⟨lw_p13, List.forall_mem_cons.mpr ⟨lw_p14, List.forall_mem_cons.mpr ⟨lw_p15, fun _ h => absurd h List.not_mem_nil⟩⟩⟩⟩⟩⟩⟩⟩⟩⟩⟩⟩⟩⟩⟩⟩
theorem lw_p16 : lw_okq (⟨"CellRows2Model", "noCell", "(I)Z"⟩, 20) := ⟨⟨by decide +kernel, by decide +kernel⟩, List.mem_of_getElem? (i := 367) (by decide +kernel), List.mem_of_getElem? (i := 457) (by decide +kernel), List.mem_of_getElem? (i := 458) (by decide +kernel)⟩
theorem lw_p17 : lw_okq (⟨"CellRows2Model", "point", "(J)V"⟩, 20) := ⟨⟨by decide +kernel, by decide +kernel⟩, List.mem_of_getElem? (i := 367) (by decide +kernel), List.mem_of_getElem? (i := 461) (by decide +kernel), List.mem_of_getElem? (i := 462) (by decide +kernel)⟩
theorem lw_p18 : lw_okq (⟨"CellRows2Model", "goesOn", "(J)Z"⟩, 20) := ⟨⟨by decide +kernel, by decide +kernel⟩, List.mem_of_getElem? (i := 367) (by decide +kernel), List.mem_of_getElem? (i := 465) (by decide +kernel), List.mem_of_getElem? (i := 466) (by decide +kernel)⟩
theorem lw_p19 : lw_okq (⟨"CellRows2Model", "fails", "(I)V"⟩, 20) := ⟨⟨by decide +kernel, by decide +kernel⟩, List.mem_of_getElem? (i := 367) (by decide +kernel), List.mem_of_getElem? (i := 479) (by decide +kernel), List.mem_of_getElem? (i := 480) (by decide +kernel)⟩
theorem lw_p20 : lw_okq (⟨"CellRows2Model", "leastVolt", "()J"⟩, 20) := ⟨⟨by decide +kernel, by decide +kernel⟩, List.mem_of_getElem? (i := 367) (by decide +kernel), List.mem_of_getElem? (i := 503) (by decide +kernel), List.mem_of_getElem? (i := 504) (by decide +kernel)⟩
def lw_privs_2 : List (MethodName × Nat) := [(⟨"CellRows2Model", "noCell", "(I)Z"⟩, 20), (⟨"CellRows2Model", "point", "(J)V"⟩, 20), (⟨"CellRows2Model", "goesOn", "(J)Z"⟩, 20), (⟨"CellRows2Model", "fails", "(I)V"⟩, 20), (⟨"CellRows2Model", "leastVolt", "()J"⟩, 20)]
theorem lw_r2 : ∀ q ∈ lw_privs_2, lw_okq q := List.forall_mem_cons.mpr ⟨lw_p16, List.forall_mem_cons.mpr ⟨lw_p17, List.forall_mem_cons.mpr ⟨lw_p18, List.forall_mem_cons.mpr ⟨lw_p19, List.forall_mem_cons.mpr ⟨lw_p20, fun _ h => absurd h List.not_mem_nil⟩⟩⟩⟩⟩
def lw_privs : List (MethodName × Nat) := lw_privs_1 ++ (lw_privs_2)
def lw_tbl : List Cond := k2_sels lw_privs ++ tables_1
theorem lw_privs_ok : ∀ q ∈ lw_privs, lw_okq q := by
  show ∀ q ∈ lw_privs_1 ++ (lw_privs_2), lw_okq q
  exact List.forall_mem_append.mpr ⟨lw_r1, lw_r2⟩
/-- the streams that the claim lets the run draw from -/
abbrev lw_cs : List Choice := [Jvm.Choice.named "NaN.bits"]
theorem lw_bits : nanBits ∈ lw_cs := by first | decide | exact List.mem_cons_self | simp [lw_cs, nanBits]
end
section
/-! ===== BEGIN words of one list among another's, by their places ===== -/
theorem goodIn_r {big : List Cond} (ws : List Cond) (ps : List Nat) (hp : ws = ps.filterMap (fun i => big[i]?)) (h : ws.all goodWord = true) : GoodIn big ws := by
  intro w hw
  have h1 := List.all_eq_true.mp h w hw
  rw [hp] at hw
  obtain ⟨i, -, hi⟩ := List.mem_filterMap.mp hw
  have hm : w ∈ big := by first | exact List.mem_of_getElem? hi | exact List.getElem?_mem hi
  exact ⟨hm, good_of_word h1⟩
theorem goodIn_app {big a b : List Cond} (ha : GoodIn big a) (hb : GoodIn big b) : GoodIn big (a ++ b) := fun w h => (List.mem_append.mp h).elim (ha w) (hb w)
theorem goodIn_ca {big a b : List Cond} {c : Cond} (ha : GoodIn big (c :: a)) (hb : GoodIn big b) : GoodIn big (c :: (a ++ b)) := fun w h => (List.mem_cons.mp h).elim (fun e => ha w (List.mem_cons.mpr (Or.inl e))) (fun h => (List.mem_append.mp h).elim (fun h => ha w (List.mem_cons.mpr (Or.inr h))) (hb w))
theorem goodIn_sub {big ws : List Cond} (hm : ∀ w ∈ ws, w ∈ big) (h : ws.all goodWord = true) : GoodIn big ws := fun w hw => ⟨hm w hw, good_of_word (List.all_eq_true.mp h w hw)⟩
/-! ===== END ===== -/

/-! ===== BEGIN exceptions that leave a method, and their catching by the caller (launches without stack traces) ===== -/
section VXA
/-! The laws vx_back, vx_callV, vx_callS, vx_callSW, vx_throw0, vx_throwS follow proofs of the library, with one case more: JvmDerived/Free/Laws.lean (Back.of_free), Shelf42/LK1.lean (callV, callS), Shelf/KitTraced.lean (throwNew0V, throwNewS). -/
/-- where a method has thrown q: the class by its name, the cell, what was written, the world -/
def vx_T (XC : String → State → State → Prop) (st : State) (q : Addr) (t : State) (mc ms : Nat) (free : Addr → Prop) : Prop :=
  ∃ (E : String) (ce : Cell) (L : List Loc), XC E st t ∧ t.heap[q]? = some ce ∧ ce.vm = .none ∧ st.vm.findClass E = some ce.cls ∧ st.WarmedH t.vm ∧ st.sameButNew ({ t with vm := st.vm } : State) L mc ms ∧ ∀ z ∈ L, free z.base
def vx_Q (Qc : Array Value → State → Outcome → State → Prop) (XC : String → State → State → Prop) (mc ms : Nat) (free : Addr → Prop) : Array Value → State → Outcome → State → Prop := fun a st o t =>
  (Qc a st o t ∧ ∃ L, FrameEnd st o t L mc ms ∧ ∀ q ∈ L, free q.base) ∨ ∃ q, o = .threw q ∧ vx_T XC st q t mc ms free
/-- a callee that returns or throws -/
def vx_Met (l : Launch) (y : MethodName) (ws : List Cond) (rm : Room) (Pc : Array Value → State → Prop) (Qc : Array Value → State → Outcome → State → Prop) (XC : String → State → State → Prop) (mc ms : Nat) (free : Addr → Prop) : Prop :=
  MetFree l y (headSpec ws rm) Pc (fun _ _ _ _ _ => True) (vx_Q Qc XC mc ms free)
def vx_Post (XC : String → State → State → Prop) (mc ms : Nat) (free : Addr → Prop) : Pt → Array Value → Addr → Pt → Prop := fun A a q B =>
  ∃ (g : JFrame) (mk : MethodId) (t : State) (L : List Loc) (E : String) (ce : Cell), B.U.heap = t.heap ∧ B.U.vm = t.vm ∧ XC E (A.U.calling g mk a) t ∧ t.heap[q]? = some ce ∧ ce.vm = .none ∧ A.U.vm.findClass E = some ce.cls ∧ B.locs = A.locs ++ L ∧ (∀ z ∈ L, free z.base) ∧ B.cells = A.cells + mc ∧ B.slots = A.slots + ms
def vx_Back (l : Launch) (R : Room) (p : Program) (e : Env) (below : List Frame) (s : State) (sargs : Array Value) (y : MethodName) (len W9 : Nat)
    (Pre : Pt → Array Value → Prop) (Post : Pt → Array Value → Option Value → Pt → Prop) (PostX : Pt → Array Value → Addr → Pt → Prop) : Prop :=
  ∀ (m : MethodId) (meth : Method) (c : Code) (A : Pt) (g : JFrame) (ig : Instr) (mk : MethodId) (a : Array Value),
    Stand p l e R s m sargs below meth c A.U A.locs A.cells A.slots → g.method = m → g.locals.size = c.maxLocals → decode c.code g.pc = .ok (ig, len) →
    2 * g.monitorRoom + (g.stack.map fun v => v.category).sum ≤ W9 → A.U.methodNamed? y = some mk → Pre A a →
    (∃ (v : Option Value) (B : Pt), Stand p l e R s m sargs below meth c B.U B.locs B.cells B.slots ∧ Post A a v B ∧
      Steps p.tables e below (doInvoke e (A.U.setTop g) [] mk a).1 (B.U.setTop { g with pc := g.pc + len, stack := v.toList ++ g.stack })) ∨
    (∃ (q : Addr) (B : Pt), Stand p l e R s m sargs below meth c B.U B.locs B.cells B.slots ∧ PostX A a q B ∧
      Steps p.tables e below (doInvoke e (A.U.setTop g) [] mk a).1 ((B.U.setTop g).pushFrame (.throwing q)))
section Payer
variable {l : Launch} {R : Room} {p : Program} {e : Env} {below : List Frame} {s : State} {sargs : Array Value} {y : MethodName} {len W9 : Nat}
theorem vx_back {ws : List Cond} {rm : Room} {Pc : Array Value → State → Prop} {Qc : Array Value → State → Outcome → State → Prop} {XC : String → State → State → Prop} {mc ms : Nat} {free : Addr → Prop} {bytes : ByteArray} {maxL : Nat} {ret : Option FieldType}
    (hM : vx_Met l y ws rm Pc Qc XC mc ms free) (hblind : FrameBlind Pc) (hrc : rm.cells = mc) (hrs : rm.slots = ms)
    (hframes : rm.frames + 1 ≤ R.frames) (hlocals : W9 + (maxL + 11) + rm.locals ≤ R.locals)
    (hws : ∀ w ∈ ws, ∀ a' U, s.WarmedH U.vm → w.before a' U = true) (hcode : Cond.code y bytes maxL ret ∈ ws) (hinit : ∀ a' U, s.WarmedH U.vm → (Cond.initialized y.cls).before a' U = true) :
    vx_Back l R p e below s sargs y len W9 (PreOf R mc ms Pc) (PostOf Qc mc ms free) (vx_Post XC mc ms free) := by
  intro m meth c A g ig mk a X hg hsize hdg hW hn hp
  have h1 : (headSpec ws rm).pre.before a A.U = true := atoms_intro fun w hw => hws w hw _ _ X.warmed
  have h2 : (Cond.code y bytes maxL ret).before a A.U = true := hws _ hcode _ _ X.warmed
  have h3 : (Cond.initialized y.cls).before a A.U = true := hinit _ _ X.warmed
  have h4 : A.cells + (headSpec ws rm).room.cells ≤ R.cells := by rw [show (headSpec ws rm).room.cells = mc from hrc]; exact hp.1
  have h5 : A.slots + (headSpec ws rm).room.slots ≤ R.slots := by rw [show (headSpec ws rm).room.slots = ms from hrs]; exact hp.2.1
  have hPc : Pc a (A.U.calling g mk a) := hblind _ _ _ _ hp.2.2
  obtain ⟨U, Ls, c0, s0⟩ := A
  dsimp only [Pt.U, Pt.locs, Pt.cells, Pt.slots] at h1 h2 h3 h4 h5 X hn hPc ⊢
  obtain ⟨methY, cY, hmY, hcY, -, hlY, -, -, -, -⟩ := Cond.code_spec hn h2
  obtain ⟨kY, hkY, -⟩ := className_of_methodNamed hn
  have hinitY : kY.init = .initialized := Cond.initialized_spec (findClass_of_methodNamed hn) hkY h3
  have h : At U g.method c below := by rw [hg]; exact X.here
  have hlocals9 : W9 + (maxL + 11) + (headSpec ws rm).room.locals ≤ R.locals := hlocals
  have happ : (headSpec ws rm).appliesLoose y e.platform (U.calling g mk a) = true :=
    Spec.appliesLoose_calling (g := g) h hdg hn hkY hinitY
      (X.room_calling (g := g) (R' := (headSpec ws rm).room) hsize hmY hcY hframes (by rw [hlY]; omega) h4 h5) h1
  obtain ⟨mid, hmid⟩ := h.above
  have hfr : (U.setTop g).frames = (.java g :: mid) ++ below := by rw [State.frames_setTop' g h.top, hmid]; rfl
  obtain ⟨o, s₂, hsteps, -, hend, hq⟩ := Steps.callFree hM p X.admits X.cas X.clock (acts := []) hfr happ hPc trivial
  have hq' : vx_Q Qc XC mc ms free a (U.calling g mk a) o s₂ := hq
  rw [State.frames_setTop' g h.top] at hend
  obtain ⟨g₀, hg0⟩ := Option.isSome_iff_exists.mp h.top
  obtain ⟨r, hr⟩ := State.topJava?_eq_some.mp hg0
  have hr' : (({ U with heap := s₂.heap, slotsUsed := s₂.slotsUsed } : State).setVm s₂.vm).frames = .java g₀ :: r := hr
  rcases hq' with ⟨hqc, L, hfe, hL⟩ | ⟨q, rfl, E, ce, L, hx, hce, hcv, hcl, hW₂, hsm, hL⟩
  · obtain ⟨⟨v, rfl⟩, hW₂, e2, q2, q3, q4, q5, q6⟩ := id hfe
    have e3 : s₂ = ({ (U.calling g mk a).setFrames s₂.frames with heap := s₂.heap, slotsUsed := s₂.slotsUsed } : State).setVm s₂.vm := by
      have : s₂ = ({ s₂ with vm := (U.calling g mk a).vm } : State).setVm s₂.vm := rfl
      rw [e2] at this
      exact this
    obtain ⟨c₂, i₂, len₂, hc₂, hd₂, hf₂⟩ := hend
    have hW' : U.WarmedH s₂.vm := hW₂
    have hcc : c₂ = c := by
      have h1 : s₂.code? g.method = U.code? g.method := by
        rw [State.code?_eq, State.code?_eq, hW'.alike.method?]
      exact Option.some.inj (hc₂.symm.trans (h1.trans h.code))
    subst hcc
    have hlen : len₂ = len := by rw [hdg] at hd₂; cases hd₂; rfl
    subst hlen
    have hs₂ : s₂ = (({ U with heap := s₂.heap, slotsUsed := s₂.slotsUsed } : State).setVm s₂.vm).setTop { g with pc := g.pc + len₂, stack := v.toList ++ g.stack } := by
      refine e3.trans ?_
      rw [hf₂, State.calling_eq h.top, State.setFrames_setFrames, State.setTop_of_frames _ hr', hr]
      rfl
    have hsame : U.sameButNew ({ U with heap := s₂.heap, slotsUsed := s₂.slotsUsed } : State) L mc ms := by
      refine ⟨?_, q2, q3, q4, q5, q6⟩
      obtain ⟨t, ht, -⟩ := State.frames_cons hr
      show ({ U with heap := s₂.heap, slotsUsed := s₂.slotsUsed } : State) = { U.setFrames U.frames with heap := s₂.heap, slotsUsed := s₂.slotsUsed }
      rw [State.setFrames_self ht]
    subst hg
    refine Or.inl ⟨v, ⟨(({ U with heap := s₂.heap, slotsUsed := s₂.slotsUsed } : State).setVm s₂.vm), Ls ++ L, c0 + mc, s0 + ms⟩,
      ⟨X.admits, X.cas, X.clock, X.frames, X.room, X.hears, X.method, X.code, (X.here.setHeapUsed s₂.heap s₂.slotsUsed).setVm hW'.alike, X.tail, State.WarmedH.trans X.warmed hW', X.limits, X.bytes, X.same.trans (hsame.setVm s.vm)⟩,
      ⟨g, mk, s₂, L, rfl, rfl, hqc, rfl, hL, rfl, rfl⟩, ?_⟩
    show Steps p.tables e below _ ((({ U with heap := s₂.heap, slotsUsed := s₂.slotsUsed } : State).setVm s₂.vm).setTop { g with pc := g.pc + len₂, stack := v.toList ++ g.stack })
    rw [← hs₂]
    exact hsteps
  · obtain ⟨e2, q2, q3, q4, q5, q6⟩ := id hsm
    have e3 : s₂ = ({ (U.calling g mk a).setFrames s₂.frames with heap := s₂.heap, slotsUsed := s₂.slotsUsed } : State).setVm s₂.vm := by
      have : s₂ = ({ s₂ with vm := (U.calling g mk a).vm } : State).setVm s₂.vm := rfl
      rw [e2] at this
      exact this
    have hf₂ : s₂.frames = .throwing q :: .java g :: U.frames.tail := hend
    have hW' : U.WarmedH s₂.vm := hW₂
    have hs₂ : s₂ = ((({ U with heap := s₂.heap, slotsUsed := s₂.slotsUsed } : State).setVm s₂.vm).setTop g).pushFrame (.throwing q) := by
      refine e3.trans ?_
      rw [hf₂, State.calling_eq h.top, State.setFrames_setFrames, State.pushFrame, State.frames_setTop _ hr', State.setTop_of_frames _ hr', State.setFrames_setFrames, hr]
      rfl
    have hsame : U.sameButNew ({ U with heap := s₂.heap, slotsUsed := s₂.slotsUsed } : State) L mc ms := by
      refine ⟨?_, q2, q3, q4, q5, q6⟩
      obtain ⟨t, ht, -⟩ := State.frames_cons hr
      show ({ U with heap := s₂.heap, slotsUsed := s₂.slotsUsed } : State) = { U.setFrames U.frames with heap := s₂.heap, slotsUsed := s₂.slotsUsed }
      rw [State.setFrames_self ht]
    subst hg
    refine Or.inr ⟨q, ⟨(({ U with heap := s₂.heap, slotsUsed := s₂.slotsUsed } : State).setVm s₂.vm), Ls ++ L, c0 + mc, s0 + ms⟩,
      ⟨X.admits, X.cas, X.clock, X.frames, X.room, X.hears, X.method, X.code, (X.here.setHeapUsed s₂.heap s₂.slotsUsed).setVm hW'.alike, X.tail, State.WarmedH.trans X.warmed hW', X.limits, X.bytes, X.same.trans (hsame.setVm s.vm)⟩,
      ⟨g, mk, s₂, L, E, ce, rfl, rfl, hx, hce, hcv, hcl, rfl, hL, rfl, rfl⟩, ?_⟩
    show Steps p.tables e below _ (((({ U with heap := s₂.heap, slotsUsed := s₂.slotsUsed } : State).setVm s₂.vm).setTop g).pushFrame (.throwing q))
    rw [← hs₂]
    exact hsteps
end Payer
section Calls
variable {p : Program} {l : Launch} {e : Env} {R : Room} {s : State} {m : MethodId} {args : Array Value} {below : List Frame} {meth : Method} {c : Code} {T : State} {locs : List Loc} {cells slots : Nat}
theorem vx_callV (X : Stand p l e R s m args below meth c T locs cells slots) (hexec : p.tables.exec = Jvm.exec) {own C : String} {index : Nat} {y : MethodName} {bytes : ByteArray} {maxL : Nat} {ret : Option FieldType}
    (hown : s.vm.findClass own = some m.cls) (hlink : (Cond.methodLink own index y).before args s = true) (hinst : (Cond.instanceMethod y).before args s = true) (hsel : (Cond.selects C y y).before args s = true)
    (hcode : (Cond.code y bytes maxL ret).before args s = true) (hy : y.cls ≠ "java/lang/invoke/MethodHandle" ∧ y.cls ≠ "java/lang/invoke/VarHandle")
    {W9 : Nat} {Pre : Pt → Array Value → Prop} {Post : Pt → Array Value → Option Value → Pt → Prop} {PostX : Pt → Array Value → Addr → Pt → Prop} (hK : vx_Back l R p e below s args y 3 W9 Pre Post PostX)
    {b : Addr} {cellB : Cell} (hcell : T.heap[b]? = some cellB) (hobj : cellB.vm.isStatics = false) (hcls : s.vm.findClass C = some cellB.cls)
    {g : JFrame} (hg : g.method = m) (hsize : g.locals.size = c.maxLocals) {argsL rest : List Value} (hlen : ∀ sig, parseMethodDescriptor y.desc = some sig → argsL.length = sig.parameters.length)
    (hstack : g.stack = argsL.reverse ++ .ref b :: rest) (hW : 2 * g.monitorRoom + (rest.map fun v => v.category).sum ≤ W9) (hdg : decode c.code g.pc = .ok (.invokevirtual index, 3))
    (hpre : ∀ vm₁, s.WarmedH vm₁ → Pre ⟨T.setVm vm₁, locs, cells, slots⟩ (Value.ref b :: argsL).toArray) :
    (∃ (v : Option Value) (vm₁ : Vm) (B : Pt), s.WarmedH vm₁ ∧ Stand p l e R s m args below meth c B.U B.locs B.cells B.slots ∧ Post ⟨T.setVm vm₁, locs, cells, slots⟩ (Value.ref b :: argsL).toArray v B ∧
      ∀ target, Steps p.tables e below (B.U.setTop { g with pc := g.pc + 3, stack := v.toList ++ rest }) target → Steps p.tables e below (T.setTop g) target) ∨
    (∃ (q : Addr) (vm₁ : Vm) (B : Pt), s.WarmedH vm₁ ∧ Stand p l e R s m args below meth c B.U B.locs B.cells B.slots ∧ PostX ⟨T.setVm vm₁, locs, cells, slots⟩ (Value.ref b :: argsL).toArray q B ∧
      Steps p.tables e below (T.setTop g) ((B.U.setTop { g with stack := rest }).pushFrame (.throwing q))) := by
  obtain ⟨mk, methM, hnamed, hmethM, hstM, habM⟩ := Cond.instanceMethod_spec hinst
  obtain ⟨methM', cM, hmethM', -, -, -, -, -, -, hsigM⟩ := Cond.code_spec hnamed hcode
  cases hmethM.symm.trans hmethM'
  obtain ⟨c2, r2, m2, q1, q2, q3, q4, kP, hkP, hkPi⟩ := Cond.selects_spec hsel
  cases hcls.symm.trans q1
  cases (State.methodFound?_of_named hnamed hy).symm.trans q2
  cases hnamed.symm.trans q3
  have hselP : selectMethod e.platform s.vm cellB.cls mk = .method mk := by rw [Launch.admits_selectMethod X.admits]; exact q4
  obtain ⟨vm₁, X₁, hstep₁⟩ := X.invokevirtual hexec hown hlink hnamed hmethM hstM hkP hkPi hy (a := b) (cell := cellB) hcell
    (fun z h => by rw [h] at hobj; cases hobj) hselP hmethM habM hkP hkPi (g := g) hg (argsL := argsL) (rest := rest) (hlen _ hsigM) hstack hdg
  rcases hK m meth c ⟨T.setVm vm₁, locs, cells, slots⟩ { g with stack := rest } (.invokevirtual index) mk (Value.ref b :: argsL).toArray X₁ hg hsize hdg hW (X₁.named hnamed) (hpre vm₁ X₁.warmed) with ⟨v, B, X', hpost, hsteps⟩ | ⟨q, B, X', hpost, hsteps⟩
  · exact Or.inl ⟨v, vm₁, B, X₁.warmed, X', hpost, fun target h => hstep₁ _ fun acts => by rw [doInvoke_state]; exact hsteps.trans h⟩
  · exact Or.inr ⟨q, vm₁, B, X₁.warmed, X', hpost, hstep₁ _ fun acts => by rw [doInvoke_state]; exact hsteps⟩
theorem vx_callS (X : Stand p l e R s m args below meth c T locs cells slots) (hexec : p.tables.exec = Jvm.exec) {own : String} {index : Nat} {y : MethodName} {bytes : ByteArray} {maxL : Nat} {ret : Option FieldType}
    (hown : s.vm.findClass own = some m.cls) (hlink : (Cond.methodLink own index y).before args s = true) (hstat : (Cond.static y).before args s = true) (hinit : (Cond.initialized y.cls).before args s = true)
    (hcode : (Cond.code y bytes maxL ret).before args s = true) (hy : y.cls ≠ "java/lang/invoke/MethodHandle" ∧ y.cls ≠ "java/lang/invoke/VarHandle")
    {W9 : Nat} {Pre : Pt → Array Value → Prop} {Post : Pt → Array Value → Option Value → Pt → Prop} {PostX : Pt → Array Value → Addr → Pt → Prop} (hK : vx_Back l R p e below s args y 3 W9 Pre Post PostX)
    {g : JFrame} (hg : g.method = m) (hsize : g.locals.size = c.maxLocals) {argsL rest : List Value} (hlen : ∀ sig, parseMethodDescriptor y.desc = some sig → argsL.length = sig.parameters.length)
    (hstack : g.stack = argsL.reverse ++ rest) (hW : 2 * g.monitorRoom + (rest.map fun v => v.category).sum ≤ W9) (hdg : decode c.code g.pc = .ok (.invokestatic index, 3))
    (hpre : ∀ vm₁, s.WarmedH vm₁ → Pre ⟨T.setVm vm₁, locs, cells, slots⟩ argsL.toArray) :
    (∃ (v : Option Value) (vm₁ : Vm) (B : Pt), s.WarmedH vm₁ ∧ Stand p l e R s m args below meth c B.U B.locs B.cells B.slots ∧ Post ⟨T.setVm vm₁, locs, cells, slots⟩ argsL.toArray v B ∧
      ∀ target, Steps p.tables e below (B.U.setTop { g with pc := g.pc + 3, stack := v.toList ++ rest }) target → Steps p.tables e below (T.setTop g) target) ∨
    (∃ (q : Addr) (vm₁ : Vm) (B : Pt), s.WarmedH vm₁ ∧ Stand p l e R s m args below meth c B.U B.locs B.cells B.slots ∧ PostX ⟨T.setVm vm₁, locs, cells, slots⟩ argsL.toArray q B ∧
      Steps p.tables e below (T.setTop g) ((B.U.setTop { g with stack := rest }).pushFrame (.throwing q))) := by
  obtain ⟨mk, hnamed⟩ := Cond.code_named hcode
  obtain ⟨methM, cM, hmethM, -, -, -, -, -, -, hsigM⟩ := Cond.code_spec hnamed hcode
  have hstatic : methM.isStatic = true := Cond.static_spec hnamed hmethM hstat
  obtain ⟨kP, hkP, -⟩ := className_of_methodNamed hnamed
  have hinitP : kP.init = .initialized := Cond.initialized_spec (findClass_of_methodNamed hnamed) hkP hinit
  obtain ⟨vm₁, X₁, hstep₁⟩ := X.invokestatic hexec hown hlink hnamed hmethM hstatic hkP hinitP hy (g := g) hg (argsL := argsL) (rest := rest) (hlen _ hsigM) hstack hdg
  rcases hK m meth c ⟨T.setVm vm₁, locs, cells, slots⟩ { g with stack := rest } (.invokestatic index) mk argsL.toArray X₁ hg hsize hdg hW (X₁.named hnamed) (hpre vm₁ X₁.warmed) with ⟨v, B, X', hpost, hsteps⟩ | ⟨q, B, X', hpost, hsteps⟩
  · exact Or.inl ⟨v, vm₁, B, X₁.warmed, X', hpost, fun target h => hstep₁ _ fun acts => by rw [doInvoke_state]; exact hsteps.trans h⟩
  · exact Or.inr ⟨q, vm₁, B, X₁.warmed, X', hpost, hstep₁ _ fun acts => by rw [doInvoke_state]; exact hsteps⟩
end Calls
theorem vx_cls {s : State} {T : State} {vm₁ : Vm} {E : String} {k : ClassId} (hW : s.WarmedH vm₁) (h : (T.setVm vm₁).vm.findClass E = some k) : s.vm.findClass E = some k := by
  have h1 : vm₁.findClass E = some k := h
  rw [hW.alike.findClass] at h1
  exact h1
/-- the method's frame g, with q thrown over it -/
def vx_W (p : Program) (l : Launch) (e : Env) (R : Room) (s : State) (m : MethodId) (args : Array Value) (below : List Frame) (meth : Method) (c : Code) (H : Heap) (locs : List Loc) (cells slots : Nat) (Q : State → Prop) (g : JFrame) (q : Addr) : Prop :=
  ∀ T : State, T.heap = H → Stand p l e R s m args below meth c T locs cells slots → ∃ t, Steps p.tables e below ((T.setTop g).pushFrame (.throwing q)) t ∧ Q t
def vx_Run (p : Program) (l : Launch) (e : Env) (R : Room) (s : State) (m : MethodId) (args : Array Value) (below : List Frame) (meth : Method) (c : Code) (H : Heap) (locs : List Loc) (cells slots mc ms : Nat) (g : JFrame) (rest : List Value) (Qa : State → Outcome → State → Prop) (XC : String → State → State → Prop) (free : Addr → Prop) : Prop :=
  ∀ T : State, T.heap = H → Stand p l e R s m args below meth c T locs cells slots →
    (∃ (v : Option Value) (st₀ t T' : State) (L : List Loc), st₀.heap = H ∧ Stand p l e R s m args below meth c T' (locs ++ L) (cells + mc) (slots + ms) ∧ (∀ q ∈ L, free q.base) ∧ T'.heap = t.heap ∧ T'.vm = t.vm ∧ Qa st₀ (.returned v) t ∧
      Goes p e below T g T' { g with pc := g.pc + 3, stack := v.toList ++ rest }) ∨
    (∃ (q : Addr) (st₀ t T' : State) (L : List Loc) (E : String) (ce : Cell), st₀.heap = H ∧ Stand p l e R s m args below meth c T' (locs ++ L) (cells + mc) (slots + ms) ∧ (∀ z ∈ L, free z.base) ∧ T'.heap = t.heap ∧ T'.vm = t.vm ∧ XC E st₀ t ∧ t.heap[q]? = some ce ∧ ce.vm = .none ∧ s.vm.findClass E = some ce.cls ∧
      Steps p.tables e below (T.setTop g) ((T'.setTop { g with stack := rest }).pushFrame (.throwing q)))
def vx_X {S : Type} (px : S → Prop) (B : String → S → State → Prop) (A : Nat → Prop) : String → State → State → Prop := fun E st t => ∃ u : S, px u ∧ B E u t ∧ va_F A st t
section Runs
variable {p : Program} {l : Launch} {e : Env} {R : Room} {s : State} {m : MethodId} {args : Array Value} {below : List Frame} {meth : Method} {c : Code} {H : Heap} {locs : List Loc} {cells slots : Nat}
variable {y : MethodName} {bytes cc : ByteArray} {maxL nL mc ms n index : Nat} {ret : Option FieldType} {ws : List Cond} {rm : Room} {Pc : Array Value → State → Prop} {Qc : Array Value → State → Outcome → State → Prop} {XC : String → State → State → Prop} {free : Addr → Prop} {Ts : List Cond} {own C : String} {b : Addr} {As rest : List Value} {g : JFrame}
theorem vx_callBack (cb : CallB R s args own index y bytes maxL ret ws rm mc ms n) (hM : vx_Met l y ws rm Pc Qc XC mc ms free) (hbl : FrameBlind Pc) : vx_Back l R p e below s args y 3 8 (PreOf R mc ms Pc) (PostOf Qc mc ms free) (vx_Post XC mc ms free) := by
  obtain ⟨hrc, hrs, hfr, hlo, hws, hcw, -, hini, -⟩ := cb
  exact vx_back (bytes := bytes) (maxL := maxL) (ret := ret) hM hbl hrc hrs hfr hlo hws hcw (fun a' U hW => word_at hW (Or.inl (by first | rfl | simp [Cond.onTables, Cond.keeps, Cond.steady])) hini)
theorem vx_runV (S : CallFix p m c cc nL s args Ts own) (hM : vx_Met l y ws rm Pc Qc XC mc ms free) (cw : CallW R s args own C index y bytes maxL ret ws rm mc ms n) (hp : PreV s H C b Pc As)
    (hg : g.method = m) (hn : As.length = n) (hsize : g.locals.size = nL) (hstack : g.stack = As.reverse ++ .ref b :: rest) (hW : 2 * g.monitorRoom + (rest.map fun v => v.category).sum ≤ 8) (hdg : decode cc g.pc = .ok (.invokevirtual index, 3)) (hf : cells + mc ≤ R.cells ∧ slots + ms ≤ R.slots) :
    vx_Run p l e R s m args below meth c H locs cells slots mc ms g rest (Qc (Value.ref b :: As).toArray) XC free := by
  have hK : vx_Back l R p e below s args y 3 8 (PreOf R mc ms Pc) (PostOf Qc mc ms free) (vx_Post XC mc ms free) := vx_callBack cw.1 hM hp.1
  obtain ⟨⟨-, -, -, -, -, -, hcode, -, hy, hlen, hl⟩, hin, hse⟩ := cw
  obtain ⟨hx, hb, hml, ho, -⟩ := S
  obtain ⟨-, ⟨cellB, hcB, hoB, hclB⟩, hPc⟩ := hp
  intro T hT X
  rcases vx_callV X hx (C := C) (bytes := bytes) (maxL := maxL) (ret := ret) ho hl hin hse hcode hy hK (by rw [hT]; exact hcB) hoB hclB hg (hsize.trans hml.symm) (argsL := As) (rest := rest) (fun sig h => hn.trans (hlen sig h)) hstack hW (by rw [hb]; exact hdg)
    (fun vm₁ hW₁ => ⟨hf.1, hf.2, hPc (T.setVm vm₁) hT hW₁⟩) with ⟨v, vm₁, ⟨U', l2, c2, s2⟩, hW₁, X', ⟨g', mk, t, L, e1, e2, hq, h1, hL, h2, h3⟩, st⟩ | ⟨q, vm₁, ⟨U', l2, c2, s2⟩, hW₁, X', ⟨g', mk, t, L, E, ce, e1, e2, hq, hce, hcv, hcl, h1, hL, h2, h3⟩, st⟩
  · dsimp only [Pt.U, Pt.locs, Pt.cells, Pt.slots] at X' e1 e2 h1 h2 h3 st
    subst h1; subst h2; subst h3
    exact Or.inl ⟨v, (T.setVm vm₁).calling g' mk (Value.ref b :: As).toArray, t, U', L, hT, X', hL, e1, e2, hq, st⟩
  · dsimp only [Pt.U, Pt.locs, Pt.cells, Pt.slots] at X' e1 e2 h1 h2 h3 st hcl
    subst h1; subst h2; subst h3
    exact Or.inr ⟨q, (T.setVm vm₁).calling g' mk (Value.ref b :: As).toArray, t, U', L, E, ce, hT, X', hL, e1, e2, hq, hce, hcv, vx_cls hW₁ hcl, st⟩
theorem vx_runS (S : CallFix p m c cc nL s args Ts own) (hM : vx_Met l y ws rm Pc Qc XC mc ms free) (cw : CallB R s args own index y bytes maxL ret ws rm mc ms n ∧ (Cond.static y).before args s = true) (hp : PreS s H Pc As)
    (hg : g.method = m) (hn : As.length = n) (hsize : g.locals.size = nL) (hstack : g.stack = As.reverse ++ rest) (hW : 2 * g.monitorRoom + (rest.map fun v => v.category).sum ≤ 8) (hdg : decode cc g.pc = .ok (.invokestatic index, 3)) (hf : cells + mc ≤ R.cells ∧ slots + ms ≤ R.slots) :
    vx_Run p l e R s m args below meth c H locs cells slots mc ms g rest (Qc As.toArray) XC free := by
  have hK : vx_Back l R p e below s args y 3 8 (PreOf R mc ms Pc) (PostOf Qc mc ms free) (vx_Post XC mc ms free) := vx_callBack cw.1 hM hp.1
  obtain ⟨⟨-, -, -, -, -, -, hcode, hini, hy, hlen, hl⟩, hstt⟩ := cw
  obtain ⟨hx, hb, hml, ho, -⟩ := S
  intro T hT X
  rcases vx_callS X hx (bytes := bytes) (maxL := maxL) (ret := ret) ho hl hstt hini hcode hy hK hg (hsize.trans hml.symm) (argsL := As) (rest := rest) (fun sig h => hn.trans (hlen sig h)) hstack hW (by rw [hb]; exact hdg)
    (fun vm₁ hW₁ => ⟨hf.1, hf.2, hp.2 (T.setVm vm₁) hT hW₁⟩) with ⟨v, vm₁, ⟨U', l2, c2, s2⟩, hW₁, X', ⟨g', mk, t, L, e1, e2, hq, h1, hL, h2, h3⟩, st⟩ | ⟨q, vm₁, ⟨U', l2, c2, s2⟩, hW₁, X', ⟨g', mk, t, L, E, ce, e1, e2, hq, hce, hcv, hcl, h1, hL, h2, h3⟩, st⟩
  · dsimp only [Pt.U, Pt.locs, Pt.cells, Pt.slots] at X' e1 e2 h1 h2 h3 st
    subst h1; subst h2; subst h3
    exact Or.inl ⟨v, (T.setVm vm₁).calling g' mk As.toArray, t, U', L, hT, X', hL, e1, e2, hq, st⟩
  · dsimp only [Pt.U, Pt.locs, Pt.cells, Pt.slots] at X' e1 e2 h1 h2 h3 st hcl
    subst h1; subst h2; subst h3
    exact Or.inr ⟨q, (T.setVm vm₁).calling g' mk As.toArray, t, U', L, E, ce, hT, X', hL, e1, e2, hq, hce, hcv, vx_cls hW₁ hcl, st⟩
end Runs
section Rows
variable {p : Program} {l : Launch} {e : Env} {R : Room} {s : State} {m : MethodId} {args : Array Value} {below : List Frame} {meth : Method} {c : Code} {H : Heap} {locs : List Loc} {cells slots : Nat} {Q : State → Prop}
variable {mc ms : Nat} {free : Addr → Prop} {A0 A1 : Nat → Prop} {H0 : Heap} {a : Array Value} {pc : Nat} {ls : Array Slot} {st0 rest : List Value}
theorem vx_keep {st₀ t T' : State} {L : List Loc} (h0 : st₀.heap = H) (e1 : T'.heap = t.heap) (hS : va_S A0 H0 H locs) (hA : ∀ q, q < H.size → A1 q → A0 q) (hf : ∀ q, free q → A0 q) (hL : ∀ q ∈ L, free q.base) (hF : va_F A1 st₀ t) :
    H.size ≤ T'.heap.size ∧ (∀ q : Nat, q < H.size → ¬ A1 q → T'.heap[q]? = H[q]?) ∧ va_S A0 H0 T'.heap (locs ++ L) := by
  obtain ⟨hz, hk⟩ := hF
  rw [h0] at hz hk
  exact ⟨by rw [e1]; exact hz, fun q h1 h2 => by rw [e1]; exact hk q h1 h2,
    ⟨Nat.le_trans hS.1 (by rw [e1]; exact hz), fun q h1 h2 => by rw [e1, hk q (Nat.lt_of_lt_of_le h1 hS.1) (fun z => h2 (hA q (Nat.lt_of_lt_of_le h1 hS.1) z))]; exact hS.2.1 q h1 h2, fun q hq => by
      rcases List.mem_append.mp hq with h | h
      · exact hS.2.2 q h
      · exact hf _ (hL q h)⟩⟩
theorem vx_calli {S SX : Type} {post : Int32 → S → Prop} {px : SX → Prop} {B : S → State → Prop} {BX : String → SX → State → Prop} {AX : Nat → Prop} (hr : vx_Run p l e R s m args below meth c H locs cells slots mc ms (F0 m pc ls st0) rest (va_Qi post B A1 a) (vx_X px BX AX) free) (hS : va_S A0 H0 H locs) (hA : ∀ q, q < H.size → A1 q → A0 q) (hf : ∀ q, free q → A0 q) (hAX : ∀ q, q < H.size → AX q → A0 q)
    (kx : ∀ (E : String) (ce : Cell) (q9 : Addr) (u : SX) (t : State) (H1 : Heap) (locs1 : List Loc), t.heap = H1 → s.vm.Alike t.vm → px u → BX E u t → H.size ≤ H1.size → (∀ q : Nat, q < H.size → ¬ AX q → H1[q]? = H[q]?) → va_S A0 H0 H1 locs1 → H1[q9]? = some ce → ce.vm = .none → s.vm.findClass E = some ce.cls → vx_W p l e R s m args below meth c H1 locs1 (cells + mc) (slots + ms) Q (F0 m pc ls rest) q9)
    (kk : ∀ (r : Int32) (u : S) (t : State) (H1 : Heap) (locs1 : List Loc), t.heap = H1 → s.vm.Alike t.vm → post r u → B u t → H.size ≤ H1.size → (∀ q : Nat, q < H.size → ¬ A1 q → H1[q]? = H[q]?) → va_S A0 H0 H1 locs1 → W p l e R s m args below meth c H1 locs1 (cells + mc) (slots + ms) Q (F0 m (pc + 3) ls (.int r :: rest))) : W p l e R s m args below meth c H locs cells slots Q (F0 m pc ls st0) := by
  intro T hT X
  rcases hr T hT X with ⟨v, st₀, t, T', L, h0, X', hL, e1, e2, ⟨⟨r, u, hv, hp, hb⟩, hF⟩, st⟩ | ⟨q, st₀, t, T', L, E, ce, h0, X', hL, e1, e2, ⟨u, hp, hb, hF⟩, hce, hcv, hcl, st⟩
  · cases hv
    obtain ⟨k1, k2, k3⟩ := vx_keep h0 e1 hS hA hf hL hF
    obtain ⟨t2, a1, b1⟩ := kk r u t T'.heap (locs ++ L) e1.symm (by rw [← e2]; exact X'.warmed.alike) hp hb k1 k2 k3 T' rfl X'
    exact ⟨t2, st t2 a1, b1⟩
  · obtain ⟨k1, k2, k3⟩ := vx_keep h0 e1 hS hAX hf hL hF
    obtain ⟨t2, a1, b1⟩ := kx E ce q u t T'.heap (locs ++ L) e1.symm (by rw [← e2]; exact X'.warmed.alike) hp hb k1 k2 k3 (by rw [e1]; exact hce) hcv hcl T' rfl X'
    exact ⟨t2, st.trans a1, b1⟩
theorem vx_calll {S SX : Type} {post : Int64 → S → Prop} {px : SX → Prop} {B : S → State → Prop} {BX : String → SX → State → Prop} {AX : Nat → Prop} (hr : vx_Run p l e R s m args below meth c H locs cells slots mc ms (F0 m pc ls st0) rest (va_Ql post B A1 a) (vx_X px BX AX) free) (hS : va_S A0 H0 H locs) (hA : ∀ q, q < H.size → A1 q → A0 q) (hf : ∀ q, free q → A0 q) (hAX : ∀ q, q < H.size → AX q → A0 q)
    (kx : ∀ (E : String) (ce : Cell) (q9 : Addr) (u : SX) (t : State) (H1 : Heap) (locs1 : List Loc), t.heap = H1 → s.vm.Alike t.vm → px u → BX E u t → H.size ≤ H1.size → (∀ q : Nat, q < H.size → ¬ AX q → H1[q]? = H[q]?) → va_S A0 H0 H1 locs1 → H1[q9]? = some ce → ce.vm = .none → s.vm.findClass E = some ce.cls → vx_W p l e R s m args below meth c H1 locs1 (cells + mc) (slots + ms) Q (F0 m pc ls rest) q9)
    (kk : ∀ (r : Int64) (u : S) (t : State) (H1 : Heap) (locs1 : List Loc), t.heap = H1 → s.vm.Alike t.vm → post r u → B u t → H.size ≤ H1.size → (∀ q : Nat, q < H.size → ¬ A1 q → H1[q]? = H[q]?) → va_S A0 H0 H1 locs1 → W p l e R s m args below meth c H1 locs1 (cells + mc) (slots + ms) Q (F0 m (pc + 3) ls (.long r :: rest))) : W p l e R s m args below meth c H locs cells slots Q (F0 m pc ls st0) := by
  intro T hT X
  rcases hr T hT X with ⟨v, st₀, t, T', L, h0, X', hL, e1, e2, ⟨⟨r, u, hv, hp, hb⟩, hF⟩, st⟩ | ⟨q, st₀, t, T', L, E, ce, h0, X', hL, e1, e2, ⟨u, hp, hb, hF⟩, hce, hcv, hcl, st⟩
  · cases hv
    obtain ⟨k1, k2, k3⟩ := vx_keep h0 e1 hS hA hf hL hF
    obtain ⟨t2, a1, b1⟩ := kk r u t T'.heap (locs ++ L) e1.symm (by rw [← e2]; exact X'.warmed.alike) hp hb k1 k2 k3 T' rfl X'
    exact ⟨t2, st t2 a1, b1⟩
  · obtain ⟨k1, k2, k3⟩ := vx_keep h0 e1 hS hAX hf hL hF
    obtain ⟨t2, a1, b1⟩ := kx E ce q u t T'.heap (locs ++ L) e1.symm (by rw [← e2]; exact X'.warmed.alike) hp hb k1 k2 k3 (by rw [e1]; exact hce) hcv hcl T' rfl X'
    exact ⟨t2, st.trans a1, b1⟩
theorem vx_callf {S SX : Type} {post : UInt32 → S → Prop} {px : SX → Prop} {B : S → State → Prop} {BX : String → SX → State → Prop} {AX : Nat → Prop} (hr : vx_Run p l e R s m args below meth c H locs cells slots mc ms (F0 m pc ls st0) rest (va_Qf post B A1 a) (vx_X px BX AX) free) (hS : va_S A0 H0 H locs) (hA : ∀ q, q < H.size → A1 q → A0 q) (hf : ∀ q, free q → A0 q) (hAX : ∀ q, q < H.size → AX q → A0 q)
    (kx : ∀ (E : String) (ce : Cell) (q9 : Addr) (u : SX) (t : State) (H1 : Heap) (locs1 : List Loc), t.heap = H1 → s.vm.Alike t.vm → px u → BX E u t → H.size ≤ H1.size → (∀ q : Nat, q < H.size → ¬ AX q → H1[q]? = H[q]?) → va_S A0 H0 H1 locs1 → H1[q9]? = some ce → ce.vm = .none → s.vm.findClass E = some ce.cls → vx_W p l e R s m args below meth c H1 locs1 (cells + mc) (slots + ms) Q (F0 m pc ls rest) q9)
    (kk : ∀ (r : UInt32) (u : S) (t : State) (H1 : Heap) (locs1 : List Loc), t.heap = H1 → s.vm.Alike t.vm → post r u → B u t → H.size ≤ H1.size → (∀ q : Nat, q < H.size → ¬ A1 q → H1[q]? = H[q]?) → va_S A0 H0 H1 locs1 → W p l e R s m args below meth c H1 locs1 (cells + mc) (slots + ms) Q (F0 m (pc + 3) ls (.float r :: rest))) : W p l e R s m args below meth c H locs cells slots Q (F0 m pc ls st0) := by
  intro T hT X
  rcases hr T hT X with ⟨v, st₀, t, T', L, h0, X', hL, e1, e2, ⟨⟨r, u, hv, hp, hb⟩, hF⟩, st⟩ | ⟨q, st₀, t, T', L, E, ce, h0, X', hL, e1, e2, ⟨u, hp, hb, hF⟩, hce, hcv, hcl, st⟩
  · cases hv
    obtain ⟨k1, k2, k3⟩ := vx_keep h0 e1 hS hA hf hL hF
    obtain ⟨t2, a1, b1⟩ := kk r u t T'.heap (locs ++ L) e1.symm (by rw [← e2]; exact X'.warmed.alike) hp hb k1 k2 k3 T' rfl X'
    exact ⟨t2, st t2 a1, b1⟩
  · obtain ⟨k1, k2, k3⟩ := vx_keep h0 e1 hS hAX hf hL hF
    obtain ⟨t2, a1, b1⟩ := kx E ce q u t T'.heap (locs ++ L) e1.symm (by rw [← e2]; exact X'.warmed.alike) hp hb k1 k2 k3 (by rw [e1]; exact hce) hcv hcl T' rfl X'
    exact ⟨t2, st.trans a1, b1⟩
theorem vx_calld {S SX : Type} {post : UInt64 → S → Prop} {px : SX → Prop} {B : S → State → Prop} {BX : String → SX → State → Prop} {AX : Nat → Prop} (hr : vx_Run p l e R s m args below meth c H locs cells slots mc ms (F0 m pc ls st0) rest (va_Qd post B A1 a) (vx_X px BX AX) free) (hS : va_S A0 H0 H locs) (hA : ∀ q, q < H.size → A1 q → A0 q) (hf : ∀ q, free q → A0 q) (hAX : ∀ q, q < H.size → AX q → A0 q)
    (kx : ∀ (E : String) (ce : Cell) (q9 : Addr) (u : SX) (t : State) (H1 : Heap) (locs1 : List Loc), t.heap = H1 → s.vm.Alike t.vm → px u → BX E u t → H.size ≤ H1.size → (∀ q : Nat, q < H.size → ¬ AX q → H1[q]? = H[q]?) → va_S A0 H0 H1 locs1 → H1[q9]? = some ce → ce.vm = .none → s.vm.findClass E = some ce.cls → vx_W p l e R s m args below meth c H1 locs1 (cells + mc) (slots + ms) Q (F0 m pc ls rest) q9)
    (kk : ∀ (r : UInt64) (u : S) (t : State) (H1 : Heap) (locs1 : List Loc), t.heap = H1 → s.vm.Alike t.vm → post r u → B u t → H.size ≤ H1.size → (∀ q : Nat, q < H.size → ¬ A1 q → H1[q]? = H[q]?) → va_S A0 H0 H1 locs1 → W p l e R s m args below meth c H1 locs1 (cells + mc) (slots + ms) Q (F0 m (pc + 3) ls (.double r :: rest))) : W p l e R s m args below meth c H locs cells slots Q (F0 m pc ls st0) := by
  intro T hT X
  rcases hr T hT X with ⟨v, st₀, t, T', L, h0, X', hL, e1, e2, ⟨⟨r, u, hv, hp, hb⟩, hF⟩, st⟩ | ⟨q, st₀, t, T', L, E, ce, h0, X', hL, e1, e2, ⟨u, hp, hb, hF⟩, hce, hcv, hcl, st⟩
  · cases hv
    obtain ⟨k1, k2, k3⟩ := vx_keep h0 e1 hS hA hf hL hF
    obtain ⟨t2, a1, b1⟩ := kk r u t T'.heap (locs ++ L) e1.symm (by rw [← e2]; exact X'.warmed.alike) hp hb k1 k2 k3 T' rfl X'
    exact ⟨t2, st t2 a1, b1⟩
  · obtain ⟨k1, k2, k3⟩ := vx_keep h0 e1 hS hAX hf hL hF
    obtain ⟨t2, a1, b1⟩ := kx E ce q u t T'.heap (locs ++ L) e1.symm (by rw [← e2]; exact X'.warmed.alike) hp hb k1 k2 k3 (by rw [e1]; exact hce) hcv hcl T' rfl X'
    exact ⟨t2, st.trans a1, b1⟩
theorem vx_callv {S SX : Type} {post : S → Prop} {px : SX → Prop} {B : S → State → Prop} {BX : String → SX → State → Prop} {AX : Nat → Prop} (hr : vx_Run p l e R s m args below meth c H locs cells slots mc ms (F0 m pc ls st0) rest (va_Qv post B A1 a) (vx_X px BX AX) free) (hS : va_S A0 H0 H locs) (hA : ∀ q, q < H.size → A1 q → A0 q) (hf : ∀ q, free q → A0 q) (hAX : ∀ q, q < H.size → AX q → A0 q)
    (kx : ∀ (E : String) (ce : Cell) (q9 : Addr) (u : SX) (t : State) (H1 : Heap) (locs1 : List Loc), t.heap = H1 → s.vm.Alike t.vm → px u → BX E u t → H.size ≤ H1.size → (∀ q : Nat, q < H.size → ¬ AX q → H1[q]? = H[q]?) → va_S A0 H0 H1 locs1 → H1[q9]? = some ce → ce.vm = .none → s.vm.findClass E = some ce.cls → vx_W p l e R s m args below meth c H1 locs1 (cells + mc) (slots + ms) Q (F0 m pc ls rest) q9)
    (kk : ∀ (u : S) (t : State) (H1 : Heap) (locs1 : List Loc), t.heap = H1 → s.vm.Alike t.vm → post u → B u t → H.size ≤ H1.size → (∀ q : Nat, q < H.size → ¬ A1 q → H1[q]? = H[q]?) → va_S A0 H0 H1 locs1 → W p l e R s m args below meth c H1 locs1 (cells + mc) (slots + ms) Q (F0 m (pc + 3) ls (rest))) : W p l e R s m args below meth c H locs cells slots Q (F0 m pc ls st0) := by
  intro T hT X
  rcases hr T hT X with ⟨v, st₀, t, T', L, h0, X', hL, e1, e2, ⟨⟨u, hv, hp, hb⟩, hF⟩, st⟩ | ⟨q, st₀, t, T', L, E, ce, h0, X', hL, e1, e2, ⟨u, hp, hb, hF⟩, hce, hcv, hcl, st⟩
  · cases hv
    obtain ⟨k1, k2, k3⟩ := vx_keep h0 e1 hS hA hf hL hF
    obtain ⟨t2, a1, b1⟩ := kk u t T'.heap (locs ++ L) e1.symm (by rw [← e2]; exact X'.warmed.alike) hp hb k1 k2 k3 T' rfl X'
    exact ⟨t2, st t2 a1, b1⟩
  · obtain ⟨k1, k2, k3⟩ := vx_keep h0 e1 hS hAX hf hL hF
    obtain ⟨t2, a1, b1⟩ := kx E ce q u t T'.heap (locs ++ L) e1.symm (by rw [← e2]; exact X'.warmed.alike) hp hb k1 k2 k3 (by rw [e1]; exact hce) hcv hcl T' rfl X'
    exact ⟨t2, st.trans a1, b1⟩
/-- caught by the row x of this method's table; the rows ahead don't take it -/
theorem vx_catch {own name : String} {E : String} {ce : Cell} {q : Addr} (hown : s.vm.findClass own = some m.cls) (pre : List ExceptionTableEntry) (x : ExceptionTableEntry) (suf : List ExceptionTableEntry) (hsplit : c.exceptionTable.toList = pre ++ x :: suf)
    (hpass : ∀ z ∈ pre, covers z pc = false ∨ (z.catchType ≠ 0 ∧ ∃ nm : String, (Cond.classLink own z.catchType nm).before args s = true ∧ va_Nc E nm s)) (hx : covers x pc = true) (h0 : x.catchType ≠ 0)
    (hlink : (Cond.classLink own x.catchType name).before args s = true) (hcast : (Cond.castable E name).before args s = true) (hcell : H[q]? = some ce) (hv : ce.vm = .none) (hcl : s.vm.findClass E = some ce.cls)
    (kk : W p l e R s m args below meth c H locs cells slots Q (F0 m x.handlerPc ls [.ref q])) : vx_W p l e R s m args below meth c H locs cells slots Q (F0 m pc ls rest) q := by
  intro T hT X
  have hpl : e.platform.magicAccessors = ({} : Platform).magicAccessors := by rw [X.admits.platform]
  obtain ⟨c3, c4, hc3, hc4, hasg⟩ := Cond.castable_spec hcast
  cases Option.some.inj (hc3.symm.trans hcl)
  obtain ⟨c5, hc5, hcl5⟩ := Cond.classLink_spec hown hlink e.platform hpl
  cases Option.some.inj (hc4.symm.trans hc5)
  obtain ⟨vm', X', st⟩ := X.thenCaughtThrough q (g := F0 m pc ls rest) rfl (Steps.refl _) (by rw [hT]; exact hcell) (by rw [hv]; rfl) (by obtain ⟨k9, h9, -⟩ := Vm.findClass_spec hcl; exact ⟨k9, h9⟩) pre x suf hsplit
    (fun z hz => by
      rcases hpass z hz with h | ⟨hz0, nm, hl1, hn1⟩
      · exact Or.inl h
      · obtain ⟨c6, hc6, hcl6⟩ := Cond.classLink_spec hown hl1 e.platform hpl
        obtain ⟨a8, b8, h1, h2, h3⟩ := hn1
        cases Option.some.inj (h1.symm.trans hcl)
        cases Option.some.inj (h2.symm.trans hc6)
        exact Or.inr ⟨hz0, _, hcl6, h3⟩) hx (Or.inr ⟨h0, c4, hcl5, hasg⟩)
  obtain ⟨t, a1, b1⟩ := kk (T.setVm vm') hT X'
  exact ⟨t, st.trans a1, b1⟩
end Rows
section Ends
variable {p : Program} {l : Launch} {e : Env} {R : Room} {s : State} {m : MethodId} {args : Array Value} {below : List Frame} {meth : Method} {c : Code} {H : Heap} {locs : List Loc} {cells slots : Nat} {Q : State → Prop}
variable {mc ms : Nat} {free : Addr → Prop} {A0 A1 : Nat → Prop} {H0 : Heap} {a : Array Value} {ls : Array Slot} {st0 rest : List Value}
variable {Qc : Array Value → State → Outcome → State → Prop} {XC : String → State → State → Prop}
/-- what a body that may throw owes at its end -/
def vx_MQ (below : List Frame) (Qc : Array Value → State → Outcome → State → Prop) (XC : String → State → State → Prop) (a : Array Value) (s : State) (mc ms : Nat) (free : Addr → Prop) : State → Prop := fun t =>
  ∃ o, t.status = .running ∧ Ended t below o ∧ vx_Q Qc XC mc ms free a s o t
theorem vx_ret {g : JFrame} {mc ms : Nat} (k : W p l e R s m args below meth c H locs cells slots (MQ below Qc args s mc ms free) g) : W p l e R s m args below meth c H locs cells slots (vx_MQ below Qc XC args s mc ms free) g := by
  intro T hT X
  obtain ⟨t, a1, o, b1, b2, b3, b4⟩ := k T hT X
  exact ⟨t, a1, o, b1, b2, Or.inl ⟨b3, b4⟩⟩
/-- not caught here: it goes on to the caller -/
theorem vx_widen {g : JFrame} {q : Addr} {k n : Nat} (h1 : cells ≤ k) (h2 : slots ≤ n) (kk : vx_W p l e R s m args below meth c H locs k n Q g q) : vx_W p l e R s m args below meth c H locs cells slots Q g q := fun T hT X => kk T hT (stand_widen X h1 h2)
theorem vx_out {pc : Nat} {E : String} {ce : Cell} {q : Addr} {mc ms : Nat} (hout : ∀ x ∈ c.exceptionTable.toList, covers x pc = false) (hlocks : meth.locks = false) (hcell : H[q]? = some ce) (hv : ce.vm = .none) (hcl : s.vm.findClass E = some ce.cls)
    (hx : ∀ t : State, t.heap = H → s.vm.Alike t.vm → XC E s t) (hf : ∀ z ∈ locs, free z.base) (hc : cells ≤ mc) (hs : slots ≤ ms) :
    vx_W p l e R s m args below meth c H locs cells slots (vx_MQ below Qc XC args s mc ms free) (F0 m pc ls rest) q := by
  intro T hT X
  obtain ⟨st1, hrun, hend, hW, hsm⟩ := X.leaveThrown q (g := F0 m pc ls rest) rfl rfl rfl hout hlocks
  have hcell9 : (T.setFrames (.throwing q :: below)).heap[q]? = some ce := by
    show T.heap[q]? = some ce
    rw [hT]; exact hcell
  exact ⟨_, st1, .threw q, hrun, hend, Or.inr ⟨q, rfl, E, ce, locs, hx _ hT hW.alike, hcell9, hv, hcl, hW, hsm.mono hc hs, hf⟩⟩
theorem vx_frame {U : State} {k n : Nat} (h : s.sameButNew ({ U with vm := s.vm } : State) locs k n) : s.heap.size ≤ U.heap.size ∧ ∀ q : Nat, q < s.heap.size → (∀ z ∈ locs, z.base ≠ q) → U.heap[q]? = s.heap[q]? := by
  obtain ⟨-, h2, -, -, -, h6⟩ := h
  refine ⟨h2, fun q hq hz => ?_⟩
  obtain ⟨c9, e1, e2, e3, e4⟩ := h6 q _ (Array.getElem?_eq_getElem hq)
  have hs : c9.slots = (s.heap[q]).slots := Array.ext_getElem? fun i => e4 i fun hm => hz _ hm rfl
  have h9 : c9 = s.heap[q] := by
    rw [hs] at e2
    exact e2
  have e5 : U.heap[q]? = some c9 := e1
  rw [e5, h9, Array.getElem?_eq_getElem hq]
/-- the words of a throw but the four that speak of the heap -/
def vx_no (w : Cond) : Bool := decide (w ≠ .isRef (.static Bundle.tN "UNASSIGNED_STACK" Bundle.steD)) && decide (w ≠ .isRef (.static Bundle.tN "SUPPRESSED_SENTINEL" Bundle.listD)) && decide (w ≠ .laysStatic Bundle.tN "UNASSIGNED_STACK" Bundle.steD) && decide (w ≠ .laysStatic Bundle.tN "SUPPRESSED_SENTINEL" Bundle.listD)
def vx_at0 (own : String) (ic : Nat) (X : String) (names : List String) : List Cond := (Bundle.ownAtoms0 own ic X names).filter vx_no
def vx_atS (own : String) (ic : Nat) (X : String) (names : List String) : List Cond := (Bundle.ownAtoms own ic X names).filter vx_no
/-- a word that the tables alone decide, or a good one -/
def vx_ot (w : Cond) : Bool := w.onTables || goodWord w
theorem vx_ot_at {args a' : Array Value} {s U : State} {w : Cond} (hW : s.WarmedH U.vm) (hvm : s.vm = U.vm) (hg : vx_ot w = true) (h : w.before args s = true) : w.before a' U = true := by
  simp only [vx_ot, Bool.or_eq_true] at hg
  rcases hg with hg | hg
  · exact va_tabs hg hvm h
  · exact word_at hW (good_of_word hg) h
/-- a list's words: the good ones out of the method's own list, the others by premises of their own -/
theorem vx_hat {args : Array Value} {s : State} {L B : List Cond} (h1 : ∀ w ∈ L.filter goodWord, w.before args s = true) (h2 : ∀ w ∈ L.filter (fun w => !goodWord w), w ∈ B) (h3 : ∀ w ∈ B, w.before args s = true) : ∀ w ∈ L, w.before args s = true := by
  intro w hw
  by_cases g : goodWord w = true
  · exact h1 w (List.mem_filter.mpr ⟨hw, g⟩)
  · refine h3 w (h2 w (List.mem_filter.mpr ⟨hw, ?_⟩))
    show (!goodWord w) = true
    cases hgw : goodWord w
    · rfl
    · exact absurd hgw g
theorem vx_c {args : Array Value} {s : State} {w : Cond} {B : List Cond} (h : w.before args s = true) (t : ∀ w ∈ B, w.before args s = true) : ∀ w' ∈ w :: B, w'.before args s = true := fun w' h' => (List.mem_cons.mp h').elim (fun e => by rw [e]; exact h) (t w')
theorem vx_n {args : Array Value} {s : State} : ∀ w ∈ ([] : List Cond), w.before args s = true := fun _ h => nomatch h
theorem vx_own {args : Array Value} {s : State} {L : List Cond} (h1 : ∀ w ∈ L.filter vx_no, w.before args s = true)
    (hU : (Cond.isRef (.static Bundle.tN "UNASSIGNED_STACK" Bundle.steD)).before args s = true) (hN : (Cond.isRef (.static Bundle.tN "SUPPRESSED_SENTINEL" Bundle.listD)).before args s = true)
    (lU : (Cond.laysStatic Bundle.tN "UNASSIGNED_STACK" Bundle.steD).before args s = true) (lN : (Cond.laysStatic Bundle.tN "SUPPRESSED_SENTINEL" Bundle.listD).before args s = true) : ∀ w ∈ L, w.before args s = true := by
  intro w hw
  by_cases e1 : w = .isRef (.static Bundle.tN "UNASSIGNED_STACK" Bundle.steD)
  · rw [e1]; exact hU
  · by_cases e2 : w = .isRef (.static Bundle.tN "SUPPRESSED_SENTINEL" Bundle.listD)
    · rw [e2]; exact hN
    · by_cases e3 : w = .laysStatic Bundle.tN "UNASSIGNED_STACK" Bundle.steD
      · rw [e3]; exact lU
      · by_cases e4 : w = .laysStatic Bundle.tN "SUPPRESSED_SENTINEL" Bundle.listD
        · rw [e4]; exact lN
        · exact h1 w (List.mem_filter.mpr ⟨hw, by unfold vx_no; rw [decide_eq_true e1, decide_eq_true e2, decide_eq_true e3, decide_eq_true e4]; rfl⟩)
/-- where a static field lies, its class's statics cell in H -/
def vx_L (C n d : String) (A : Nat → Prop) (U : State) (H : Heap) : Prop := ∃ (c : ClassId) (k : Class) (i : Nat) (f : Field) (a : Nat) (cell : Cell), U.vm.findClass C = some c ∧ U.fieldFound? C n d = some (c, k, i, f) ∧ f.isStatic = true ∧ k.statics = some a ∧ H[a]? = some cell ∧ cell.vm.isStatics = true ∧ cell.cls = c ∧ f.slot < cell.slots.size ∧ k.staticTypes[f.slot]? = some f.type ∧ ¬ A a
theorem vx_L.moved {C n d : String} {A : Nat → Prop} {u U : State} {H : Heap} (hvm : u.vm.Alike U.vm) (h : vx_L C n d A u H) : vx_L C n d A U H := by
  obtain ⟨c, k, i, f, a, cell, h1, h2, h3, h4, h5, h6, h7, h8, h9, h10⟩ := h
  obtain ⟨k', hi', he⟩ := State.fieldFound?_setVm hvm h2
  exact ⟨c, k', i, f, a, cell, by rw [hvm.findClass]; exact h1, hi', h3, by rw [he]; exact h4, h5, h6, h7, h8, by rw [he]; exact h9, h10⟩
theorem vx_L.kept {C n d : String} {A : Nat → Prop} {U : State} {H H1 : Heap} (h : vx_L C n d A U H) (hq : ∀ a : Nat, a < H.size → ¬ A a → H1[a]? = H[a]?) : vx_L C n d A U H1 := by
  obtain ⟨c, k, i, f, a, cell, h1, h2, h3, h4, h5, h6, h7, h8, h9, h10⟩ := h
  exact ⟨c, k, i, f, a, cell, h1, h2, h3, h4, by rw [hq a (Array.getElem?_eq_some_iff.mp h5).1 h10]; exact h5, h6, h7, h8, h9, h10⟩
theorem vx_L.narrow {C n d : String} {A B : Nat → Prop} {U : State} {H : Heap} (h : vx_L C n d A U H) (hAB : ∀ q, B q → A q) : vx_L C n d B U H := by
  obtain ⟨c, k, i, f, a, cell, h1, h2, h3, h4, h5, h6, h7, h8, h9, h10⟩ := h
  exact ⟨c, k, i, f, a, cell, h1, h2, h3, h4, h5, h6, h7, h8, h9, fun z => h10 (hAB _ z)⟩
theorem vx_L.word {C n d : String} {A : Nat → Prop} {s : State} {args : Array Value} (h : vx_L C n d A s s.heap) : (Cond.laysStatic C n d).before args s = true := by
  obtain ⟨c, k, i, f, a, cell, h1, h2, h3, h4, h5, h6, h7, h8, h9, -⟩ := h
  show (Cond.laysStatic C n d).holds args s none s [] = true
  exact Cond.laysStatic_of h1 h2 h3 h4 h5 h6 h7 h8 h9
/-- .. and what it holds: null or some reference -/
def vx_Zq (C n d : String) (A : Nat → Prop) (U : State) (H : Heap) : Prop := va_Zq C n d A U H ∧ vx_L C n d A U H
theorem vx_Zq.moved {C n d : String} {A : Nat → Prop} {u U : State} {H : Heap} (hvm : u.vm.Alike U.vm) (h : vx_Zq C n d A u H) : vx_Zq C n d A U H := ⟨va_Zq.moved hvm h.1, vx_L.moved hvm h.2⟩
theorem vx_Zq.kept {C n d : String} {A : Nat → Prop} {U : State} {H H1 : Heap} (h : vx_Zq C n d A U H) (hq : ∀ a : Nat, a < H.size → ¬ A a → H1[a]? = H[a]?) : vx_Zq C n d A U H1 := ⟨va_Zq.kept h.1 hq, vx_L.kept h.2 hq⟩
theorem vx_Zq.narrow {C n d : String} {A B : Nat → Prop} {U : State} {H : Heap} (h : vx_Zq C n d A U H) (hAB : ∀ q, B q → A q) : vx_Zq C n d B U H := ⟨va_Zq.narrow h.1 hAB, vx_L.narrow h.2 hAB⟩
theorem vx_Zqof {args : Array Value} {s : State} {C n d : String} {A : Nat → Prop} (hl : (Cond.laysStatic C n d).before args s = true) (hini : (Cond.initialized C).before args s = true) (h : (Cond.isRef (.static C n d)).before args s = true) (hA : ∀ a : Nat, a < s.heap.size → ¬ A a) : vx_Zq C n d A s s.heap := by
  refine ⟨va_Zqof hl hini h hA, ?_⟩
  obtain ⟨c, k, i, f, a, cell, h1, h2, h3, h4, h5, h6, h7, h8, h9⟩ := Cond.laysStatic_spec hl
  exact ⟨c, k, i, f, a, cell, h1, h2, h3, h4, h5, h6, h7, h8, h9, hA a (Array.getElem?_eq_some_iff.mp h5).1⟩
theorem vx_isRef {C n d : String} {v : Value} {A : Nat → Prop} {s : State} {args : Array Value} (h : va_Z C n d v A s s.heap) (hv : v.isRef = true) : (Cond.isRef (.static C n d)).before args s = true := by
  obtain ⟨cf, kf, fi, f, a, cell, h1, h2, h3, h4, h5, h6, h7, -⟩ := h
  have he : (Term.static C n d).eval args s none [] s = some v := by
    simp [Term.eval, State.fieldNamed?, h1, h2, h4, h5, h6, h7]
  simp only [Cond.before, Cond.holds, Cond.value, he]
  cases v <;> simp_all [Value.isRef]
theorem vx_isRefq {C n d : String} {A : Nat → Prop} {s : State} {args : Array Value} (h : va_Zq C n d A s s.heap) : (Cond.isRef (.static C n d)).before args s = true := by
  rcases h with h | ⟨t, h⟩
  · exact vx_isRef h rfl
  · exact vx_isRef h rfl
/-- the same frame, seen from here: as if the method were called anew in this heap -/
theorem vx_rebase {T : State} (X : Stand p l e R s m args below meth c T locs cells slots) {R' : Room} (hf : R'.frames ≤ R.frames) (hl : R'.locals ≤ R.locals) (hc : cells + R'.cells ≤ R.cells) (hs : slots + R'.slots ≤ R.slots) :
    Stand p l e R' ((T.setVm s.vm).setFrames (.invoking m args :: below)) m args below meth c T [] 0 0 := by
  have htop : (T.setVm s.vm).topJava?.isSome := X.here.top
  have hF : ((T.setVm s.vm).setFrames (.invoking m args :: below)).frames = .invoking m args :: below := State.frames_setFrames _ (State.cur_lt_of_top htop)
  obtain ⟨g₀, hg0⟩ := Option.isSome_iff_exists.mp htop
  obtain ⟨r, hr⟩ := State.topJava?_eq_some.mp hg0
  have hl9 : e.platform.stackLimits (T.setVm s.vm).me = e.platform.stackLimits s.me := X.limits
  have hb9 : (T.setVm s.vm).me.stackBytes = s.me.stackBytes := X.bytes
  refine ⟨X.admits, X.cas, X.clock, hF, ?_, X.hears, X.method, X.code, X.here, X.tail, X.warmed, ?_, ?_, ?_⟩
  · have h := X.room
    have hU : ((T.setVm s.vm).setFrames (.invoking m args :: below)).localsInUse = s.localsInUse := by
      rw [State.localsInUse_invoking hF (meth := meth) (c := c) X.method X.code, State.localsInUse_invoking X.frames X.method X.code]
    simp only [State.hasRoom, Bool.and_eq_true, decide_eq_true_eq] at h ⊢
    obtain ⟨⟨⟨⟨h1, h2, h3, h4, h5, h6⟩, h7⟩, h8⟩, h9⟩ := h
    rw [X.frames, List.length_cons] at h2 h3
    have q1 := X.heapSize
    have q2 := X.used
    simp only [hF, hU, List.length_cons, State.stackLimits_setFrames, State.stackBytes_setFrames, hl9, hb9]
    refine ⟨⟨⟨⟨by omega, by omega, by omega, by omega, by omega, h6⟩, ?_⟩, ?_⟩, X.book⟩
    · show T.heap.size + R'.cells ≤ e.platform.maxCells
      omega
    · show T.slotsUsed + R'.slots ≤ e.platform.maxSlots
      omega
  · rw [State.stackLimits_setFrames]; rfl
  · rw [State.stackBytes_setFrames]; rfl
  · refine ⟨?_, Nat.le_refl _, Nat.le_refl _, ?_, ?_, fun a c9 h9 => ⟨c9, h9, rfl, rfl, fun _ _ => rfl⟩⟩
    · obtain ⟨t, ht, -⟩ := State.frames_cons hr
      show T.setVm s.vm = { ((T.setVm s.vm).setFrames (.invoking m args :: below)).setFrames (T.setVm s.vm).frames with heap := T.heap, slotsUsed := T.slotsUsed }
      rw [State.setFrames_setFrames, State.setFrames_self ht]
      rfl
    · show T.slotsUsed = T.slotsUsed + ((T.heap.toList.drop T.heap.size).map (·.slots.size)).sum
      rw [List.drop_eq_nil_of_le (Nat.le_of_eq Array.length_toList)]
      rfl
    · show ((T.heap.toList.drop T.heap.size).map (·.slots.size)).sum ≤ 0
      rw [List.drop_eq_nil_of_le (Nat.le_of_eq Array.length_toList)]
      exact Nat.le_refl _
/-- 'throw new E()': new; dup; invokespecial; athrow -/
theorem vx_throw0 {cc : ByteArray} {pc : Nat} (hexec : p.tables.exec = Jvm.exec) (hb : c.code = cc) (hl : l.stackTraces = false) {own cls : String} {names : List String} {ik ic mc ms : Nat} {A : Nat → Prop}
    (hown : s.vm.findClass own = some m.cls) (hcls : Bundle.fit cls = true) (hnames : ∀ n ∈ names, Bundle.fit n = true)
    (hk : (Cond.classLink own ik cls).before args s = true) (hini : (Cond.initialized cls).before args s = true) (hat : ∀ w ∈ vx_at0 own ic cls names, w.before args s = true)
    (hgood : ∀ w ∈ Cond.classLink own ik cls :: Cond.initialized cls :: vx_at0 own ic cls names, vx_ot w = true)
    (hU : vx_Zq Bundle.tN "UNASSIGNED_STACK" Bundle.steD A s s.heap) (hN : vx_Zq Bundle.tN "SUPPRESSED_SENTINEL" Bundle.listD A s s.heap) (hS : va_S A s.heap H locs) (hsize : ls.size = c.maxLocals)
    (d0 : decode cc pc = .ok (.new ik, 3)) (d3 : decode cc (pc + 3) = .ok (.dup, 1)) (d4 : decode cc (pc + 4) = .ok (.invokespecial ic, 3)) (d7 : decode cc (pc + 7) = .ok (.athrow, 1))
    (hout : ∀ x ∈ c.exceptionTable.toList, covers x (pc + 7) = false)
    (hRframes : names.length + 3 < R.frames) (hRlocals : (rest.map fun v => v.category).sum + (13 * (names.length + 1) + 42) ≤ R.locals) (hRcells : cells + 1 ≤ R.cells) (hRslots : slots + 6 ≤ R.slots) (hlocks : meth.locks = false)
    (hx : ∀ t : State, s.vm.Alike t.vm → H.size ≤ t.heap.size → (∀ q : Nat, q < H.size → t.heap[q]? = H[q]?) → XC cls s t)
    (hf : ∀ z ∈ locs, free z.base) (hc : cells + 1 ≤ mc) (hs : slots + 6 ≤ ms) :
    W p l e R s m args below meth c H locs cells slots (vx_MQ below Qc XC args s mc ms free) (F0 m pc ls rest) := by
  intro T hT X
  have htr : e.platform.stackTraces = false := (show e.platform.stackTraces = l.stackTraces by rw [X.admits.platform]).trans hl
  have Y := vx_rebase X (R' := { frames := R.frames, locals := R.locals, cells := 1, slots := 6 }) (Nat.le_refl _) (Nat.le_refl _) hRcells hRslots
  obtain ⟨s', hA⟩ : ∃ z, z = (T.setVm s.vm).setFrames (.invoking m args :: below) := ⟨_, rfl⟩
  rw [← hA] at Y
  have hvm : s'.vm = s.vm := by rw [hA]; rfl
  have hhp : s'.heap = H := by rw [hA]; exact hT
  have hW0 : s.WarmedH s'.vm := by rw [hvm]; exact State.WarmedH.refl s
  have hat' : ∀ w ∈ vx_at0 own ic cls names, w.before args s' = true := fun w hw => vx_ot_at hW0 hvm.symm (hgood w (List.mem_cons_of_mem _ (List.mem_cons_of_mem _ hw))) (hat w hw)
  have hk' : (Cond.classLink own ik cls).before args s' = true := vx_ot_at hW0 hvm.symm (hgood _ List.mem_cons_self) hk
  have hini' : (Cond.initialized cls).before args s' = true := vx_ot_at hW0 hvm.symm (hgood _ (List.mem_cons_of_mem _ List.mem_cons_self)) hini
  have hU' : vx_Zq Bundle.tN "UNASSIGNED_STACK" Bundle.steD A s' s'.heap := by rw [hhp]; exact vx_Zq.moved hW0.alike (hU.kept hS.2.1)
  have hN' : vx_Zq Bundle.tN "SUPPRESSED_SENTINEL" Bundle.listD A s' s'.heap := by rw [hhp]; exact vx_Zq.moved hW0.alike (hN.kept hS.2.1)
  have h : ∀ w ∈ Bundle.ownAtoms0 own ic cls names, w.before args s' = true := vx_own hat' (vx_isRefq hU'.1) (vx_isRefq hN'.1) hU'.2.word hN'.2.word
  have hown' : s'.vm.findClass own = some m.cls := by rw [hvm]; exact hown
  have hins : (Cond.instantiable cls 6).before args s' = true := h _ (by simp [Bundle.ownAtoms0])
  obtain ⟨vm₁, cX, kX, hfX, hkX, -, -, X₁, st1⟩ := Y.newCold hexec (own := own) (C := cls) (index := ik) (n := 6) hown' hk' hins hini'
    (g := F0 m pc ls rest) rfl (by rw [hb]; exact d0) (Nat.le_refl _) (Nat.le_refl _)
  generalize hT1 : (T.setVm vm₁).pushCell { cls := cX, slots := kX.instanceTypes.map defaultValue, vm := .none } = T1 at X₁ st1
  have hcat : (Value.ref T.heap.size).category = 1 := rfl
  have hcellA : T1.heap[T.heap.size]? = some (freshCell cX kX) := by rw [← hT1]; exact State.heap_pushCell_size _ _
  have d3' : decode c.code (pc + 3) = .ok (.dup, 1) := by rw [hb]; exact d3
  obtain ⟨U, hsteps, hrun, hend, hW, hsame, ce, hce, hO⟩ := X₁.ctorThrow0 hexec htr (own := own) (cls := cls) (names := names) (ic := ic) hown' hcls hnames h (fun x hx => nomatch hx) hfX hkX hcellA (by rw [hhp, hT]; exact Nat.le_refl _)
    (g := { method := m, pc := pc + 4, locals := ls, stack := .ref T.heap.size :: .ref T.heap.size :: rest, locked := none }) rfl hsize rfl rfl (rest := rest) rfl
    (by rw [hb]; exact d4) (by rw [hb]; exact d7) hout hRframes (by simp only [List.map_cons, List.sum_cons, hcat]; omega) hlocks
  obtain ⟨f1, f2⟩ := vx_frame hsame
  rw [hhp] at f1 f2
  have hWs : s.WarmedH U.vm := State.WarmedH.trans hW0 hW
  have hcl : s.vm.findClass cls = some ce.cls := by
    have h9 := hO.cls
    rw [hvm] at h9
    exact h9
  have hall : s.sameButNew ({ U with vm := s.vm } : State) locs mc ms := by
    subst hA
    obtain ⟨e1, e2⟩ := hsame
    rw [State.setFrames_setFrames] at e1
    have h2 : (T.setVm s.vm).sameButNew ({ U with vm := s.vm } : State) [] (0 + 1) (0 + 6) := ⟨e1, e2⟩
    have h3 := X.same.trans h2
    rw [List.append_nil] at h3
    exact h3.mono hc hs
  refine ⟨U, ?_, .threw T.heap.size, hrun, hend, Or.inr ⟨T.heap.size, rfl, cls, ce, locs, hx U hWs.alike f1 (fun q hq => f2 q hq (fun z hz => nomatch hz)), hce, hO.vm, hcl, hWs, hall, hf⟩⟩
  refine st1 _ ?_
  show Steps p.tables e below (T1.setTop { method := m, pc := pc + 3, locals := ls, stack := .ref T.heap.size :: rest, locked := none }) _
  jvm_step X₁.here [X₁.here.top, hexec, d3', Value.category]
  exact hsteps
/-- 'throw new E("text")': new; dup; ldc; invokespecial; athrow -/
theorem vx_throwS {cc : ByteArray} {pc : Nat} (hexec : p.tables.exec = Jvm.exec) (hb : c.code = cc) (hl : l.stackTraces = false) {own cls text : String} {names : List String} {ik is ic mc ms sa : Nat} {A : Nat → Prop}
    (hown : s.vm.findClass own = some m.cls) (hcls : Bundle.fit cls = true) (hnames : ∀ n ∈ names, Bundle.fit n = true)
    (hk : (Cond.classLink own ik cls).before args s = true) (hini : (Cond.initialized cls).before args s = true) (hstr : vk_R own is text sa s) (hat : ∀ w ∈ vx_atS own ic cls names, w.before args s = true)
    (hgood : ∀ w ∈ Cond.classLink own ik cls :: Cond.initialized cls :: vx_atS own ic cls names, vx_ot w = true)
    (hU : vx_Zq Bundle.tN "UNASSIGNED_STACK" Bundle.steD A s s.heap) (hN : vx_Zq Bundle.tN "SUPPRESSED_SENTINEL" Bundle.listD A s s.heap) (hS : va_S A s.heap H locs) (hsize : ls.size = c.maxLocals)
    (d0 : decode cc pc = .ok (.new ik, 3)) (d3 : decode cc (pc + 3) = .ok (.dup, 1)) (d4 : decode cc (pc + 4) = .ok (.ldc is, 2)) (d6 : decode cc (pc + 6) = .ok (.invokespecial ic, 3)) (d9 : decode cc (pc + 9) = .ok (.athrow, 1))
    (hout : ∀ x ∈ c.exceptionTable.toList, covers x (pc + 9) = false)
    (hRframes : names.length + 3 < R.frames) (hRlocals : (rest.map fun v => v.category).sum + (13 * (names.length + 1) + 43) ≤ R.locals) (hRcells : cells + 1 ≤ R.cells) (hRslots : slots + 6 ≤ R.slots) (hlocks : meth.locks = false)
    (hx : ∀ t : State, s.vm.Alike t.vm → H.size ≤ t.heap.size → (∀ q : Nat, q < H.size → t.heap[q]? = H[q]?) → XC cls s t)
    (hf : ∀ z ∈ locs, free z.base) (hc : cells + 1 ≤ mc) (hs : slots + 6 ≤ ms) :
    W p l e R s m args below meth c H locs cells slots (vx_MQ below Qc XC args s mc ms free) (F0 m pc ls rest) := by
  intro T hT X
  have htr : e.platform.stackTraces = false := (show e.platform.stackTraces = l.stackTraces by rw [X.admits.platform]).trans hl
  have Y := vx_rebase X (R' := { frames := R.frames, locals := R.locals, cells := 1, slots := 6 }) (Nat.le_refl _) (Nat.le_refl _) hRcells hRslots
  obtain ⟨s', hA⟩ : ∃ z, z = (T.setVm s.vm).setFrames (.invoking m args :: below) := ⟨_, rfl⟩
  rw [← hA] at Y
  have hvm : s'.vm = s.vm := by rw [hA]; rfl
  have hhp : s'.heap = H := by rw [hA]; exact hT
  have hW0 : s.WarmedH s'.vm := by rw [hvm]; exact State.WarmedH.refl s
  have hat' : ∀ w ∈ vx_atS own ic cls names, w.before args s' = true := fun w hw => vx_ot_at hW0 hvm.symm (hgood w (List.mem_cons_of_mem _ (List.mem_cons_of_mem _ hw))) (hat w hw)
  have hk' : (Cond.classLink own ik cls).before args s' = true := vx_ot_at hW0 hvm.symm (hgood _ List.mem_cons_self) hk
  have hini' : (Cond.initialized cls).before args s' = true := vx_ot_at hW0 hvm.symm (hgood _ (List.mem_cons_of_mem _ List.mem_cons_self)) hini
  have hU' : vx_Zq Bundle.tN "UNASSIGNED_STACK" Bundle.steD A s' s'.heap := by rw [hhp]; exact vx_Zq.moved hW0.alike (hU.kept hS.2.1)
  have hN' : vx_Zq Bundle.tN "SUPPRESSED_SENTINEL" Bundle.listD A s' s'.heap := by rw [hhp]; exact vx_Zq.moved hW0.alike (hN.kept hS.2.1)
  have h : ∀ w ∈ Bundle.ownAtoms own ic cls names, w.before args s' = true := vx_own hat' (vx_isRefq hU'.1) (vx_isRefq hN'.1) hU'.2.word hN'.2.word
  have hown' : s'.vm.findClass own = some m.cls := by rw [hvm]; exact hown
  have hins : (Cond.instantiable cls 6).before args s' = true := h _ (by simp [Bundle.ownAtoms])
  obtain ⟨vm₁, cX, kX, hfX, hkX, -, -, X₁, st1⟩ := Y.newCold hexec (own := own) (C := cls) (index := ik) (n := 6) hown' hk' hins hini'
    (g := F0 m pc ls rest) rfl (by rw [hb]; exact d0) (Nat.le_refl _) (Nat.le_refl _)
  generalize hT1 : (T.setVm vm₁).pushCell { cls := cX, slots := kX.instanceTypes.map defaultValue, vm := .none } = T1 at X₁ st1
  have hcat : (Value.ref T.heap.size).category = 1 := rfl
  have hcellA : T1.heap[T.heap.size]? = some (freshCell cX kX) := by rw [← hT1]; exact State.heap_pushCell_size _ _
  have d3' : decode c.code (pc + 3) = .ok (.dup, 1) := by rw [hb]; exact d3
  have d4' : decode c.code (pc + 4) = .ok (.ldc is, 2) := by rw [hb]; exact d4
  have hstr' : vk_R own is text sa s' := vk_R.warm hW0 hstr
  obtain ⟨U, hsteps, hrun, hend, hW, hsame, ce, hce, hO⟩ := X₁.ctorThrowS hexec htr (own := own) (cls := cls) (names := names) (ic := ic) hown' hcls hnames h (fun x hx => nomatch hx) hfX hkX hcellA (by rw [hhp, hT]; exact Nat.le_refl _) (msg := .ref sa) rfl
    (g := { method := m, pc := pc + 6, locals := ls, stack := .ref sa :: .ref T.heap.size :: .ref T.heap.size :: rest, locked := none }) rfl hsize rfl rfl (rest := rest) rfl
    (by rw [hb]; exact d6) (by rw [hb]; exact d9) hout hRframes (by simp only [List.map_cons, List.sum_cons, hcat]; omega) hlocks
  obtain ⟨f1, f2⟩ := vx_frame hsame
  rw [hhp] at f1 f2
  have hWs : s.WarmedH U.vm := State.WarmedH.trans hW0 hW
  have hcl : s.vm.findClass cls = some ce.cls := by
    have h9 := hO.cls
    rw [hvm] at h9
    exact h9
  have hall : s.sameButNew ({ U with vm := s.vm } : State) locs mc ms := by
    subst hA
    obtain ⟨e1, e2⟩ := hsame
    rw [State.setFrames_setFrames] at e1
    have h2 : (T.setVm s.vm).sameButNew ({ U with vm := s.vm } : State) [] (0 + 1) (0 + 6) := ⟨e1, e2⟩
    have h3 := X.same.trans h2
    rw [List.append_nil] at h3
    exact h3.mono hc hs
  refine ⟨U, ?_, .threw T.heap.size, hrun, hend, Or.inr ⟨T.heap.size, rfl, cls, ce, locs, hx U hWs.alike f1 (fun q hq => f2 q hq (fun z hz => nomatch hz)), hce, hO.vm, hcl, hWs, hall, hf⟩⟩
  refine st1 _ ?_
  show Steps p.tables e below (T1.setTop { method := m, pc := pc + 3, locals := ls, stack := .ref T.heap.size :: rest, locked := none }) _
  jvm_step X₁.here [X₁.here.top, hexec, d3', Value.category]
  exact X₁.ldcString hexec (own := own) (text := text) (index := is) (a := sa) hown' hstr'.1 hstr'.2
    (g := { method := m, pc := pc + 4, locals := ls, stack := .ref T.heap.size :: .ref T.heap.size :: rest, locked := none }) rfl d4' _ hsteps
/-- 'throw new E("text")', the text by a wide index -/
theorem vx_throwSW {cc : ByteArray} {pc : Nat} (hexec : p.tables.exec = Jvm.exec) (hb : c.code = cc) (hl : l.stackTraces = false) {own cls text : String} {names : List String} {ik is ic mc ms sa : Nat} {A : Nat → Prop}
    (hown : s.vm.findClass own = some m.cls) (hcls : Bundle.fit cls = true) (hnames : ∀ n ∈ names, Bundle.fit n = true)
    (hk : (Cond.classLink own ik cls).before args s = true) (hini : (Cond.initialized cls).before args s = true) (hstr : vk_R own is text sa s) (hat : ∀ w ∈ vx_atS own ic cls names, w.before args s = true)
    (hgood : ∀ w ∈ Cond.classLink own ik cls :: Cond.initialized cls :: vx_atS own ic cls names, vx_ot w = true)
    (hU : vx_Zq Bundle.tN "UNASSIGNED_STACK" Bundle.steD A s s.heap) (hN : vx_Zq Bundle.tN "SUPPRESSED_SENTINEL" Bundle.listD A s s.heap) (hS : va_S A s.heap H locs) (hsize : ls.size = c.maxLocals)
    (d0 : decode cc pc = .ok (.new ik, 3)) (d3 : decode cc (pc + 3) = .ok (.dup, 1)) (d4 : decode cc (pc + 4) = .ok (.ldc_w is, 3)) (d7 : decode cc (pc + 7) = .ok (.invokespecial ic, 3)) (d10 : decode cc (pc + 10) = .ok (.athrow, 1))
    (hout : ∀ x ∈ c.exceptionTable.toList, covers x (pc + 10) = false)
    (hRframes : names.length + 3 < R.frames) (hRlocals : (rest.map fun v => v.category).sum + (13 * (names.length + 1) + 43) ≤ R.locals) (hRcells : cells + 1 ≤ R.cells) (hRslots : slots + 6 ≤ R.slots) (hlocks : meth.locks = false)
    (hx : ∀ t : State, s.vm.Alike t.vm → H.size ≤ t.heap.size → (∀ q : Nat, q < H.size → t.heap[q]? = H[q]?) → XC cls s t)
    (hf : ∀ z ∈ locs, free z.base) (hc : cells + 1 ≤ mc) (hs : slots + 6 ≤ ms) :
    W p l e R s m args below meth c H locs cells slots (vx_MQ below Qc XC args s mc ms free) (F0 m pc ls rest) := by
  intro T hT X
  have htr : e.platform.stackTraces = false := (show e.platform.stackTraces = l.stackTraces by rw [X.admits.platform]).trans hl
  have Y := vx_rebase X (R' := { frames := R.frames, locals := R.locals, cells := 1, slots := 6 }) (Nat.le_refl _) (Nat.le_refl _) hRcells hRslots
  obtain ⟨s', hA⟩ : ∃ z, z = (T.setVm s.vm).setFrames (.invoking m args :: below) := ⟨_, rfl⟩
  rw [← hA] at Y
  have hvm : s'.vm = s.vm := by rw [hA]; rfl
  have hhp : s'.heap = H := by rw [hA]; exact hT
  have hW0 : s.WarmedH s'.vm := by rw [hvm]; exact State.WarmedH.refl s
  have hat' : ∀ w ∈ vx_atS own ic cls names, w.before args s' = true := fun w hw => vx_ot_at hW0 hvm.symm (hgood w (List.mem_cons_of_mem _ (List.mem_cons_of_mem _ hw))) (hat w hw)
  have hk' : (Cond.classLink own ik cls).before args s' = true := vx_ot_at hW0 hvm.symm (hgood _ List.mem_cons_self) hk
  have hini' : (Cond.initialized cls).before args s' = true := vx_ot_at hW0 hvm.symm (hgood _ (List.mem_cons_of_mem _ List.mem_cons_self)) hini
  have hU' : vx_Zq Bundle.tN "UNASSIGNED_STACK" Bundle.steD A s' s'.heap := by rw [hhp]; exact vx_Zq.moved hW0.alike (hU.kept hS.2.1)
  have hN' : vx_Zq Bundle.tN "SUPPRESSED_SENTINEL" Bundle.listD A s' s'.heap := by rw [hhp]; exact vx_Zq.moved hW0.alike (hN.kept hS.2.1)
  have h : ∀ w ∈ Bundle.ownAtoms own ic cls names, w.before args s' = true := vx_own hat' (vx_isRefq hU'.1) (vx_isRefq hN'.1) hU'.2.word hN'.2.word
  have hown' : s'.vm.findClass own = some m.cls := by rw [hvm]; exact hown
  have hins : (Cond.instantiable cls 6).before args s' = true := h _ (by simp [Bundle.ownAtoms])
  obtain ⟨vm₁, cX, kX, hfX, hkX, -, -, X₁, st1⟩ := Y.newCold hexec (own := own) (C := cls) (index := ik) (n := 6) hown' hk' hins hini'
    (g := F0 m pc ls rest) rfl (by rw [hb]; exact d0) (Nat.le_refl _) (Nat.le_refl _)
  generalize hT1 : (T.setVm vm₁).pushCell { cls := cX, slots := kX.instanceTypes.map defaultValue, vm := .none } = T1 at X₁ st1
  have hcat : (Value.ref T.heap.size).category = 1 := rfl
  have hcellA : T1.heap[T.heap.size]? = some (freshCell cX kX) := by rw [← hT1]; exact State.heap_pushCell_size _ _
  have d3' : decode c.code (pc + 3) = .ok (.dup, 1) := by rw [hb]; exact d3
  have d4' : decode c.code (pc + 4) = .ok (.ldc_w is, 3) := by rw [hb]; exact d4
  have hstr' : vk_R own is text sa s' := vk_R.warm hW0 hstr
  obtain ⟨U, hsteps, hrun, hend, hW, hsame, ce, hce, hO⟩ := X₁.ctorThrowS hexec htr (own := own) (cls := cls) (names := names) (ic := ic) hown' hcls hnames h (fun x hx => nomatch hx) hfX hkX hcellA (by rw [hhp, hT]; exact Nat.le_refl _) (msg := .ref sa) rfl
    (g := { method := m, pc := pc + 7, locals := ls, stack := .ref sa :: .ref T.heap.size :: .ref T.heap.size :: rest, locked := none }) rfl hsize rfl rfl (rest := rest) rfl
    (by rw [hb]; exact d7) (by rw [hb]; exact d10) hout hRframes (by simp only [List.map_cons, List.sum_cons, hcat]; omega) hlocks
  obtain ⟨f1, f2⟩ := vx_frame hsame
  rw [hhp] at f1 f2
  have hWs : s.WarmedH U.vm := State.WarmedH.trans hW0 hW
  have hcl : s.vm.findClass cls = some ce.cls := by
    have h9 := hO.cls
    rw [hvm] at h9
    exact h9
  have hall : s.sameButNew ({ U with vm := s.vm } : State) locs mc ms := by
    subst hA
    obtain ⟨e1, e2⟩ := hsame
    rw [State.setFrames_setFrames] at e1
    have h2 : (T.setVm s.vm).sameButNew ({ U with vm := s.vm } : State) [] (0 + 1) (0 + 6) := ⟨e1, e2⟩
    have h3 := X.same.trans h2
    rw [List.append_nil] at h3
    exact h3.mono hc hs
  refine ⟨U, ?_, .threw T.heap.size, hrun, hend, Or.inr ⟨T.heap.size, rfl, cls, ce, locs, hx U hWs.alike f1 (fun q hq => f2 q hq (fun z hz => nomatch hz)), hce, hO.vm, hcl, hWs, hall, hf⟩⟩
  refine st1 _ ?_
  show Steps p.tables e below (T1.setTop { method := m, pc := pc + 3, locals := ls, stack := .ref T.heap.size :: rest, locked := none }) _
  jvm_step X₁.here [X₁.here.top, hexec, d3', Value.category]
  exact X₁.ldcStringW hexec (own := own) (text := text) (index := is) (a := sa) hown' hstr'.1 hstr'.2
    (g := { method := m, pc := pc + 4, locals := ls, stack := .ref T.heap.size :: .ref T.heap.size :: rest, locked := none }) rfl d4' _ hsteps
end Ends
section Bodies
variable {l : Launch}
theorem vx_ofW {y : MethodName} {ws ws' : List Cond} {rm : Room} {Pc : Array Value → State → Prop} {Qc : Array Value → State → Outcome → State → Prop} {XC : String → State → State → Prop} {mc ms : Nat} {free : Addr → Prop} {cc : ByteArray} {maxL : Nat} {ret : Option FieldType}
    (hy : plainName y.cls = true) (hw : ws = Cond.code y cc maxL ret :: ws')
    (body : ∀ p e s m args below meth c s₁, BodyLoose p l y (headSpec ws rm) cc maxL ret e s m args below meth c s₁ → c.maxLocals = maxL → (∀ x ∈ c.exceptionTable.toList, False) → Pc args s →
      W p l e (headSpec ws rm).room s m args below meth c s.heap [] 0 0 (vx_MQ below Qc XC args s mc ms free) (entryFrame m args maxL)) : vx_Met l y ws rm Pc Qc XC mc ms free := by
  refine MetFree.of_bodyS (code := cc) (maxLocals := maxL) (ret := ret) hy ?_ ?_
  · intro args s m h hn
    obtain ⟨meth, c, h1, h2, h3, h4, h5, h6, -, -⟩ := Cond.code_spec hn (atoms_spec (ws := ws) h _ (by rw [hw]; exact List.mem_cons_self))
    exact ⟨meth, c, h1, h2, h3, h4, h5, h6⟩
  · intro p e s m args below meth c s₁ B hml hP _
    have hh0 : s₁.heap = s.heap := by rw [B.state]; rfl
    have ht : ∀ x ∈ c.exceptionTable.toList, False := by
      obtain ⟨meth9, c9, h1, h2, -, -, -, -, h7, -⟩ := Cond.code_spec B.named (atoms_spec (ws := ws) B.pre _ (by rw [hw]; exact List.mem_cons_self))
      cases Option.some.inj (h1.symm.trans B.method)
      cases Option.some.inj (h2.symm.trans (Stand.of_body B).code)
      intro x hx
      rw [Array.isEmpty_iff.mp h7] at hx
      cases hx
    obtain ⟨t, a1, o, b1, b2, b3⟩ := body p e s m args below meth c s₁ B hml ht hP s₁ hh0 (Stand.of_body B)
    exact ⟨t, o, a1, b1, b2, b3⟩
/-- the table of a body with handlers -/
theorem vx_table {p : Program} {x y : MethodName} {S : Spec} {cc bytes : ByteArray} {maxL maxL' : Nat} {ret ret' : Option FieldType} {e : Env} {s s₁ : State} {m : MethodId} {args : Array Value} {below : List Frame} {meth : Method} {c : Code} {hh : List (Nat × Nat × Nat × Nat)}
    (B : BodyLoose p l y S cc maxL ret e s m args below meth c s₁) (h : (Cond.codeWith y bytes maxL' ret' hh).before args s = true) : c.exceptionTable.toList = tableOf hh := by
  obtain ⟨m9, meth9, c9, hn9, h1, h2, -, -, h6, -⟩ := Cond.codeWith_spec h
  cases Option.some.inj (hn9.symm.trans B.named)
  cases Option.some.inj (h1.symm.trans B.method)
  cases Option.some.inj (h2.symm.trans (Stand.of_body B).code)
  rw [← h6, table_eq]
end Bodies
end VXA
/-! ===== END ===== -/
/-! ===== BEGIN a static call of a method with an exception table ===== -/
section VXS
variable {p : Program} {l : Launch} {e : Env} {R : Room} {s : State} {m : MethodId} {args : Array Value} {below : List Frame} {meth : Method} {c : Code} {T : State} {H : Heap} {locs : List Loc} {cells slots : Nat}
abbrev vx_CSW (R : Room) (s : State) (args : Array Value) (own : String) (index : Nat) (y : MethodName) (bytes : ByteArray) (maxL : Nat) (ret : Option FieldType) (hh : List (Nat × Nat × Nat × Nat)) (ws : List Cond) (rm : Room) (mc ms n : Nat) : Prop :=
  (rm.cells = mc ∧ rm.slots = ms ∧ rm.frames + 1 ≤ R.frames ∧ 8 + (maxL + 11) + rm.locals ≤ R.locals ∧ (∀ w ∈ ws, ∀ (a' : Array Value) (U : State), s.WarmedH U.vm → w.before a' U = true) ∧ Cond.codeWith y bytes maxL ret hh ∈ ws) ∧
  (Cond.codeWith y bytes maxL ret hh).before args s = true ∧ (Cond.initialized y.cls).before args s = true ∧ (y.cls ≠ "java/lang/invoke/MethodHandle" ∧ y.cls ≠ "java/lang/invoke/VarHandle") ∧
  (∀ sig, parseMethodDescriptor y.desc = some sig → n = sig.parameters.length) ∧ (Cond.methodLink own index y).before args s = true ∧ (Cond.static y).before args s = true
theorem vx_cwSW {own : String} {index maxL mc ms : Nat} {y : MethodName} {bytes : ByteArray} {ret : Option FieldType} {hh : List (Nat × Nat × Nat × Nat)} {Ts ws ws' : List Cond} {rm : Room} (n : Nat) (ht : ∀ w ∈ Ts, w.before args s = true) (hT : GoodIn Ts (va_wsS own index y ws)) (hw : ws = Cond.codeWith y bytes maxL ret hh :: ws') (hrc : rm.cells = mc) (hrs : rm.slots = ms)
    (hd : y.cls ≠ "java/lang/invoke/MethodHandle" ∧ y.cls ≠ "java/lang/invoke/VarHandle" ∧ (parseMethodDescriptor y.desc).map (fun d => d.parameters.length) = some n) (hR : rm.frames + 1 ≤ R.frames ∧ 8 + (maxL + 11) + rm.locals ≤ R.locals) :
    vx_CSW R s args own index y bytes maxL ret hh ws rm mc ms n := by
  have ok : ∀ w ∈ va_wsS own index y ws, w.before args s = true := fun w h => ht w (hT w h).1
  have hG : GoodIn Ts ws := fun w h => hT w (by unfold va_wsS; exact List.mem_append_right _ h)
  have hc : Cond.codeWith y bytes maxL ret hh ∈ ws := by rw [hw]; exact List.mem_cons_self
  refine ⟨⟨hrc, hrs, hR.1, hR.2, pay_in ht hG, hc⟩, ht _ (hG _ hc).1, ok _ (by simp [va_wsS]), ⟨hd.1, hd.2.1⟩, fun sig h => ?_, ok _ (by simp [va_wsS]), ok _ (by simp [va_wsS])⟩
  have h2 := hd.2.2
  rw [h] at h2
  exact (Option.some.inj h2).symm
theorem vx_callSW (X : Stand p l e R s m args below meth c T locs cells slots) (hexec : p.tables.exec = Jvm.exec) {own : String} {index : Nat} {y : MethodName} {bytes : ByteArray} {maxL : Nat} {ret : Option FieldType} {hh : List (Nat × Nat × Nat × Nat)}
    (hown : s.vm.findClass own = some m.cls) (hlink : (Cond.methodLink own index y).before args s = true) (hstat : (Cond.static y).before args s = true) (hinit : (Cond.initialized y.cls).before args s = true)
    (hcode : (Cond.codeWith y bytes maxL ret hh).before args s = true) (hy : y.cls ≠ "java/lang/invoke/MethodHandle" ∧ y.cls ≠ "java/lang/invoke/VarHandle")
    {W9 : Nat} {Pre : Pt → Array Value → Prop} {Post : Pt → Array Value → Option Value → Pt → Prop} (hK : Back l R p e below s args y 3 W9 Pre Post)
    {g : JFrame} (hg : g.method = m) (hsize : g.locals.size = c.maxLocals) {argsL rest : List Value} (hlen : ∀ sig, parseMethodDescriptor y.desc = some sig → argsL.length = sig.parameters.length)
    (hstack : g.stack = argsL.reverse ++ rest) (hW : 2 * g.monitorRoom + (rest.map fun v => v.category).sum ≤ W9) (hdg : decode c.code g.pc = .ok (.invokestatic index, 3))
    (hpre : ∀ vm₁, s.WarmedH vm₁ → Pre ⟨T.setVm vm₁, locs, cells, slots⟩ argsL.toArray) :
    ∃ (v : Option Value) (vm₁ : Vm) (B : Pt), s.WarmedH vm₁ ∧ Stand p l e R s m args below meth c B.U B.locs B.cells B.slots ∧ Post ⟨T.setVm vm₁, locs, cells, slots⟩ argsL.toArray v B ∧
      ∀ target, Steps p.tables e below (B.U.setTop { g with pc := g.pc + 3, stack := v.toList ++ rest }) target → Steps p.tables e below (T.setTop g) target := by
  obtain ⟨mk, methM, cM, hnamed, hmethM, -, -, -, -, -, -, hsigM⟩ := Cond.codeWith_spec hcode
  have hstatic : methM.isStatic = true := Cond.static_spec hnamed hmethM hstat
  obtain ⟨kP, hkP, -⟩ := className_of_methodNamed hnamed
  have hinitP : kP.init = .initialized := Cond.initialized_spec (findClass_of_methodNamed hnamed) hkP hinit
  obtain ⟨vm₁, X₁, hstep₁⟩ := X.invokestatic hexec hown hlink hnamed hmethM hstatic hkP hinitP hy (g := g) hg (argsL := argsL) (rest := rest) (hlen _ hsigM) hstack hdg
  obtain ⟨v, B, X', hpost, hsteps⟩ := hK m meth c ⟨T.setVm vm₁, locs, cells, slots⟩ { g with stack := rest } (.invokestatic index) mk argsL.toArray X₁ hg hsize hdg hW (X₁.named hnamed) (hpre vm₁ X₁.warmed)
  exact ⟨v, vm₁, B, X₁.warmed, X', hpost, fun target h => hstep₁ _ fun acts => by rw [doInvoke_state]; exact hsteps.trans h⟩
theorem vx_runSW {y : MethodName} {bytes cc : ByteArray} {maxL nL mc ms n index : Nat} {ret : Option FieldType} {hh : List (Nat × Nat × Nat × Nat)} {ws : List Cond} {rm : Room} {Pc : Array Value → State → Prop} {Qc : Array Value → State → Outcome → State → Prop} {free : Addr → Prop} {Ts : List Cond} {own : String} {As rest : List Value} {g : JFrame}
    (S : CallFix p m c cc nL s args Ts own) (hM : Met l y ws rm Pc Qc mc ms free) (cw : vx_CSW R s args own index y bytes maxL ret hh ws rm mc ms n) (hp : PreS s H Pc As)
    (hg : g.method = m) (hn : As.length = n) (hsize : g.locals.size = nL) (hstack : g.stack = As.reverse ++ rest) (hW : 2 * g.monitorRoom + (rest.map fun v => v.category).sum ≤ 8) (hdg : decode cc g.pc = .ok (.invokestatic index, 3)) (hf : cells + mc ≤ R.cells ∧ slots + ms ≤ R.slots) :
    va_Run p l e R s m args below meth c H locs cells slots mc ms g rest (Qc As.toArray) (free) := by
  obtain ⟨⟨hrc, hrs, hfr, hlo, hws, hcw⟩, hcode, hini, hy, hlen, hl, hstt⟩ := cw
  have hK : Back l R p e below s args y 3 8 (PreOf R mc ms Pc) (PostOf Qc mc ms free) := va_backW (hh := hh) (bytes := bytes) (maxL := maxL) (ret := ret) hM hp.1 hrc hrs hfr hlo hws hcw (fun a' U hW => word_at hW (Or.inl (by first | rfl | simp [Cond.onTables, Cond.keeps, Cond.steady])) hini)
  obtain ⟨hx, hb, hml, ho, -⟩ := S
  intro T hT X
  obtain ⟨v, vm₁, ⟨U', l2, c2, s2⟩, hW₁, X', ⟨g', mk, t, L, e1, e2, hq, h1, hL, h2, h3⟩, st⟩ := vx_callSW X hx (hh := hh) (bytes := bytes) (maxL := maxL) (ret := ret) ho hl hstt hini hcode hy hK hg (hsize.trans hml.symm) (argsL := As) (rest := rest) (fun sig h => hn.trans (hlen sig h)) hstack hW (by rw [hb]; exact hdg)
    (fun vm₁ hW₁ => ⟨hf.1, hf.2, hp.2 (T.setVm vm₁) hT hW₁⟩)
  dsimp only [Pt.U, Pt.locs, Pt.cells, Pt.slots] at X' e1 e2 h1 h2 h3 st
  subst h1; subst h2; subst h3
  exact ⟨v, (T.setVm vm₁).calling g' mk As.toArray, t, U', L, hT, X', hL, e1, e2, hq, st⟩
/-- not caught here, past rows that name other classes: it goes on to the caller -/
theorem vx_outP {p : Program} {l : Launch} {e : Env} {R : Room} {s : State} {m : MethodId} {args : Array Value} {below : List Frame} {meth : Method} {c : Code} {H : Heap} {locs : List Loc} {cells slots : Nat} {free : Addr → Prop} {ls : Array Slot} {rest : List Value} {Qc : Array Value → State → Outcome → State → Prop} {XC : String → State → State → Prop}
    {pc : Nat} {own E : String} {ce : Cell} {q : Addr} {mc ms : Nat} (hown : s.vm.findClass own = some m.cls) (hlocks : meth.locks = false)
    (hpass : ∀ z ∈ c.exceptionTable.toList, covers z pc = false ∨ (z.catchType ≠ 0 ∧ ∃ nm : String, (Cond.classLink own z.catchType nm).before args s = true ∧ va_Nc E nm s)) (hcell : H[q]? = some ce) (hv : ce.vm = .none) (hcl : s.vm.findClass E = some ce.cls)
    (hx : ∀ t : State, t.heap = H → s.vm.Alike t.vm → XC E s t) (hf : ∀ z ∈ locs, free z.base) (hc : cells ≤ mc) (hs : slots ≤ ms) :
    vx_W p l e R s m args below meth c H locs cells slots (vx_MQ below Qc XC args s mc ms free) (F0 m pc ls rest) q := by
  intro T hT X
  have hpl : e.platform.magicAccessors = ({} : Platform).magicAccessors := by rw [X.admits.platform]
  obtain ⟨vm', hW', X', st⟩ := X.outThrough hlocks q (g := F0 m pc ls rest) rfl rfl rfl (cell := ce) (by rw [hT]; exact hcell) (by rw [hv]; rfl)
    (by obtain ⟨k9, h9, -⟩ := Vm.findClass_spec hcl; exact ⟨k9, h9⟩) (fun z hz => by
      rcases hpass z hz with h | ⟨hz0, nm, hl1, hn1⟩
      · exact Or.inl h
      · obtain ⟨c6, hc6, hcl6⟩ := Cond.classLink_spec hown hl1 e.platform hpl
        obtain ⟨a8, b8, h1, h2, h3⟩ := hn1
        cases Option.some.inj (h1.symm.trans hcl)
        cases Option.some.inj (h2.symm.trans hc6)
        exact Or.inr ⟨hz0, _, hcl6, h3⟩)
  obtain ⟨g₀, hfr⟩ := X'.frames_eq
  have hcell9 : ((T.setVm vm').setFrames (.throwing q :: below)).heap[q]? = some ce := by
    show T.heap[q]? = some ce
    rw [hT]; exact hcell
  have hend : Ended ((T.setVm vm').setFrames (.throwing q :: below)) below (.threw q) := State.frames_setFrames _ (State.cur_lt_of_frames hfr)
  refine ⟨(T.setVm vm').setFrames (.throwing q :: below), ?_, .threw q, X'.here.running, hend, Or.inr ⟨q, rfl, E, ce, locs, hx _ hT (X'.ends _).1.alike, hcell9, hv, hcl, (X'.ends _).1, (X'.ends _).2.mono hc hs, hf⟩⟩
  rw [X.pushThrowing_eq]
  exact st
/-- a thing of a world lies in the heap -/
theorem vx_lt {D : va_G} {cl : List vw_C} {ws : va_W} {H1 : Heap} (h : va_P D cl ws H1) {k : Nat} {q : Nat × va_E} (hk : ws[k]? = some q) : q.1 < H1.size := (h k q hk).lt
end VXS
/-! ===== END ===== -/
/-! ===== BEGIN methods with a table of their own: called by a name, returning or throwing ===== -/
section VXH
/-! vx_backW, vx_callVX, vx_callSX, vx_callVW, vx_runVW, vx_runVX, vx_runSX, vx_ofWH follow the same proofs as their sisters above (Free/Laws.lean, Shelf42/LK1.lean); vx_outP calls Shelf42/NT130.lean (outThrough). -/
section
variable {l : Launch} {R : Room} {p : Program} {e : Env} {below : List Frame} {s : State} {sargs : Array Value} {y : MethodName} {len W9 : Nat}
theorem vx_backW {ws : List Cond} {rm : Room} {Pc : Array Value → State → Prop} {Qc : Array Value → State → Outcome → State → Prop} {XC : String → State → State → Prop} {mc ms : Nat} {free : Addr → Prop} {bytes : ByteArray} {maxL : Nat} {ret : Option FieldType} {hh : List (Nat × Nat × Nat × Nat)}
    (hM : vx_Met l y ws rm Pc Qc XC mc ms free) (hblind : FrameBlind Pc) (hrc : rm.cells = mc) (hrs : rm.slots = ms)
    (hframes : rm.frames + 1 ≤ R.frames) (hlocals : W9 + (maxL + 11) + rm.locals ≤ R.locals)
    (hws : ∀ w ∈ ws, ∀ a' U, s.WarmedH U.vm → w.before a' U = true) (hcode : Cond.codeWith y bytes maxL ret hh ∈ ws) (hinit : ∀ a' U, s.WarmedH U.vm → (Cond.initialized y.cls).before a' U = true) :
    vx_Back l R p e below s sargs y len W9 (PreOf R mc ms Pc) (PostOf Qc mc ms free) (vx_Post XC mc ms free) := by
  intro m meth c A g ig mk a X hg hsize hdg hW hn hp
  have h1 : (headSpec ws rm).pre.before a A.U = true := atoms_intro fun w hw => hws w hw _ _ X.warmed
  have h2 : (Cond.codeWith y bytes maxL ret hh).before a A.U = true := hws _ hcode _ _ X.warmed
  have h3 : (Cond.initialized y.cls).before a A.U = true := hinit _ _ X.warmed
  have h4 : A.cells + (headSpec ws rm).room.cells ≤ R.cells := by rw [show (headSpec ws rm).room.cells = mc from hrc]; exact hp.1
  have h5 : A.slots + (headSpec ws rm).room.slots ≤ R.slots := by rw [show (headSpec ws rm).room.slots = ms from hrs]; exact hp.2.1
  have hPc : Pc a (A.U.calling g mk a) := hblind _ _ _ _ hp.2.2
  obtain ⟨U, Ls, c0, s0⟩ := A
  dsimp only [Pt.U, Pt.locs, Pt.cells, Pt.slots] at h1 h2 h3 h4 h5 X hn hPc ⊢
  obtain ⟨m9, methY, cY, hn9, hmY, hcY, -, hlY, -⟩ := Cond.codeWith_spec h2
  cases Option.some.inj (hn9.symm.trans hn)
  obtain ⟨kY, hkY, -⟩ := className_of_methodNamed hn
  have hinitY : kY.init = .initialized := Cond.initialized_spec (findClass_of_methodNamed hn) hkY h3
  have h : At U g.method c below := by rw [hg]; exact X.here
  have hlocals9 : W9 + (maxL + 11) + (headSpec ws rm).room.locals ≤ R.locals := hlocals
  have happ : (headSpec ws rm).appliesLoose y e.platform (U.calling g mk a) = true :=
    Spec.appliesLoose_calling (g := g) h hdg hn hkY hinitY
      (X.room_calling (g := g) (R' := (headSpec ws rm).room) hsize hmY hcY hframes (by rw [hlY]; omega) h4 h5) h1
  obtain ⟨mid, hmid⟩ := h.above
  have hfr : (U.setTop g).frames = (.java g :: mid) ++ below := by rw [State.frames_setTop' g h.top, hmid]; rfl
  obtain ⟨o, s₂, hsteps, -, hend, hq⟩ := Steps.callFree hM p X.admits X.cas X.clock (acts := []) hfr happ hPc trivial
  have hq' : vx_Q Qc XC mc ms free a (U.calling g mk a) o s₂ := hq
  rw [State.frames_setTop' g h.top] at hend
  obtain ⟨g₀, hg0⟩ := Option.isSome_iff_exists.mp h.top
  obtain ⟨r, hr⟩ := State.topJava?_eq_some.mp hg0
  have hr' : (({ U with heap := s₂.heap, slotsUsed := s₂.slotsUsed } : State).setVm s₂.vm).frames = .java g₀ :: r := hr
  rcases hq' with ⟨hqc, L, hfe, hL⟩ | ⟨q, rfl, E, ce, L, hx, hce, hcv, hcl, hW₂, hsm, hL⟩
  · obtain ⟨⟨v, rfl⟩, hW₂, e2, q2, q3, q4, q5, q6⟩ := id hfe
    have e3 : s₂ = ({ (U.calling g mk a).setFrames s₂.frames with heap := s₂.heap, slotsUsed := s₂.slotsUsed } : State).setVm s₂.vm := by
      have : s₂ = ({ s₂ with vm := (U.calling g mk a).vm } : State).setVm s₂.vm := rfl
      rw [e2] at this
      exact this
    obtain ⟨c₂, i₂, len₂, hc₂, hd₂, hf₂⟩ := hend
    have hW' : U.WarmedH s₂.vm := hW₂
    have hcc : c₂ = c := by
      have h1 : s₂.code? g.method = U.code? g.method := by
        rw [State.code?_eq, State.code?_eq, hW'.alike.method?]
      exact Option.some.inj (hc₂.symm.trans (h1.trans h.code))
    subst hcc
    have hlen : len₂ = len := by rw [hdg] at hd₂; cases hd₂; rfl
    subst hlen
    have hs₂ : s₂ = (({ U with heap := s₂.heap, slotsUsed := s₂.slotsUsed } : State).setVm s₂.vm).setTop { g with pc := g.pc + len₂, stack := v.toList ++ g.stack } := by
      refine e3.trans ?_
      rw [hf₂, State.calling_eq h.top, State.setFrames_setFrames, State.setTop_of_frames _ hr', hr]
      rfl
    have hsame : U.sameButNew ({ U with heap := s₂.heap, slotsUsed := s₂.slotsUsed } : State) L mc ms := by
      refine ⟨?_, q2, q3, q4, q5, q6⟩
      obtain ⟨t, ht, -⟩ := State.frames_cons hr
      show ({ U with heap := s₂.heap, slotsUsed := s₂.slotsUsed } : State) = { U.setFrames U.frames with heap := s₂.heap, slotsUsed := s₂.slotsUsed }
      rw [State.setFrames_self ht]
    subst hg
    refine Or.inl ⟨v, ⟨(({ U with heap := s₂.heap, slotsUsed := s₂.slotsUsed } : State).setVm s₂.vm), Ls ++ L, c0 + mc, s0 + ms⟩,
      ⟨X.admits, X.cas, X.clock, X.frames, X.room, X.hears, X.method, X.code, (X.here.setHeapUsed s₂.heap s₂.slotsUsed).setVm hW'.alike, X.tail, State.WarmedH.trans X.warmed hW', X.limits, X.bytes, X.same.trans (hsame.setVm s.vm)⟩,
      ⟨g, mk, s₂, L, rfl, rfl, hqc, rfl, hL, rfl, rfl⟩, ?_⟩
    show Steps p.tables e below _ ((({ U with heap := s₂.heap, slotsUsed := s₂.slotsUsed } : State).setVm s₂.vm).setTop { g with pc := g.pc + len₂, stack := v.toList ++ g.stack })
    rw [← hs₂]
    exact hsteps
  · obtain ⟨e2, q2, q3, q4, q5, q6⟩ := id hsm
    have e3 : s₂ = ({ (U.calling g mk a).setFrames s₂.frames with heap := s₂.heap, slotsUsed := s₂.slotsUsed } : State).setVm s₂.vm := by
      have : s₂ = ({ s₂ with vm := (U.calling g mk a).vm } : State).setVm s₂.vm := rfl
      rw [e2] at this
      exact this
    have hf₂ : s₂.frames = .throwing q :: .java g :: U.frames.tail := hend
    have hW' : U.WarmedH s₂.vm := hW₂
    have hs₂ : s₂ = ((({ U with heap := s₂.heap, slotsUsed := s₂.slotsUsed } : State).setVm s₂.vm).setTop g).pushFrame (.throwing q) := by
      refine e3.trans ?_
      rw [hf₂, State.calling_eq h.top, State.setFrames_setFrames, State.pushFrame, State.frames_setTop _ hr', State.setTop_of_frames _ hr', State.setFrames_setFrames, hr]
      rfl
    have hsame : U.sameButNew ({ U with heap := s₂.heap, slotsUsed := s₂.slotsUsed } : State) L mc ms := by
      refine ⟨?_, q2, q3, q4, q5, q6⟩
      obtain ⟨t, ht, -⟩ := State.frames_cons hr
      show ({ U with heap := s₂.heap, slotsUsed := s₂.slotsUsed } : State) = { U.setFrames U.frames with heap := s₂.heap, slotsUsed := s₂.slotsUsed }
      rw [State.setFrames_self ht]
    subst hg
    refine Or.inr ⟨q, ⟨(({ U with heap := s₂.heap, slotsUsed := s₂.slotsUsed } : State).setVm s₂.vm), Ls ++ L, c0 + mc, s0 + ms⟩,
      ⟨X.admits, X.cas, X.clock, X.frames, X.room, X.hears, X.method, X.code, (X.here.setHeapUsed s₂.heap s₂.slotsUsed).setVm hW'.alike, X.tail, State.WarmedH.trans X.warmed hW', X.limits, X.bytes, X.same.trans (hsame.setVm s.vm)⟩,
      ⟨g, mk, s₂, L, E, ce, rfl, rfl, hx, hce, hcv, hcl, rfl, hL, rfl, rfl⟩, ?_⟩
    show Steps p.tables e below _ (((({ U with heap := s₂.heap, slotsUsed := s₂.slotsUsed } : State).setVm s₂.vm).setTop g).pushFrame (.throwing q))
    rw [← hs₂]
    exact hsteps
end
variable {p : Program} {l : Launch} {e : Env} {R : Room} {s : State} {m : MethodId} {args : Array Value} {below : List Frame} {meth : Method} {c : Code} {T : State} {H : Heap} {locs : List Loc} {cells slots : Nat}
theorem vx_callVX (X : Stand p l e R s m args below meth c T locs cells slots) (hexec : p.tables.exec = Jvm.exec) {own C : String} {index : Nat} {y : MethodName} {bytes : ByteArray} {maxL : Nat} {ret : Option FieldType} {hh : List (Nat × Nat × Nat × Nat)}
    (hown : s.vm.findClass own = some m.cls) (hlink : (Cond.methodLink own index y).before args s = true) (hinst : (Cond.instanceMethod y).before args s = true) (hsel : (Cond.selects C y y).before args s = true)
    (hcode : (Cond.codeWith y bytes maxL ret hh).before args s = true) (hy : y.cls ≠ "java/lang/invoke/MethodHandle" ∧ y.cls ≠ "java/lang/invoke/VarHandle")
    {W9 : Nat} {Pre : Pt → Array Value → Prop} {Post : Pt → Array Value → Option Value → Pt → Prop} {PostX : Pt → Array Value → Addr → Pt → Prop} (hK : vx_Back l R p e below s args y 3 W9 Pre Post PostX)
    {b : Addr} {cellB : Cell} (hcell : T.heap[b]? = some cellB) (hobj : cellB.vm.isStatics = false) (hcls : s.vm.findClass C = some cellB.cls)
    {g : JFrame} (hg : g.method = m) (hsize : g.locals.size = c.maxLocals) {argsL rest : List Value} (hlen : ∀ sig, parseMethodDescriptor y.desc = some sig → argsL.length = sig.parameters.length)
    (hstack : g.stack = argsL.reverse ++ .ref b :: rest) (hW : 2 * g.monitorRoom + (rest.map fun v => v.category).sum ≤ W9) (hdg : decode c.code g.pc = .ok (.invokevirtual index, 3))
    (hpre : ∀ vm₁, s.WarmedH vm₁ → Pre ⟨T.setVm vm₁, locs, cells, slots⟩ (Value.ref b :: argsL).toArray) :
    (∃ (v : Option Value) (vm₁ : Vm) (B : Pt), s.WarmedH vm₁ ∧ Stand p l e R s m args below meth c B.U B.locs B.cells B.slots ∧ Post ⟨T.setVm vm₁, locs, cells, slots⟩ (Value.ref b :: argsL).toArray v B ∧
      ∀ target, Steps p.tables e below (B.U.setTop { g with pc := g.pc + 3, stack := v.toList ++ rest }) target → Steps p.tables e below (T.setTop g) target) ∨
    (∃ (q : Addr) (vm₁ : Vm) (B : Pt), s.WarmedH vm₁ ∧ Stand p l e R s m args below meth c B.U B.locs B.cells B.slots ∧ PostX ⟨T.setVm vm₁, locs, cells, slots⟩ (Value.ref b :: argsL).toArray q B ∧
      Steps p.tables e below (T.setTop g) ((B.U.setTop { g with stack := rest }).pushFrame (.throwing q))) := by
  obtain ⟨mk, methM, hnamed, hmethM, hstM, habM⟩ := Cond.instanceMethod_spec hinst
  obtain ⟨m8, methM', cM, hn8, hmethM', -, -, -, -, -, -, hsigM⟩ := Cond.codeWith_spec hcode
  cases Option.some.inj (hn8.symm.trans hnamed)
  cases hmethM.symm.trans hmethM'
  obtain ⟨c2, r2, m2, q1, q2, q3, q4, kP, hkP, hkPi⟩ := Cond.selects_spec hsel
  cases hcls.symm.trans q1
  cases (State.methodFound?_of_named hnamed hy).symm.trans q2
  cases hnamed.symm.trans q3
  have hselP : selectMethod e.platform s.vm cellB.cls mk = .method mk := by rw [Launch.admits_selectMethod X.admits]; exact q4
  obtain ⟨vm₁, X₁, hstep₁⟩ := X.invokevirtual hexec hown hlink hnamed hmethM hstM hkP hkPi hy (a := b) (cell := cellB) hcell
    (fun z h => by rw [h] at hobj; cases hobj) hselP hmethM habM hkP hkPi (g := g) hg (argsL := argsL) (rest := rest) (hlen _ hsigM) hstack hdg
  rcases hK m meth c ⟨T.setVm vm₁, locs, cells, slots⟩ { g with stack := rest } (.invokevirtual index) mk (Value.ref b :: argsL).toArray X₁ hg hsize hdg hW (X₁.named hnamed) (hpre vm₁ X₁.warmed) with ⟨v, B, X', hpost, hsteps⟩ | ⟨q, B, X', hpost, hsteps⟩
  · exact Or.inl ⟨v, vm₁, B, X₁.warmed, X', hpost, fun target h => hstep₁ _ fun acts => by rw [doInvoke_state]; exact hsteps.trans h⟩
  · exact Or.inr ⟨q, vm₁, B, X₁.warmed, X', hpost, hstep₁ _ fun acts => by rw [doInvoke_state]; exact hsteps⟩
theorem vx_callSX (X : Stand p l e R s m args below meth c T locs cells slots) (hexec : p.tables.exec = Jvm.exec) {own : String} {index : Nat} {y : MethodName} {bytes : ByteArray} {maxL : Nat} {ret : Option FieldType} {hh : List (Nat × Nat × Nat × Nat)}
    (hown : s.vm.findClass own = some m.cls) (hlink : (Cond.methodLink own index y).before args s = true) (hstat : (Cond.static y).before args s = true) (hinit : (Cond.initialized y.cls).before args s = true)
    (hcode : (Cond.codeWith y bytes maxL ret hh).before args s = true) (hy : y.cls ≠ "java/lang/invoke/MethodHandle" ∧ y.cls ≠ "java/lang/invoke/VarHandle")
    {W9 : Nat} {Pre : Pt → Array Value → Prop} {Post : Pt → Array Value → Option Value → Pt → Prop} {PostX : Pt → Array Value → Addr → Pt → Prop} (hK : vx_Back l R p e below s args y 3 W9 Pre Post PostX)
    {g : JFrame} (hg : g.method = m) (hsize : g.locals.size = c.maxLocals) {argsL rest : List Value} (hlen : ∀ sig, parseMethodDescriptor y.desc = some sig → argsL.length = sig.parameters.length)
    (hstack : g.stack = argsL.reverse ++ rest) (hW : 2 * g.monitorRoom + (rest.map fun v => v.category).sum ≤ W9) (hdg : decode c.code g.pc = .ok (.invokestatic index, 3))
    (hpre : ∀ vm₁, s.WarmedH vm₁ → Pre ⟨T.setVm vm₁, locs, cells, slots⟩ argsL.toArray) :
    (∃ (v : Option Value) (vm₁ : Vm) (B : Pt), s.WarmedH vm₁ ∧ Stand p l e R s m args below meth c B.U B.locs B.cells B.slots ∧ Post ⟨T.setVm vm₁, locs, cells, slots⟩ argsL.toArray v B ∧
      ∀ target, Steps p.tables e below (B.U.setTop { g with pc := g.pc + 3, stack := v.toList ++ rest }) target → Steps p.tables e below (T.setTop g) target) ∨
    (∃ (q : Addr) (vm₁ : Vm) (B : Pt), s.WarmedH vm₁ ∧ Stand p l e R s m args below meth c B.U B.locs B.cells B.slots ∧ PostX ⟨T.setVm vm₁, locs, cells, slots⟩ argsL.toArray q B ∧
      Steps p.tables e below (T.setTop g) ((B.U.setTop { g with stack := rest }).pushFrame (.throwing q))) := by
  obtain ⟨mk, methM, cM, hnamed, hmethM, -, -, -, -, -, -, hsigM⟩ := Cond.codeWith_spec hcode
  have hstatic : methM.isStatic = true := Cond.static_spec hnamed hmethM hstat
  obtain ⟨kP, hkP, -⟩ := className_of_methodNamed hnamed
  have hinitP : kP.init = .initialized := Cond.initialized_spec (findClass_of_methodNamed hnamed) hkP hinit
  obtain ⟨vm₁, X₁, hstep₁⟩ := X.invokestatic hexec hown hlink hnamed hmethM hstatic hkP hinitP hy (g := g) hg (argsL := argsL) (rest := rest) (hlen _ hsigM) hstack hdg
  rcases hK m meth c ⟨T.setVm vm₁, locs, cells, slots⟩ { g with stack := rest } (.invokestatic index) mk argsL.toArray X₁ hg hsize hdg hW (X₁.named hnamed) (hpre vm₁ X₁.warmed) with ⟨v, B, X', hpost, hsteps⟩ | ⟨q, B, X', hpost, hsteps⟩
  · exact Or.inl ⟨v, vm₁, B, X₁.warmed, X', hpost, fun target h => hstep₁ _ fun acts => by rw [doInvoke_state]; exact hsteps.trans h⟩
  · exact Or.inr ⟨q, vm₁, B, X₁.warmed, X', hpost, hstep₁ _ fun acts => by rw [doInvoke_state]; exact hsteps⟩
theorem vx_callVW (X : Stand p l e R s m args below meth c T locs cells slots) (hexec : p.tables.exec = Jvm.exec) {own C : String} {index : Nat} {y : MethodName} {bytes : ByteArray} {maxL : Nat} {ret : Option FieldType} {hh : List (Nat × Nat × Nat × Nat)}
    (hown : s.vm.findClass own = some m.cls) (hlink : (Cond.methodLink own index y).before args s = true) (hinst : (Cond.instanceMethod y).before args s = true) (hsel : (Cond.selects C y y).before args s = true)
    (hcode : (Cond.codeWith y bytes maxL ret hh).before args s = true) (hy : y.cls ≠ "java/lang/invoke/MethodHandle" ∧ y.cls ≠ "java/lang/invoke/VarHandle")
    {W9 : Nat} {Pre : Pt → Array Value → Prop} {Post : Pt → Array Value → Option Value → Pt → Prop} (hK : Back l R p e below s args y 3 W9 Pre Post)
    {b : Addr} {cellB : Cell} (hcell : T.heap[b]? = some cellB) (hobj : cellB.vm.isStatics = false) (hcls : s.vm.findClass C = some cellB.cls)
    {g : JFrame} (hg : g.method = m) (hsize : g.locals.size = c.maxLocals) {argsL rest : List Value} (hlen : ∀ sig, parseMethodDescriptor y.desc = some sig → argsL.length = sig.parameters.length)
    (hstack : g.stack = argsL.reverse ++ .ref b :: rest) (hW : 2 * g.monitorRoom + (rest.map fun v => v.category).sum ≤ W9) (hdg : decode c.code g.pc = .ok (.invokevirtual index, 3))
    (hpre : ∀ vm₁, s.WarmedH vm₁ → Pre ⟨T.setVm vm₁, locs, cells, slots⟩ (Value.ref b :: argsL).toArray) :
    ∃ (v : Option Value) (vm₁ : Vm) (B : Pt), s.WarmedH vm₁ ∧ Stand p l e R s m args below meth c B.U B.locs B.cells B.slots ∧ Post ⟨T.setVm vm₁, locs, cells, slots⟩ (Value.ref b :: argsL).toArray v B ∧
      ∀ target, Steps p.tables e below (B.U.setTop { g with pc := g.pc + 3, stack := v.toList ++ rest }) target → Steps p.tables e below (T.setTop g) target := by
  obtain ⟨mk, methM, hnamed, hmethM, hstM, habM⟩ := Cond.instanceMethod_spec hinst
  obtain ⟨m8, methM', cM, hn8, hmethM', -, -, -, -, -, -, hsigM⟩ := Cond.codeWith_spec hcode
  cases Option.some.inj (hn8.symm.trans hnamed)
  cases hmethM.symm.trans hmethM'
  obtain ⟨c2, r2, m2, q1, q2, q3, q4, kP, hkP, hkPi⟩ := Cond.selects_spec hsel
  cases hcls.symm.trans q1
  cases (State.methodFound?_of_named hnamed hy).symm.trans q2
  cases hnamed.symm.trans q3
  have hselP : selectMethod e.platform s.vm cellB.cls mk = .method mk := by rw [Launch.admits_selectMethod X.admits]; exact q4
  obtain ⟨vm₁, X₁, hstep₁⟩ := X.invokevirtual hexec hown hlink hnamed hmethM hstM hkP hkPi hy (a := b) (cell := cellB) hcell
    (fun z h => by rw [h] at hobj; cases hobj) hselP hmethM habM hkP hkPi (g := g) hg (argsL := argsL) (rest := rest) (hlen _ hsigM) hstack hdg
  obtain ⟨v, B, X', hpost, hsteps⟩ := hK m meth c ⟨T.setVm vm₁, locs, cells, slots⟩ { g with stack := rest } (.invokevirtual index) mk (Value.ref b :: argsL).toArray X₁ hg hsize hdg hW (X₁.named hnamed) (hpre vm₁ X₁.warmed)
  exact ⟨v, vm₁, B, X₁.warmed, X', hpost, fun target h => hstep₁ _ fun acts => by rw [doInvoke_state]; exact hsteps.trans h⟩
abbrev vx_CVW (R : Room) (s : State) (args : Array Value) (own C : String) (index : Nat) (y : MethodName) (bytes : ByteArray) (maxL : Nat) (ret : Option FieldType) (hh : List (Nat × Nat × Nat × Nat)) (ws : List Cond) (rm : Room) (mc ms n : Nat) : Prop :=
  (rm.cells = mc ∧ rm.slots = ms ∧ rm.frames + 1 ≤ R.frames ∧ 8 + (maxL + 11) + rm.locals ≤ R.locals ∧ (∀ w ∈ ws, ∀ (a' : Array Value) (U : State), s.WarmedH U.vm → w.before a' U = true) ∧ Cond.codeWith y bytes maxL ret hh ∈ ws) ∧
  (Cond.codeWith y bytes maxL ret hh).before args s = true ∧ (Cond.initialized y.cls).before args s = true ∧ (y.cls ≠ "java/lang/invoke/MethodHandle" ∧ y.cls ≠ "java/lang/invoke/VarHandle") ∧
  (∀ sig, parseMethodDescriptor y.desc = some sig → n = sig.parameters.length) ∧ (Cond.methodLink own index y).before args s = true ∧ (Cond.instanceMethod y).before args s = true ∧ (Cond.selects C y y).before args s = true
theorem vx_cwVW {own C : String} {index maxL mc ms : Nat} {y : MethodName} {bytes : ByteArray} {ret : Option FieldType} {hh : List (Nat × Nat × Nat × Nat)} {Ts ws ws' : List Cond} {rm : Room} (n : Nat) (ht : ∀ w ∈ Ts, w.before args s = true) (hT : GoodIn Ts (wsV own index C y ws)) (hw : ws = Cond.codeWith y bytes maxL ret hh :: ws') (hrc : rm.cells = mc) (hrs : rm.slots = ms)
    (hd : y.cls = C ∧ y.cls ≠ "java/lang/invoke/MethodHandle" ∧ y.cls ≠ "java/lang/invoke/VarHandle" ∧ (parseMethodDescriptor y.desc).map (fun d => d.parameters.length) = some n) (hR : rm.frames + 1 ≤ R.frames ∧ 8 + (maxL + 11) + rm.locals ≤ R.locals) :
    vx_CVW R s args own C index y bytes maxL ret hh ws rm mc ms n := by
  obtain ⟨hC, hd⟩ := hd
  subst hC
  have ok : ∀ w ∈ wsV own index y.cls y ws, w.before args s = true := fun w h => ht w (hT w h).1
  have hG : GoodIn Ts ws := fun w h => hT w (by unfold wsV; exact List.mem_append_right _ h)
  have hc : Cond.codeWith y bytes maxL ret hh ∈ ws := by rw [hw]; exact List.mem_cons_self
  refine ⟨⟨hrc, hrs, hR.1, hR.2, pay_in ht hG, hc⟩, ht _ (hG _ hc).1, ok _ (by simp [wsV]), ⟨hd.1, hd.2.1⟩, fun sig h => ?_, ok _ (by simp [wsV]), ok _ (by simp [wsV]), ok _ (by simp [wsV])⟩
  have h2 := hd.2.2
  rw [h] at h2
  exact (Option.some.inj h2).symm
theorem vx_runVW {y : MethodName} {bytes cc : ByteArray} {maxL nL mc ms n index : Nat} {ret : Option FieldType} {hh : List (Nat × Nat × Nat × Nat)} {ws : List Cond} {rm : Room} {Pc : Array Value → State → Prop} {Qc : Array Value → State → Outcome → State → Prop} {free : Addr → Prop} {Ts : List Cond} {own C : String} {b : Addr} {As rest : List Value} {g : JFrame}
    (S : CallFix p m c cc nL s args Ts own) (hM : Met l y ws rm Pc Qc mc ms free) (cw : vx_CVW R s args own C index y bytes maxL ret hh ws rm mc ms n) (hp : PreV s H C b Pc As)
    (hg : g.method = m) (hn : As.length = n) (hsize : g.locals.size = nL) (hstack : g.stack = As.reverse ++ .ref b :: rest) (hW : 2 * g.monitorRoom + (rest.map fun v => v.category).sum ≤ 8) (hdg : decode cc g.pc = .ok (.invokevirtual index, 3)) (hf : cells + mc ≤ R.cells ∧ slots + ms ≤ R.slots) :
    va_Run p l e R s m args below meth c H locs cells slots mc ms g rest (Qc (Value.ref b :: As).toArray) free := by
  obtain ⟨⟨hrc, hrs, hfr, hlo, hws, hcw⟩, hcode, hini, hy, hlen, hl, hin, hse⟩ := cw
  have hK : Back l R p e below s args y 3 8 (PreOf R mc ms Pc) (PostOf Qc mc ms free) := va_backW (hh := hh) (bytes := bytes) (maxL := maxL) (ret := ret) hM hp.1 hrc hrs hfr hlo hws hcw (fun a' U hW => word_at hW (Or.inl (by first | rfl | simp [Cond.onTables, Cond.keeps, Cond.steady])) hini)
  obtain ⟨hx, hb, hml, ho, -⟩ := S
  obtain ⟨-, ⟨cellB, hcB, hoB, hclB⟩, hPc⟩ := hp
  intro T hT X
  obtain ⟨v, vm₁, ⟨U', l2, c2, s2⟩, hW₁, X', ⟨g', mk, t, L, e1, e2, hq, h1, hL, h2, h3⟩, st⟩ := vx_callVW X hx (C := C) (hh := hh) (bytes := bytes) (maxL := maxL) (ret := ret) ho hl hin hse hcode hy hK (by rw [hT]; exact hcB) hoB hclB hg (hsize.trans hml.symm) (argsL := As) (rest := rest) (fun sig h => hn.trans (hlen sig h)) hstack hW (by rw [hb]; exact hdg)
    (fun vm₁ hW₁ => ⟨hf.1, hf.2, hPc (T.setVm vm₁) hT hW₁⟩)
  dsimp only [Pt.U, Pt.locs, Pt.cells, Pt.slots] at X' e1 e2 h1 h2 h3 st
  subst h1; subst h2; subst h3
  exact ⟨v, (T.setVm vm₁).calling g' mk (Value.ref b :: As).toArray, t, U', L, hT, X', hL, e1, e2, hq, st⟩
section
variable {y : MethodName} {bytes cc : ByteArray} {maxL nL mc ms n index : Nat} {ret : Option FieldType} {ws : List Cond} {rm : Room} {Pc : Array Value → State → Prop} {Qc : Array Value → State → Outcome → State → Prop} {XC : String → State → State → Prop} {free : Addr → Prop} {Ts : List Cond} {own C : String} {b : Addr} {As rest : List Value} {g : JFrame}
theorem vx_runVX {hh : List (Nat × Nat × Nat × Nat)} (S : CallFix p m c cc nL s args Ts own) (hM : vx_Met l y ws rm Pc Qc XC mc ms free) (cw : vx_CVW R s args own C index y bytes maxL ret hh ws rm mc ms n) (hp : PreV s H C b Pc As)
    (hg : g.method = m) (hn : As.length = n) (hsize : g.locals.size = nL) (hstack : g.stack = As.reverse ++ .ref b :: rest) (hW : 2 * g.monitorRoom + (rest.map fun v => v.category).sum ≤ 8) (hdg : decode cc g.pc = .ok (.invokevirtual index, 3)) (hf : cells + mc ≤ R.cells ∧ slots + ms ≤ R.slots) :
    vx_Run p l e R s m args below meth c H locs cells slots mc ms g rest (Qc (Value.ref b :: As).toArray) XC free := by
  obtain ⟨⟨hrc, hrs, hfr, hlo, hws, hcw⟩, hcode, hini, hy, hlen, hl, hin, hse⟩ := cw
  have hK : vx_Back l R p e below s args y 3 8 (PreOf R mc ms Pc) (PostOf Qc mc ms free) (vx_Post XC mc ms free) := vx_backW (hh := hh) (bytes := bytes) (maxL := maxL) (ret := ret) hM hp.1 hrc hrs hfr hlo hws hcw (fun a' U hW => word_at hW (Or.inl (by first | rfl | simp [Cond.onTables, Cond.keeps, Cond.steady])) hini)
  obtain ⟨hx, hb, hml, ho, -⟩ := S
  obtain ⟨-, ⟨cellB, hcB, hoB, hclB⟩, hPc⟩ := hp
  intro T hT X
  rcases vx_callVX X hx (C := C) (hh := hh) (bytes := bytes) (maxL := maxL) (ret := ret) ho hl hin hse hcode hy hK (by rw [hT]; exact hcB) hoB hclB hg (hsize.trans hml.symm) (argsL := As) (rest := rest) (fun sig h => hn.trans (hlen sig h)) hstack hW (by rw [hb]; exact hdg)
    (fun vm₁ hW₁ => ⟨hf.1, hf.2, hPc (T.setVm vm₁) hT hW₁⟩) with ⟨v, vm₁, ⟨U', l2, c2, s2⟩, hW₁, X', ⟨g', mk, t, L, e1, e2, hq, h1, hL, h2, h3⟩, st⟩ | ⟨q, vm₁, ⟨U', l2, c2, s2⟩, hW₁, X', ⟨g', mk, t, L, E, ce, e1, e2, hq, hce, hcv, hcl, h1, hL, h2, h3⟩, st⟩
  · dsimp only [Pt.U, Pt.locs, Pt.cells, Pt.slots] at X' e1 e2 h1 h2 h3 st
    subst h1; subst h2; subst h3
    exact Or.inl ⟨v, (T.setVm vm₁).calling g' mk (Value.ref b :: As).toArray, t, U', L, hT, X', hL, e1, e2, hq, st⟩
  · dsimp only [Pt.U, Pt.locs, Pt.cells, Pt.slots] at X' e1 e2 h1 h2 h3 st hcl
    subst h1; subst h2; subst h3
    exact Or.inr ⟨q, (T.setVm vm₁).calling g' mk (Value.ref b :: As).toArray, t, U', L, E, ce, hT, X', hL, e1, e2, hq, hce, hcv, vx_cls hW₁ hcl, st⟩
theorem vx_runSX {hh : List (Nat × Nat × Nat × Nat)} (S : CallFix p m c cc nL s args Ts own) (hM : vx_Met l y ws rm Pc Qc XC mc ms free) (cw : vx_CSW R s args own index y bytes maxL ret hh ws rm mc ms n) (hp : PreS s H Pc As)
    (hg : g.method = m) (hn : As.length = n) (hsize : g.locals.size = nL) (hstack : g.stack = As.reverse ++ rest) (hW : 2 * g.monitorRoom + (rest.map fun v => v.category).sum ≤ 8) (hdg : decode cc g.pc = .ok (.invokestatic index, 3)) (hf : cells + mc ≤ R.cells ∧ slots + ms ≤ R.slots) :
    vx_Run p l e R s m args below meth c H locs cells slots mc ms g rest (Qc As.toArray) XC free := by
  obtain ⟨⟨hrc, hrs, hfr, hlo, hws, hcw⟩, hcode, hini, hy, hlen, hl, hstt⟩ := cw
  have hK : vx_Back l R p e below s args y 3 8 (PreOf R mc ms Pc) (PostOf Qc mc ms free) (vx_Post XC mc ms free) := vx_backW (hh := hh) (bytes := bytes) (maxL := maxL) (ret := ret) hM hp.1 hrc hrs hfr hlo hws hcw (fun a' U hW => word_at hW (Or.inl (by first | rfl | simp [Cond.onTables, Cond.keeps, Cond.steady])) hini)
  obtain ⟨hx, hb, hml, ho, -⟩ := S
  intro T hT X
  rcases vx_callSX X hx (hh := hh) (bytes := bytes) (maxL := maxL) (ret := ret) ho hl hstt hini hcode hy hK hg (hsize.trans hml.symm) (argsL := As) (rest := rest) (fun sig h => hn.trans (hlen sig h)) hstack hW (by rw [hb]; exact hdg)
    (fun vm₁ hW₁ => ⟨hf.1, hf.2, hp.2 (T.setVm vm₁) hT hW₁⟩) with ⟨v, vm₁, ⟨U', l2, c2, s2⟩, hW₁, X', ⟨g', mk, t, L, e1, e2, hq, h1, hL, h2, h3⟩, st⟩ | ⟨q, vm₁, ⟨U', l2, c2, s2⟩, hW₁, X', ⟨g', mk, t, L, E, ce, e1, e2, hq, hce, hcv, hcl, h1, hL, h2, h3⟩, st⟩
  · dsimp only [Pt.U, Pt.locs, Pt.cells, Pt.slots] at X' e1 e2 h1 h2 h3 st
    subst h1; subst h2; subst h3
    exact Or.inl ⟨v, (T.setVm vm₁).calling g' mk As.toArray, t, U', L, hT, X', hL, e1, e2, hq, st⟩
  · dsimp only [Pt.U, Pt.locs, Pt.cells, Pt.slots] at X' e1 e2 h1 h2 h3 st hcl
    subst h1; subst h2; subst h3
    exact Or.inr ⟨q, (T.setVm vm₁).calling g' mk As.toArray, t, U', L, E, ce, hT, X', hL, e1, e2, hq, hce, hcv, vx_cls hW₁ hcl, st⟩
end
end VXH
theorem vx_ofWH {l : Launch} {y : MethodName} {ws ws' : List Cond} {rm : Room} {Pc : Array Value → State → Prop} {Qc : Array Value → State → Outcome → State → Prop} {XC : String → State → State → Prop} {mc ms : Nat} {free : Addr → Prop} {cc : ByteArray} {maxL : Nat} {ret : Option FieldType} {hh : List (Nat × Nat × Nat × Nat)}
    (hy : plainName y.cls = true) (hw : ws = Cond.codeWith y cc maxL ret hh :: ws')
    (body : ∀ p e s m args below meth c s₁, BodyLoose p l y (headSpec ws rm) cc maxL ret e s m args below meth c s₁ → c.maxLocals = maxL → Pc args s →
      W p l e (headSpec ws rm).room s m args below meth c s.heap [] 0 0 (vx_MQ below Qc XC args s mc ms free) (entryFrame m args maxL)) : vx_Met l y ws rm Pc Qc XC mc ms free := by
  refine MetFree.of_bodyS (code := cc) (maxLocals := maxL) (ret := ret) hy ?_ ?_
  · intro args s m h hn
    obtain ⟨m9, meth, c, hn9, h1, h2, h3, h4, -, h5, h6, -⟩ := Cond.codeWith_spec (atoms_spec (ws := ws) h _ (by rw [hw]; exact List.mem_cons_self))
    cases hn.symm.trans hn9
    exact ⟨meth, c, h1, h2, h3, h4, h5, h6⟩
  · intro p e s m args below meth c s₁ B hml hP _
    have hh0 : s₁.heap = s.heap := by rw [B.state]; rfl
    obtain ⟨t, a1, o, b1, b2, b3⟩ := body p e s m args below meth c s₁ B hml hP s₁ hh0 (Stand.of_body B)
    exact ⟨t, o, a1, b1, b2, b3⟩
/-! ===== END ===== -/
end
section
/-! ===== BEGIN printed: names, fields, word lists, decode rows ===== -/
def RX0 : String := "CellRows2$Cell"
def TX0 : u_T := fun k => match k with
  | 0 => ("CellRows2$Cell", "charge", "J", false)
  | 1 => ("CellRows2$Cell", "estimate", "D", false)
  | 2 => ("CellRows2$Cell", "voltage", "J", false)
  | 3 => ("CellRows2$Cell", "warmth", "J", false)
  | 4 => ("CellRows2$Cell", "beyondInRow", "I", false)
  | _ => ("CellRows2$Cell", "bleeds", "Z", false)
def tyX0 : Nat → FieldType := fun k => match k with
  | 0 => .long
  | 1 => .double
  | 2 => .long
  | 3 => .long
  | 4 => .int
  | _ => .boolean
abbrev wsX00 : List Cond := u_ws RX0 TX0 6
theorem nmX0 : ∀ a, a < 6 → ∀ b, b < 6 → a ≠ b → (TX0 a).2.1 ≠ (TX0 b).2.1 := by decide +kernel
theorem tyX0_ok : ∀ k, k < 6 → parseFieldDescriptor (TX0 k).2.2.1 = some (tyX0 k) := by decide +kernel
abbrev cX0_init : ByteArray := prog_2_method_1_code
def yX0_init : MethodName := ⟨RX0, "<init>", "()V"⟩
abbrev cX0_take : ByteArray := prog_2_method_2_code
def yX0_take : MethodName := ⟨RX0, "take", "(JJJJ)V"⟩
abbrev cX0_withinShare : ByteArray := prog_2_method_3_code
def yX0_withinShare : MethodName := ⟨RX0, "withinShare", "(D)D"⟩
def RX1 : String := "CellRows2$Turns"
def TX1 : u_T := fun k => match k with
  | 0 => ("CellRows2$Turns", "points", "[J", true)
  | 1 => ("CellRows2$Turns", "cycleRanges", "[J", true)
  | 2 => ("CellRows2$Turns", "cycleLows", "[J", true)
  | 3 => ("CellRows2$Turns", "pointCount", "I", false)
  | _ => ("CellRows2$Turns", "cycleCount", "I", false)
def tyX1 : Nat → FieldType := fun k => match k with
  | 0 => .array .long
  | 1 => .array .long
  | 2 => .array .long
  | 3 => .int
  | _ => .int
abbrev wsX10 : List Cond := u_ws RX1 TX1 5
theorem nmX1 : ∀ a, a < 5 → ∀ b, b < 5 → a ≠ b → (TX1 a).2.1 ≠ (TX1 b).2.1 := by decide +kernel
theorem tyX1_ok : ∀ k, k < 5 → parseFieldDescriptor (TX1 k).2.2.1 = some (tyX1 k) := by decide +kernel
abbrev cX1_init : ByteArray := prog_3_method_1_code
def yX1_init : MethodName := ⟨RX1, "<init>", "()V"⟩
abbrev cX1_follow : ByteArray := prog_3_method_2_code
def yX1_follow : MethodName := ⟨RX1, "follow", "(J)V"⟩
abbrev cX1_goesOn : ByteArray := prog_3_method_3_code
def yX1_goesOn : MethodName := ⟨RX1, "goesOn", "(J)Z"⟩
abbrev cX1_takeCyclesOut : ByteArray := prog_3_method_4_code
def yX1_takeCyclesOut : MethodName := ⟨RX1, "takeCyclesOut", "()V"⟩
abbrev cX1_keepCycle : ByteArray := prog_3_method_5_code
def yX1_keepCycle : MethodName := ⟨RX1, "keepCycle", "(JJ)V"⟩
def RX2 : String := "CellRows2"
def TX2 : u_T := fun k => match k with
  | 0 => ("CellRows2", "cells", "[LCellRows2$Cell;", true)
  | 1 => ("CellRows2", "limits", "[J", true)
  | 2 => ("CellRows2", "stuckContactors", "[Z", true)
  | 3 => ("CellRows2", "faults", "[I", true)
  | 4 => ("CellRows2", "turns", "LCellRows2$Turns;", true)
  | 5 => ("CellRows2", "stage", "I", false)
  | 6 => ("CellRows2", "stepsOfPreCharge", "I", false)
  | _ => ("CellRows2", "faultCount", "I", false)
def tyX2 : Nat → FieldType := fun k => match k with
  | 0 => .array (.object "CellRows2$Cell")
  | 1 => .array .long
  | 2 => .array .boolean
  | 3 => .array .int
  | 4 => .object "CellRows2$Turns"
  | 5 => .int
  | 6 => .int
  | _ => .int
abbrev wsX20 : List Cond := u_ws RX2 TX2 8
theorem nmX2 : ∀ a, a < 8 → ∀ b, b < 8 → a ≠ b → (TX2 a).2.1 ≠ (TX2 b).2.1 := by decide +kernel
theorem tyX2_ok : ∀ k, k < 8 → parseFieldDescriptor (TX2 k).2.2.1 = some (tyX2 k) := by decide +kernel
abbrev cX2_init : ByteArray := prog_1_method_1_code
def yX2_init : MethodName := ⟨RX2, "<init>", "(I)V"⟩
abbrev cX2_step : ByteArray := prog_1_method_2_code
def yX2_step : MethodName := ⟨RX2, "step", "(IJJJ)I"⟩
abbrev cX2_charge : ByteArray := prog_1_method_3_code
def yX2_charge : MethodName := ⟨RX2, "charge", "(I)J"⟩
abbrev cX2_share : ByteArray := prog_1_method_4_code
def yX2_share : MethodName := ⟨RX2, "share", "(I)D"⟩
abbrev cX2_whole : ByteArray := prog_1_method_5_code
def yX2_whole : MethodName := ⟨RX2, "whole", "(II)J"⟩
abbrev cX2_contactor : ByteArray := prog_1_method_6_code
def yX2_contactor : MethodName := ⟨RX2, "contactor", "(Z)I"⟩
abbrev cX2_bleed : ByteArray := prog_1_method_7_code
def yX2_bleed : MethodName := ⟨RX2, "bleed", "(I)I"⟩
abbrev cX2_limit : ByteArray := prog_1_method_8_code
def yX2_limit : MethodName := ⟨RX2, "limit", "(IJ)I"⟩
abbrev cX2_weakest : ByteArray := prog_1_method_9_code
def yX2_weakest : MethodName := ⟨RX2, "weakest", "()I"⟩
abbrev cX2_insulate : ByteArray := prog_1_method_10_code
def yX2_insulate : MethodName := ⟨RX2, "insulate", "(J)I"⟩
abbrev cX2_stuck : ByteArray := prog_1_method_11_code
def yX2_stuck : MethodName := ⟨RX2, "stuck", "(I)I"⟩
abbrev cX2_cycle : ByteArray := prog_1_method_12_code
def yX2_cycle : MethodName := ⟨RX2, "cycle", "(II)I"⟩
abbrev cX2_cool : ByteArray := prog_1_method_13_code
def yX2_cool : MethodName := ⟨RX2, "cool", "()I"⟩
abbrev cX2_fault : ByteArray := prog_1_method_14_code
def yX2_fault : MethodName := ⟨RX2, "fault", "(I)I"⟩
abbrev cX2_isOutside : ByteArray := prog_1_method_15_code
def yX2_isOutside : MethodName := ⟨RX2, "isOutside", "(JJJ)Z"⟩
abbrev cX2_cellOf : ByteArray := prog_1_method_16_code
def yX2_cellOf : MethodName := ⟨RX2, "cellOf", "(I)LCellRows2$Cell;"⟩
abbrev cX2_isBeyond : ByteArray := prog_1_method_17_code
def yX2_isBeyond : MethodName := ⟨RX2, "isBeyond", "(LCellRows2$Cell;J)Z"⟩
abbrev cX2_noteFaultsOfStep : ByteArray := prog_1_method_18_code
def yX2_noteFaultsOfStep : MethodName := ⟨RX2, "noteFaultsOfStep", "(LCellRows2$Cell;)Z"⟩
abbrev cX2_noteFault : ByteArray := prog_1_method_19_code
def yX2_noteFault : MethodName := ⟨RX2, "noteFault", "(I)V"⟩
abbrev cX2_closeNextContactor : ByteArray := prog_1_method_20_code
def yX2_closeNextContactor : MethodName := ⟨RX2, "closeNextContactor", "()I"⟩
abbrev cX2_isStuck : ByteArray := prog_1_method_21_code
def yX2_isStuck : MethodName := ⟨RX2, "isStuck", "(I)Z"⟩
abbrev cX2_mayBleed : ByteArray := prog_1_method_22_code
def yX2_mayBleed : MethodName := ⟨RX2, "mayBleed", "(LCellRows2$Cell;)Z"⟩
abbrev cX2_leastVoltage : ByteArray := prog_1_method_23_code
def yX2_leastVoltage : MethodName := ⟨RX2, "leastVoltage", "()J"⟩
abbrev cX2_greatestWarmth : ByteArray := prog_1_method_24_code
def yX2_greatestWarmth : MethodName := ⟨RX2, "greatestWarmth", "()J"⟩
abbrev cX2_bleedingCells : ByteArray := prog_1_method_25_code
def yX2_bleedingCells : MethodName := ⟨RX2, "bleedingCells", "()I"⟩
abbrev cX2_greatestCommonDivisor : ByteArray := prog_1_method_26_code
def yX2_greatestCommonDivisor : MethodName := ⟨RX2, "greatestCommonDivisor", "(JJ)J"⟩
def RX3 : String := "CellRows2Model"
def TX3 : u_T := fun k => match k with
  | 0 => ("CellRows2Model", "thrown", "I", false)
  | 1 => ("CellRows2Model", "cells", "I", false)
  | 2 => ("CellRows2Model", "charges", "[J", true)
  | 3 => ("CellRows2Model", "shares", "[D", true)
  | 4 => ("CellRows2Model", "volts", "[J", true)
  | 5 => ("CellRows2Model", "warms", "[J", true)
  | 6 => ("CellRows2Model", "beyonds", "[I", true)
  | 7 => ("CellRows2Model", "bleeds", "[Z", true)
  | 8 => ("CellRows2Model", "limits", "[J", true)
  | 9 => ("CellRows2Model", "stage", "I", false)
  | 10 => ("CellRows2Model", "steps", "I", false)
  | 11 => ("CellRows2Model", "began", "I", false)
  | 12 => ("CellRows2Model", "stucks", "[Z", true)
  | 13 => ("CellRows2Model", "faults", "[I", true)
  | 14 => ("CellRows2Model", "faultCount", "I", false)
  | 15 => ("CellRows2Model", "points", "[J", true)
  | 16 => ("CellRows2Model", "many", "I", false)
  | 17 => ("CellRows2Model", "ranges", "[I", true)
  | 18 => ("CellRows2Model", "lows", "[I", true)
  | _ => ("CellRows2Model", "cycles", "I", false)
def tyX3 : Nat → FieldType := fun k => match k with
  | 0 => .int
  | 1 => .int
  | 2 => .array .long
  | 3 => .array .double
  | 4 => .array .long
  | 5 => .array .long
  | 6 => .array .int
  | 7 => .array .boolean
  | 8 => .array .long
  | 9 => .int
  | 10 => .int
  | 11 => .int
  | 12 => .array .boolean
  | 13 => .array .int
  | 14 => .int
  | 15 => .array .long
  | 16 => .int
  | 17 => .array .int
  | 18 => .array .int
  | _ => .int
abbrev wsX30 : List Cond := u_ws RX3 TX3 20
theorem nmX3 : ∀ a, a < 20 → ∀ b, b < 20 → a ≠ b → (TX3 a).2.1 ≠ (TX3 b).2.1 := by decide +kernel
theorem tyX3_ok : ∀ k, k < 20 → parseFieldDescriptor (TX3 k).2.2.1 = some (tyX3 k) := by decide +kernel
abbrev cX3_init : ByteArray := prog_5_method_1_code
def yX3_init : MethodName := ⟨RX3, "<init>", "(I)V"⟩
abbrev cX3_thrown : ByteArray := prog_5_method_2_code
def yX3_thrown : MethodName := ⟨RX3, "thrown", "()I"⟩
abbrev cX3_noCell : ByteArray := prog_5_method_3_code
def yX3_noCell : MethodName := ⟨RX3, "noCell", "(I)Z"⟩
abbrev cX3_fails : ByteArray := prog_5_method_4_code
def yX3_fails : MethodName := ⟨RX3, "fails", "(I)V"⟩
abbrev cX3_within : ByteArray := prog_5_method_5_code
def yX3_within : MethodName := ⟨RX3, "within", "(D)D"⟩
abbrev cX3_size : ByteArray := prog_5_method_6_code
def yX3_size : MethodName := ⟨RX3, "size", "(J)J"⟩
abbrev cX3_goesOn : ByteArray := prog_5_method_7_code
def yX3_goesOn : MethodName := ⟨RX3, "goesOn", "(J)Z"⟩
abbrev cX3_point : ByteArray := prog_5_method_8_code
def yX3_point : MethodName := ⟨RX3, "point", "(J)V"⟩
abbrev cX3_step : ByteArray := prog_5_method_9_code
def yX3_step : MethodName := ⟨RX3, "step", "(IJJJ)I"⟩
abbrev cX3_charge : ByteArray := prog_5_method_10_code
def yX3_charge : MethodName := ⟨RX3, "charge", "(I)J"⟩
abbrev cX3_share : ByteArray := prog_5_method_11_code
def yX3_share : MethodName := ⟨RX3, "share", "(I)D"⟩
abbrev cX3_whole : ByteArray := prog_5_method_12_code
def yX3_whole : MethodName := ⟨RX3, "whole", "(II)J"⟩
abbrev cX3_contactor : ByteArray := prog_5_method_13_code
def yX3_contactor : MethodName := ⟨RX3, "contactor", "(Z)I"⟩
abbrev cX3_leastVolt : ByteArray := prog_5_method_14_code
def yX3_leastVolt : MethodName := ⟨RX3, "leastVolt", "()J"⟩
abbrev cX3_bleed : ByteArray := prog_5_method_15_code
def yX3_bleed : MethodName := ⟨RX3, "bleed", "(I)I"⟩
abbrev cX3_limit : ByteArray := prog_5_method_16_code
def yX3_limit : MethodName := ⟨RX3, "limit", "(IJ)I"⟩
abbrev cX3_weakest : ByteArray := prog_5_method_17_code
def yX3_weakest : MethodName := ⟨RX3, "weakest", "()I"⟩
abbrev cX3_insulate : ByteArray := prog_5_method_18_code
def yX3_insulate : MethodName := ⟨RX3, "insulate", "(J)I"⟩
abbrev cX3_stuck : ByteArray := prog_5_method_19_code
def yX3_stuck : MethodName := ⟨RX3, "stuck", "(I)I"⟩
abbrev cX3_cycle : ByteArray := prog_5_method_20_code
def yX3_cycle : MethodName := ⟨RX3, "cycle", "(II)I"⟩
abbrev cX3_cool : ByteArray := prog_5_method_21_code
def yX3_cool : MethodName := ⟨RX3, "cool", "()I"⟩
abbrev cX3_fault : ByteArray := prog_5_method_22_code
def yX3_fault : MethodName := ⟨RX3, "fault", "(I)I"⟩
def RJx00060 : String := "java/lang/ArrayIndexOutOfBoundsException"
def TJx00060 : u_T := fun k => match k with
  | 0 => ("java/lang/Throwable", "cause", "Ljava/lang/Throwable;", false)
  | 1 => ("java/lang/Throwable", "stackTrace", "[Ljava/lang/StackTraceElement;", false)
  | 2 => ("java/lang/Throwable", "suppressedExceptions", "Ljava/util/List;", false)
  | 3 => ("java/lang/Throwable", "detailMessage", "Ljava/lang/String;", false)
  | 4 => ("java/lang/Throwable", "backtrace", "Ljava/lang/Object;", false)
  | _ => ("java/lang/Throwable", "depth", "I", false)
def tyJx00060 : Nat → FieldType := fun k => match k with
  | 0 => .object "java/lang/Throwable"
  | 1 => .array (.object "java/lang/StackTraceElement")
  | 2 => .object "java/util/List"
  | 3 => .object "java/lang/String"
  | 4 => .object "java/lang/Object"
  | _ => .int
abbrev wsJx000600 : List Cond := u_ws RJx00060 TJx00060 6
theorem nmJx00060 : ∀ a, a < 6 → ∀ b, b < 6 → a ≠ b → (TJx00060 a).2.1 ≠ (TJx00060 b).2.1 := by decide +kernel
theorem tyJx00060_ok : ∀ k, k < 6 → parseFieldDescriptor (TJx00060 k).2.2.1 = some (tyJx00060 k) := by decide +kernel
abbrev cJx00060_init_a7421 : ByteArray := prog_7_method_2_code
def yJx00060_init_a7421 : MethodName := ⟨RJx00060, "<init>", "(Ljava/lang/String;)V"⟩
def RJx8e188 : String := "java/lang/Cloneable"
def TJx8e188 : u_T := fun k => match k with
  | _ => ("", "", "", false)
def tyJx8e188 : Nat → FieldType := fun k => match k with
  | _ => .int
abbrev wsJx8e1880 : List Cond := u_ws RJx8e188 TJx8e188 0
theorem nmJx8e188 : ∀ a, a < 0 → ∀ b, b < 0 → a ≠ b → (TJx8e188 a).2.1 ≠ (TJx8e188 b).2.1 := by decide +kernel
theorem tyJx8e188_ok : ∀ k, k < 0 → parseFieldDescriptor (TJx8e188 k).2.2.1 = some (tyJx8e188 k) := by decide +kernel
def RJ9 : String := "java/lang/Math"
def TJ9 : u_T := fun k => match k with
  | _ => ("", "", "", false)
def tyJ9 : Nat → FieldType := fun k => match k with
  | _ => .int
abbrev wsJ90 : List Cond := u_ws RJ9 TJ9 0
theorem nmJ9 : ∀ a, a < 0 → ∀ b, b < 0 → a ≠ b → (TJ9 a).2.1 ≠ (TJ9 b).2.1 := by decide +kernel
theorem tyJ9_ok : ∀ k, k < 0 → parseFieldDescriptor (TJ9 k).2.2.1 = some (tyJ9 k) := by decide +kernel
abbrev cJ9_abs_067f4 : ByteArray := prog_11_method_61_code
def yJ9_abs_067f4 : MethodName := ⟨RJ9, "abs", "(J)J"⟩
abbrev cJ9_max_f86c9 : ByteArray := prog_11_method_66_code
def yJ9_max_f86c9 : MethodName := ⟨RJ9, "max", "(JJ)J"⟩
abbrev cJ9_min_f86c9 : ByteArray := prog_11_method_70_code
def yJ9_min_f86c9 : MethodName := ⟨RJ9, "min", "(JJ)J"⟩
def RJ0 : String := "java/lang/String"
def TJ0 : u_T := fun k => match k with
  | _ => ("", "", "", false)
def tyJ0 : Nat → FieldType := fun k => match k with
  | _ => .int
abbrev wsJ00 : List Cond := u_ws RJ0 TJ0 0
theorem nmJ0 : ∀ a, a < 0 → ∀ b, b < 0 → a ≠ b → (TJ0 a).2.1 ≠ (TJ0 b).2.1 := by decide +kernel
theorem tyJ0_ok : ∀ k, k < 0 → parseFieldDescriptor (TJ0 k).2.2.1 = some (tyJ0 k) := by decide +kernel
def RL : String := "CellRows2Law"
abbrev cL_cell : ByteArray := method_2_code
def yL_cell : MethodName := ⟨RL, "cell", "([II)I"⟩
abbrev cL_step : ByteArray := method_3_code
def yL_step : MethodName := ⟨RL, "step", "(LCellRows2;IJJJ[J)I"⟩
abbrev cL_whole : ByteArray := method_4_code
def yL_whole : MethodName := ⟨RL, "whole", "(LCellRows2;II[J)I"⟩
abbrev cL_law : ByteArray := code
def yL_law : MethodName := ⟨RL, "law", "([I)Z"⟩
def wsX0_init : List Cond := .code yX0_init cX0_init 1 none :: ([.methodLink RX0 3 objectInit, .instanceMethod objectInit, .code objectInit ⟨#[0xb1]⟩ 1 none, .constantLong RX0 9 (50000), .fieldLink RX0 11 "CellRows2$Cell" "charge" "J", .constantDouble RX0 17 (4602678819172646912), .fieldLink RX0 19 "CellRows2$Cell" "estimate" "D", .constantLong RX0 23 (3600), .fieldLink RX0 25 "CellRows2$Cell" "voltage" "J", .constantLong RX0 28 (250), .fieldLink RX0 30 "CellRows2$Cell" "warmth" "J"] ++ wsX00)
def wsX0_withinShare : List Cond := .code yX0_withinShare cX0_withinShare 2 (some .double) :: ([])
def wsX0_take : List Cond := .code yX0_take cX0_take 15 none :: ([.fieldLink RX0 25 "CellRows2$Cell" "voltage" "J", .fieldLink RX0 30 "CellRows2$Cell" "warmth" "J", .fieldLink RX0 11 "CellRows2$Cell" "charge" "J", .fieldLink RX0 33 "CellRows2$Cell" "bleeds" "Z", .constantLong RX0 37 (5), .fieldLink RX0 19 "CellRows2$Cell" "estimate" "D", .constantLong RX0 43 (3000), .constantDouble RX0 45 (4652992471259676672), .constantDouble RX0 47 (4589168020290535424), .methodLink RX0 39 yX0_withinShare, .static yX0_withinShare, .initialized RX0, .code yX0_withinShare cX0_withinShare 2 (some .double)] ++ wsX00)
def wsX1_init : List Cond := .code yX1_init cX1_init 1 none :: ([.methodLink RX1 3 objectInit, .instanceMethod objectInit, .code objectInit ⟨#[0xb1]⟩ 1 none, .arrayClass .long, .fieldLink RX1 9 "CellRows2$Turns" "points" "[J", .fieldLink RX1 15 "CellRows2$Turns" "cycleRanges" "[J", .fieldLink RX1 18 "CellRows2$Turns" "cycleLows" "[J"] ++ wsX10)
def wsX1_goesOn : List Cond := .code yX1_goesOn cX1_goesOn 5 (some .boolean) :: ([.fieldLink RX1 25 "CellRows2$Turns" "pointCount" "I", .fieldLink RX1 9 "CellRows2$Turns" "points" "[J"] ++ wsX10)
def wsX1_keepCycle : List Cond := .code yX1_keepCycle cX1_keepCycle 5 none :: ([.fieldLink RX1 46 "CellRows2$Turns" "cycleCount" "I", .fieldLink RX1 15 "CellRows2$Turns" "cycleRanges" "[J", .fieldLink RX1 18 "CellRows2$Turns" "cycleLows" "[J"] ++ wsX10)
def wsX1_takeCyclesOut : List Cond := .code yX1_takeCyclesOut cX1_takeCyclesOut 11 none :: ([.fieldLink RX1 25 "CellRows2$Turns" "pointCount" "I", .fieldLink RX1 9 "CellRows2$Turns" "points" "[J", .methodLink RX1 32 Lib.MathLoose.abs_long.x, .static Lib.MathLoose.abs_long.x, .initialized "java/lang/Math", .code Lib.MathLoose.abs_long.x Lib.MathLoose.abs_long.code 2 (some .long), .methodLink RX1 38 Lib.MathLoose.min_long.x, .static Lib.MathLoose.min_long.x, .code Lib.MathLoose.min_long.x Lib.MathLoose.min_long.code 4 (some .long), .methodLink RX1 42 yX1_keepCycle, .instanceMethod yX1_keepCycle, .selects RX1 yX1_keepCycle yX1_keepCycle, .initialized RX1, .code yX1_keepCycle cX1_keepCycle 5 none, .fieldLink RX1 46 "CellRows2$Turns" "cycleCount" "I", .fieldLink RX1 15 "CellRows2$Turns" "cycleRanges" "[J", .fieldLink RX1 18 "CellRows2$Turns" "cycleLows" "[J"] ++ wsX10)
def wsX1_follow_r1 : List Cond := [Cond.fieldLink RX1 9 "CellRows2$Turns" "points" "[J", Cond.fieldLink RX1 25 "CellRows2$Turns" "pointCount" "I", Cond.methodLink RX1 21 yX1_goesOn, Cond.instanceMethod yX1_goesOn, Cond.selects RX1 yX1_goesOn yX1_goesOn, Cond.initialized RX1, Cond.code yX1_goesOn cX1_goesOn 5 (some .boolean), Cond.methodLink RX1 29 yX1_takeCyclesOut, Cond.instanceMethod yX1_takeCyclesOut, Cond.selects RX1 yX1_takeCyclesOut yX1_takeCyclesOut, Cond.code yX1_takeCyclesOut cX1_takeCyclesOut 11 none, Cond.methodLink RX1 32 Lib.MathLoose.abs_long.x, Cond.static Lib.MathLoose.abs_long.x, Cond.initialized "java/lang/Math", Cond.code Lib.MathLoose.abs_long.x Lib.MathLoose.abs_long.code 2 (some .long), Cond.methodLink RX1 38 Lib.MathLoose.min_long.x, Cond.static Lib.MathLoose.min_long.x, Cond.code Lib.MathLoose.min_long.x Lib.MathLoose.min_long.code 4 (some .long), Cond.methodLink RX1 42 yX1_keepCycle, Cond.instanceMethod yX1_keepCycle, Cond.selects RX1 yX1_keepCycle yX1_keepCycle, Cond.code yX1_keepCycle cX1_keepCycle 5 none, Cond.fieldLink RX1 46 "CellRows2$Turns" "cycleCount" "I", Cond.fieldLink RX1 15 "CellRows2$Turns" "cycleRanges" "[J"]
def wsX1_follow_r2 : List Cond := [Cond.fieldLink RX1 18 "CellRows2$Turns" "cycleLows" "[J"]
def wsX1_follow : List Cond := .code yX1_follow cX1_follow 3 none :: ((wsX1_follow_r1 ++ wsX1_follow_r2) ++ wsX10)
def wsX2_init_r1 : List Cond := [Cond.methodLink RX2 1 objectInit, Cond.instanceMethod objectInit, Cond.code objectInit ⟨#[0xb1]⟩ 1 none, Cond.classLink RX2 9 RX0, Cond.fieldLink RX2 11 "CellRows2" "cells" "[LCellRows2$Cell;", Cond.instantiable RX0 6, Cond.initialized RX0, Cond.fieldLink RX2 16 "CellRows2" "FIRST_LIMITS" "[J", Cond.methodLink RX2 20 ⟨"[J", "clone", "()Ljava/lang/Object;"⟩, Cond.sameMethod "[J" "java/lang/Object" "clone" "()Ljava/lang/Object;", Cond.native ⟨"java/lang/Object", "clone", "()Ljava/lang/Object;"⟩, Cond.instanceMethod ⟨"java/lang/Object", "clone", "()Ljava/lang/Object;"⟩, Cond.selects "[J" ⟨"[J", "clone", "()Ljava/lang/Object;"⟩ ⟨"java/lang/Object", "clone", "()Ljava/lang/Object;"⟩, Cond.classLink RX2 21 "[J", Cond.fieldLink RX2 25 "CellRows2" "limits" "[J", Cond.arrayClass .boolean, Cond.fieldLink RX2 28 "CellRows2" "stuckContactors" "[Z", Cond.arrayClass .int, Cond.fieldLink RX2 32 "CellRows2" "faults" "[I", Cond.classLink RX2 36 RX1, Cond.instantiable RX1 5, Cond.initialized RX1, Cond.fieldLink RX2 39 "CellRows2" "turns" "LCellRows2$Turns;", Cond.constantLong RX2 43 (50000)]
def wsX2_init_r2 : List Cond := [Cond.instanceMethod yX0_init, Cond.code yX0_init cX0_init 1 none, Cond.methodLink RX0 3 objectInit, Cond.constantLong RX0 9 (50000), Cond.fieldLink RX0 11 "CellRows2$Cell" "charge" "J", Cond.constantDouble RX0 17 (4602678819172646912), Cond.fieldLink RX0 19 "CellRows2$Cell" "estimate" "D", Cond.constantLong RX0 23 (3600), Cond.fieldLink RX0 25 "CellRows2$Cell" "voltage" "J", Cond.constantLong RX0 28 (250), Cond.fieldLink RX0 30 "CellRows2$Cell" "warmth" "J", Cond.instanceMethod yX1_init, Cond.code yX1_init cX1_init 1 none, Cond.methodLink RX1 3 objectInit, Cond.arrayClass .long, Cond.fieldLink RX1 9 "CellRows2$Turns" "points" "[J", Cond.fieldLink RX1 15 "CellRows2$Turns" "cycleRanges" "[J", Cond.fieldLink RX1 18 "CellRows2$Turns" "cycleLows" "[J", Cond.instanceMethod yX1_follow, Cond.selects RX1 yX1_follow yX1_follow, Cond.code yX1_follow cX1_follow 3 none, Cond.fieldLink RX1 25 "CellRows2$Turns" "pointCount" "I", Cond.methodLink RX1 21 yX1_goesOn, Cond.instanceMethod yX1_goesOn]
def wsX2_init_r3 : List Cond := [Cond.selects RX1 yX1_goesOn yX1_goesOn, Cond.code yX1_goesOn cX1_goesOn 5 (some .boolean), Cond.methodLink RX1 29 yX1_takeCyclesOut, Cond.instanceMethod yX1_takeCyclesOut, Cond.selects RX1 yX1_takeCyclesOut yX1_takeCyclesOut, Cond.code yX1_takeCyclesOut cX1_takeCyclesOut 11 none, Cond.methodLink RX1 32 Lib.MathLoose.abs_long.x, Cond.static Lib.MathLoose.abs_long.x, Cond.initialized "java/lang/Math", Cond.code Lib.MathLoose.abs_long.x Lib.MathLoose.abs_long.code 2 (some .long), Cond.methodLink RX1 38 Lib.MathLoose.min_long.x, Cond.static Lib.MathLoose.min_long.x, Cond.code Lib.MathLoose.min_long.x Lib.MathLoose.min_long.code 4 (some .long), Cond.methodLink RX1 42 yX1_keepCycle, Cond.instanceMethod yX1_keepCycle, Cond.selects RX1 yX1_keepCycle yX1_keepCycle, Cond.code yX1_keepCycle cX1_keepCycle 5 none, Cond.fieldLink RX1 46 "CellRows2$Turns" "cycleCount" "I"]
def wsX2_init : List Cond := .code yX2_init cX2_init 4 none :: ((wsX2_init_r1 ++ (wsX2_init_r2 ++ wsX2_init_r3)) ++ wsX20 ++ wsX00 ++ wsX10)
def wsX2_isOutside : List Cond := .code yX2_isOutside cX2_isOutside 6 (some .boolean) :: ([])
def wsX2_cellOf : List Cond := .code yX2_cellOf cX2_cellOf 2 (some (.object "CellRows2$Cell")) :: ([.fieldLink RX2 11 "CellRows2" "cells" "[LCellRows2$Cell;"] ++ wsX20)
def wsX2_isBeyond : List Cond := .code yX2_isBeyond cX2_isBeyond 4 (some .boolean) :: ([.fieldLink RX2 25 "CellRows2" "limits" "[J", .methodLink RX2 167 Lib.MathLoose.abs_long.x, .static Lib.MathLoose.abs_long.x, .initialized "java/lang/Math", .code Lib.MathLoose.abs_long.x Lib.MathLoose.abs_long.code 2 (some .long), .methodLink RX2 53 yX2_isOutside, .static yX2_isOutside, .initialized RX2, .code yX2_isOutside cX2_isOutside 6 (some .boolean)] ++ wsX00 ++ wsX20)
def wsX2_noteFault : List Cond := .code yX2_noteFault cX2_noteFault 2 none :: ([.fieldLink RX2 110 "CellRows2" "stage" "I", .fieldLink RX2 158 "CellRows2" "faultCount" "I", .fieldLink RX2 32 "CellRows2" "faults" "[I"] ++ wsX20)
def wsX2_noteFaultsOfStep : List Cond := .code yX2_noteFaultsOfStep cX2_noteFaultsOfStep 4 (some .boolean) :: ([.fieldLink RX2 25 "CellRows2" "limits" "[J", .methodLink RX2 53 yX2_isOutside, .static yX2_isOutside, .initialized RX2, .code yX2_isOutside cX2_isOutside 6 (some .boolean), .methodLink RX2 135 yX2_noteFault, .instanceMethod yX2_noteFault, .selects RX2 yX2_noteFault yX2_noteFault, .code yX2_noteFault cX2_noteFault 2 none, .fieldLink RX2 110 "CellRows2" "stage" "I", .fieldLink RX2 158 "CellRows2" "faultCount" "I", .fieldLink RX2 32 "CellRows2" "faults" "[I"] ++ wsX00 ++ wsX20)
def wsX2_step_r1 : List Cond := [Cond.constantLong RX2 49 (-100000), Cond.constantLong RX2 51 (100000), Cond.constantLong RX2 57 (10000), Cond.constantLong RX2 59 (-1000), Cond.constantLong RX2 61 (2000), Cond.classLink RX2 67 RJx00060, Cond.instantiable RJx00060 6, Cond.initialized RJx00060, Cond.fieldLink RX2 25 "CellRows2" "limits" "[J", Cond.fieldLink RX2 78 "CellRows2" "stepsOfPreCharge" "I", Cond.fieldLink RX2 39 "CellRows2" "turns" "LCellRows2$Turns;", Cond.methodLink RX2 53 yX2_isOutside, Cond.static yX2_isOutside, Cond.initialized RX2, Cond.code yX2_isOutside cX2_isOutside 6 (some .boolean), Cond.methodLink RX2 63 yX2_cellOf, Cond.instanceMethod yX2_cellOf, Cond.selects RX2 yX2_cellOf yX2_cellOf, Cond.code yX2_cellOf cX2_cellOf 2 (some (.object "CellRows2$Cell")), Cond.fieldLink RX2 11 "CellRows2" "cells" "[LCellRows2$Cell;", Cond.instanceMethod yX0_take, Cond.initialized RX0, Cond.selects RX0 yX0_take yX0_take, Cond.code yX0_take cX0_take 15 none]
def wsX2_step_r2 : List Cond := [Cond.fieldLink RX0 25 "CellRows2$Cell" "voltage" "J", Cond.fieldLink RX0 30 "CellRows2$Cell" "warmth" "J", Cond.fieldLink RX0 11 "CellRows2$Cell" "charge" "J", Cond.fieldLink RX0 33 "CellRows2$Cell" "bleeds" "Z", Cond.constantLong RX0 37 (5), Cond.fieldLink RX0 19 "CellRows2$Cell" "estimate" "D", Cond.constantLong RX0 43 (3000), Cond.constantDouble RX0 45 (4652992471259676672), Cond.constantDouble RX0 47 (4589168020290535424), Cond.methodLink RX0 39 yX0_withinShare, Cond.static yX0_withinShare, Cond.code yX0_withinShare cX0_withinShare 2 (some .double), Cond.instanceMethod yX1_follow, Cond.initialized RX1, Cond.selects RX1 yX1_follow yX1_follow, Cond.code yX1_follow cX1_follow 3 none, Cond.fieldLink RX1 9 "CellRows2$Turns" "points" "[J", Cond.fieldLink RX1 25 "CellRows2$Turns" "pointCount" "I", Cond.methodLink RX1 21 yX1_goesOn, Cond.instanceMethod yX1_goesOn, Cond.selects RX1 yX1_goesOn yX1_goesOn, Cond.code yX1_goesOn cX1_goesOn 5 (some .boolean), Cond.methodLink RX1 29 yX1_takeCyclesOut, Cond.instanceMethod yX1_takeCyclesOut]
def wsX2_step_r3 : List Cond := [Cond.selects RX1 yX1_takeCyclesOut yX1_takeCyclesOut, Cond.code yX1_takeCyclesOut cX1_takeCyclesOut 11 none, Cond.methodLink RX1 32 Lib.MathLoose.abs_long.x, Cond.static Lib.MathLoose.abs_long.x, Cond.initialized "java/lang/Math", Cond.code Lib.MathLoose.abs_long.x Lib.MathLoose.abs_long.code 2 (some .long), Cond.methodLink RX1 38 Lib.MathLoose.min_long.x, Cond.static Lib.MathLoose.min_long.x, Cond.code Lib.MathLoose.min_long.x Lib.MathLoose.min_long.code 4 (some .long), Cond.methodLink RX1 42 yX1_keepCycle, Cond.instanceMethod yX1_keepCycle, Cond.selects RX1 yX1_keepCycle yX1_keepCycle, Cond.code yX1_keepCycle cX1_keepCycle 5 none, Cond.fieldLink RX1 46 "CellRows2$Turns" "cycleCount" "I", Cond.fieldLink RX1 15 "CellRows2$Turns" "cycleRanges" "[J", Cond.fieldLink RX1 18 "CellRows2$Turns" "cycleLows" "[J", Cond.methodLink RX2 86 yX2_isBeyond, Cond.instanceMethod yX2_isBeyond, Cond.selects RX2 yX2_isBeyond yX2_isBeyond, Cond.code yX2_isBeyond cX2_isBeyond 4 (some .boolean), Cond.methodLink RX2 167 Lib.MathLoose.abs_long.x, Cond.methodLink RX2 93 yX2_noteFaultsOfStep, Cond.instanceMethod yX2_noteFaultsOfStep, Cond.selects RX2 yX2_noteFaultsOfStep yX2_noteFaultsOfStep]
def wsX2_step_r4 : List Cond := [Cond.code yX2_noteFaultsOfStep cX2_noteFaultsOfStep 4 (some .boolean), Cond.methodLink RX2 135 yX2_noteFault, Cond.instanceMethod yX2_noteFault, Cond.selects RX2 yX2_noteFault yX2_noteFault, Cond.code yX2_noteFault cX2_noteFault 2 none, Cond.fieldLink RX2 110 "CellRows2" "stage" "I", Cond.fieldLink RX2 158 "CellRows2" "faultCount" "I", Cond.fieldLink RX2 32 "CellRows2" "faults" "[I"]
def wsX2_step : List Cond := .code yX2_step cX2_step 10 (some .int) :: ((wsX2_step_r1 ++ (wsX2_step_r2 ++ (wsX2_step_r3 ++ wsX2_step_r4))) ++ wsJx000600 ++ wsX20 ++ wsX00 ++ wsX10)
def wsX2_charge : List Cond := .code yX2_charge cX2_charge 3 (some .long) :: ([.methodLink RX2 63 yX2_cellOf, .instanceMethod yX2_cellOf, .selects RX2 yX2_cellOf yX2_cellOf, .initialized RX2, .code yX2_cellOf cX2_cellOf 2 (some (.object "CellRows2$Cell")), .fieldLink RX2 11 "CellRows2" "cells" "[LCellRows2$Cell;"] ++ wsX00 ++ wsX20)
def wsX2_share : List Cond := .code yX2_share cX2_share 3 (some .double) :: ([.methodLink RX2 63 yX2_cellOf, .instanceMethod yX2_cellOf, .selects RX2 yX2_cellOf yX2_cellOf, .initialized RX2, .code yX2_cellOf cX2_cellOf 2 (some (.object "CellRows2$Cell")), .fieldLink RX2 11 "CellRows2" "cells" "[LCellRows2$Cell;"] ++ wsX00 ++ wsX20)
def wsX2_greatestCommonDivisor : List Cond := .code yX2_greatestCommonDivisor cX2_greatestCommonDivisor 11 (some .long) :: ([.methodLink RX2 167 Lib.MathLoose.abs_long.x, .static Lib.MathLoose.abs_long.x, .initialized "java/lang/Math", .code Lib.MathLoose.abs_long.x Lib.MathLoose.abs_long.code 2 (some .long)])
def wsX2_whole : List Cond := .code yX2_whole cX2_whole 8 (some .long) :: ([.classLink RX2 101 "java/lang/ArithmeticException", .initialized "java/lang/ArithmeticException", .fieldLink RX2 25 "CellRows2" "limits" "[J", .methodLink RX2 63 yX2_cellOf, .instanceMethod yX2_cellOf, .selects RX2 yX2_cellOf yX2_cellOf, .initialized RX2, .code yX2_cellOf cX2_cellOf 2 (some (.object "CellRows2$Cell")), .fieldLink RX2 11 "CellRows2" "cells" "[LCellRows2$Cell;", .methodLink RX2 106 yX2_greatestCommonDivisor, .static yX2_greatestCommonDivisor, .code yX2_greatestCommonDivisor cX2_greatestCommonDivisor 11 (some .long), .methodLink RX2 167 Lib.MathLoose.abs_long.x, .static Lib.MathLoose.abs_long.x, .initialized "java/lang/Math", .code Lib.MathLoose.abs_long.x Lib.MathLoose.abs_long.code 2 (some .long)] ++ wsX20 ++ wsX00 ++ (vx_atS RX2 105 "java/lang/ArithmeticException" ["java/lang/RuntimeException", "java/lang/Exception"]).filter goodWord)
def wsX2_isStuck : List Cond := .code yX2_isStuck cX2_isStuck 2 (some .boolean) :: ([.fieldLink RX2 28 "CellRows2" "stuckContactors" "[Z"] ++ wsX20)
def wsX2_closeNextContactor : List Cond := .code yX2_closeNextContactor cX2_closeNextContactor 1 (some .int) :: ([.fieldLink RX2 110 "CellRows2" "stage" "I", .fieldLink RX2 78 "CellRows2" "stepsOfPreCharge" "I", .methodLink RX2 135 yX2_noteFault, .instanceMethod yX2_noteFault, .selects RX2 yX2_noteFault yX2_noteFault, .initialized RX2, .code yX2_noteFault cX2_noteFault 2 none, .fieldLink RX2 158 "CellRows2" "faultCount" "I", .fieldLink RX2 32 "CellRows2" "faults" "[I", .methodLink RX2 173 yX2_isStuck, .instanceMethod yX2_isStuck, .selects RX2 yX2_isStuck yX2_isStuck, .code yX2_isStuck cX2_isStuck 2 (some .boolean), .fieldLink RX2 28 "CellRows2" "stuckContactors" "[Z"] ++ wsX20)
def wsX2_contactor : List Cond := .code yX2_contactor cX2_contactor 2 (some .int) :: ([.fieldLink RX2 110 "CellRows2" "stage" "I", .methodLink RX2 113 yX2_closeNextContactor, .instanceMethod yX2_closeNextContactor, .selects RX2 yX2_closeNextContactor yX2_closeNextContactor, .initialized RX2, .code yX2_closeNextContactor cX2_closeNextContactor 1 (some .int), .fieldLink RX2 78 "CellRows2" "stepsOfPreCharge" "I", .methodLink RX2 135 yX2_noteFault, .instanceMethod yX2_noteFault, .selects RX2 yX2_noteFault yX2_noteFault, .code yX2_noteFault cX2_noteFault 2 none, .fieldLink RX2 158 "CellRows2" "faultCount" "I", .fieldLink RX2 32 "CellRows2" "faults" "[I", .methodLink RX2 173 yX2_isStuck, .instanceMethod yX2_isStuck, .selects RX2 yX2_isStuck yX2_isStuck, .code yX2_isStuck cX2_isStuck 2 (some .boolean), .fieldLink RX2 28 "CellRows2" "stuckContactors" "[Z"] ++ wsX20)
def wsX2_leastVoltage : List Cond := .code yX2_leastVoltage cX2_leastVoltage 7 (some .long) :: ([.constantLong RX2 131 (9223372036854775807), .fieldLink RX2 11 "CellRows2" "cells" "[LCellRows2$Cell;", .methodLink RX2 182 Lib.MathLoose.min_long.x, .static Lib.MathLoose.min_long.x, .initialized "java/lang/Math", .code Lib.MathLoose.min_long.x Lib.MathLoose.min_long.code 4 (some .long)] ++ wsX20 ++ wsX00)
def wsX2_mayBleed : List Cond := .code yX2_mayBleed cX2_mayBleed 2 (some .boolean) :: ([.fieldLink RX2 25 "CellRows2" "limits" "[J", .constantLong RX2 180 (10), .methodLink RX2 177 yX2_leastVoltage, .instanceMethod yX2_leastVoltage, .selects RX2 yX2_leastVoltage yX2_leastVoltage, .initialized RX2, .code yX2_leastVoltage cX2_leastVoltage 7 (some .long), .constantLong RX2 131 (9223372036854775807), .fieldLink RX2 11 "CellRows2" "cells" "[LCellRows2$Cell;", .methodLink RX2 182 Lib.MathLoose.min_long.x, .static Lib.MathLoose.min_long.x, .initialized "java/lang/Math", .code Lib.MathLoose.min_long.x Lib.MathLoose.min_long.code 4 (some .long)] ++ wsX00 ++ wsX20)
def wsX2_bleedingCells : List Cond := .code yX2_bleedingCells cX2_bleedingCells 6 (some .int) :: ([.fieldLink RX2 11 "CellRows2" "cells" "[LCellRows2$Cell;"] ++ wsX20 ++ wsX00)
def wsX2_bleed_r1 : List Cond := [Cond.methodLink RX2 63 yX2_cellOf, Cond.instanceMethod yX2_cellOf, Cond.selects RX2 yX2_cellOf yX2_cellOf, Cond.initialized RX2, Cond.code yX2_cellOf cX2_cellOf 2 (some (.object "CellRows2$Cell")), Cond.fieldLink RX2 11 "CellRows2" "cells" "[LCellRows2$Cell;", Cond.methodLink RX2 121 yX2_mayBleed, Cond.instanceMethod yX2_mayBleed, Cond.selects RX2 yX2_mayBleed yX2_mayBleed, Cond.code yX2_mayBleed cX2_mayBleed 2 (some .boolean), Cond.fieldLink RX2 25 "CellRows2" "limits" "[J", Cond.constantLong RX2 180 (10), Cond.methodLink RX2 177 yX2_leastVoltage, Cond.instanceMethod yX2_leastVoltage, Cond.selects RX2 yX2_leastVoltage yX2_leastVoltage, Cond.code yX2_leastVoltage cX2_leastVoltage 7 (some .long), Cond.constantLong RX2 131 (9223372036854775807), Cond.methodLink RX2 182 Lib.MathLoose.min_long.x, Cond.static Lib.MathLoose.min_long.x, Cond.initialized "java/lang/Math", Cond.code Lib.MathLoose.min_long.x Lib.MathLoose.min_long.code 4 (some .long), Cond.methodLink RX2 124 yX2_bleedingCells, Cond.instanceMethod yX2_bleedingCells, Cond.selects RX2 yX2_bleedingCells yX2_bleedingCells]
def wsX2_bleed_r2 : List Cond := [Cond.code yX2_bleedingCells cX2_bleedingCells 6 (some .int)]
def wsX2_bleed : List Cond := .code yX2_bleed cX2_bleed 3 (some .int) :: ((wsX2_bleed_r1 ++ wsX2_bleed_r2) ++ wsX00 ++ wsX20)
def wsX2_limit : List Cond := .code yX2_limit cX2_limit 6 (some .int) :: ([.fieldLink RX2 25 "CellRows2" "limits" "[J", .constantLong RX2 59 (-1000), .constantLong RX2 127 (1000000), .methodLink RX2 53 yX2_isOutside, .static yX2_isOutside, .initialized RX2, .code yX2_isOutside cX2_isOutside 6 (some .boolean)] ++ wsX20)
def wsX2_weakest : List Cond := .code yX2_weakest cX2_weakest 5 (some .int) :: ([.constantLong RX2 131 (9223372036854775807), .fieldLink RX2 11 "CellRows2" "cells" "[LCellRows2$Cell;"] ++ wsX20 ++ wsX00)
def wsX2_insulate : List Cond := .code yX2_insulate cX2_insulate 3 (some .int) :: ([.constantLong RX2 133 (100), .methodLink RX2 135 yX2_noteFault, .instanceMethod yX2_noteFault, .selects RX2 yX2_noteFault yX2_noteFault, .initialized RX2, .code yX2_noteFault cX2_noteFault 2 none, .fieldLink RX2 110 "CellRows2" "stage" "I", .fieldLink RX2 158 "CellRows2" "faultCount" "I", .fieldLink RX2 32 "CellRows2" "faults" "[I"] ++ wsX20)
def wsX2_stuck : List Cond := .code yX2_stuck cX2_stuck 2 (some .int) :: ([.fieldLink RX2 28 "CellRows2" "stuckContactors" "[Z"] ++ wsX20)
def wsX2_cycle : List Cond := .code yX2_cycle cX2_cycle 3 (some .int) :: ([.fieldLink RX2 39 "CellRows2" "turns" "LCellRows2$Turns;"] ++ wsX20 ++ wsX10)
def wsX2_greatestWarmth : List Cond := .code yX2_greatestWarmth cX2_greatestWarmth 7 (some .long) :: ([.constantLong RX2 185 (-9223372036854775808), .fieldLink RX2 11 "CellRows2" "cells" "[LCellRows2$Cell;", .methodLink RX2 187 Lib.MathLoose.max_long.x, .static Lib.MathLoose.max_long.x, .initialized "java/lang/Math", .code Lib.MathLoose.max_long.x Lib.MathLoose.max_long.code 4 (some .long)] ++ wsX20 ++ wsX00)
def wsX2_cool : List Cond := .code yX2_cool cX2_cool 3 (some .int) :: ([.constantLong RX2 152 (550), .constantLong RX2 154 (450), .constantLong RX2 156 (350), .methodLink RX2 148 yX2_greatestWarmth, .instanceMethod yX2_greatestWarmth, .selects RX2 yX2_greatestWarmth yX2_greatestWarmth, .initialized RX2, .code yX2_greatestWarmth cX2_greatestWarmth 7 (some .long), .constantLong RX2 185 (-9223372036854775808), .fieldLink RX2 11 "CellRows2" "cells" "[LCellRows2$Cell;", .methodLink RX2 187 Lib.MathLoose.max_long.x, .static Lib.MathLoose.max_long.x, .initialized "java/lang/Math", .code Lib.MathLoose.max_long.x Lib.MathLoose.max_long.code 4 (some .long)] ++ wsX20 ++ wsX00)
def wsX2_fault : List Cond := .code yX2_fault cX2_fault 2 (some .int) :: ([.fieldLink RX2 158 "CellRows2" "faultCount" "I", .fieldLink RX2 32 "CellRows2" "faults" "[I"] ++ wsX20)
def wsX3_init_r1 : List Cond := [Cond.methodLink RX3 1 objectInit, Cond.instanceMethod objectInit, Cond.code objectInit ⟨#[0xb1]⟩ 1 none, Cond.arrayClass .long, Cond.fieldLink RX3 7 "CellRows2Model" "charges" "[J", Cond.arrayClass .double, Cond.fieldLink RX3 13 "CellRows2Model" "shares" "[D", Cond.fieldLink RX3 17 "CellRows2Model" "volts" "[J", Cond.fieldLink RX3 20 "CellRows2Model" "warms" "[J", Cond.arrayClass .int, Cond.fieldLink RX3 23 "CellRows2Model" "beyonds" "[I", Cond.arrayClass .boolean, Cond.fieldLink RX3 27 "CellRows2Model" "bleeds" "[Z", Cond.constantLong RX3 31 (2800), Cond.constantLong RX3 33 (4200), Cond.constantLong RX3 35 (600), Cond.constantLong RX3 37 (5000), Cond.constantLong RX3 39 (1000), Cond.constantLong RX3 41 (100000), Cond.fieldLink RX3 43 "CellRows2Model" "limits" "[J", Cond.fieldLink RX3 46 "CellRows2Model" "stucks" "[Z", Cond.fieldLink RX3 49 "CellRows2Model" "faults" "[I", Cond.fieldLink RX3 52 "CellRows2Model" "points" "[J", Cond.fieldLink RX3 55 "CellRows2Model" "ranges" "[I"]
def wsX3_init_r2 : List Cond := [Cond.fieldLink RX3 58 "CellRows2Model" "lows" "[I", Cond.fieldLink RX3 61 "CellRows2Model" "cells" "I", Cond.constantLong RX3 65 (50000), Cond.constantDouble RX3 67 (4602678819172646912), Cond.constantLong RX3 69 (3600), Cond.constantLong RX3 71 (250)]
def wsX3_init : List Cond := .code yX3_init cX3_init 3 none :: ((wsX3_init_r1 ++ wsX3_init_r2) ++ wsX30)
def wsX3_thrown : List Cond := .code yX3_thrown cX3_thrown 1 (some .int) :: ([.fieldLink RX3 73 "CellRows2Model" "thrown" "I"] ++ wsX30)
def wsX3_noCell : List Cond := .code yX3_noCell cX3_noCell 2 (some .boolean) :: ([.fieldLink RX3 61 "CellRows2Model" "cells" "I"] ++ wsX30)
def wsX3_fails : List Cond := .code yX3_fails cX3_fails 2 none :: ([.fieldLink RX3 49 "CellRows2Model" "faults" "[I", .fieldLink RX3 76 "CellRows2Model" "faultCount" "I", .fieldLink RX3 79 "CellRows2Model" "stage" "I"] ++ wsX30)
def wsX3_within : List Cond := .code yX3_within cX3_within 2 (some .double) :: ([])
def wsX3_size : List Cond := .code yX3_size cX3_size 2 (some .long) :: ([])
def wsX3_goesOn : List Cond := .code yX3_goesOn cX3_goesOn 5 (some .boolean) :: ([.fieldLink RX3 82 "CellRows2Model" "many" "I", .fieldLink RX3 52 "CellRows2Model" "points" "[J"] ++ wsX30)
def wsX3_point : List Cond := .code yX3_point cX3_point 12 none :: ([.fieldLink RX3 52 "CellRows2Model" "points" "[J", .fieldLink RX3 82 "CellRows2Model" "many" "I", .fieldLink RX3 55 "CellRows2Model" "ranges" "[I", .fieldLink RX3 93 "CellRows2Model" "cycles" "I", .fieldLink RX3 58 "CellRows2Model" "lows" "[I", .methodLink RX3 85 yX3_goesOn, .instanceMethod yX3_goesOn, .selects RX3 yX3_goesOn yX3_goesOn, .initialized RX3, .code yX3_goesOn cX3_goesOn 5 (some .boolean), .methodLink RX3 89 yX3_size, .static yX3_size, .code yX3_size cX3_size 2 (some .long)] ++ wsX30)
def wsX3_step_r1 : List Cond := [Cond.fieldLink RX3 73 "CellRows2Model" "thrown" "I", Cond.constantLong RX3 96 (-100000), Cond.constantLong RX3 41 (100000), Cond.constantLong RX3 98 (10000), Cond.constantLong RX3 100 (-1000), Cond.constantLong RX3 102 (2000), Cond.fieldLink RX3 82 "CellRows2Model" "many" "I", Cond.fieldLink RX3 7 "CellRows2Model" "charges" "[J", Cond.fieldLink RX3 112 "CellRows2Model" "steps" "I", Cond.fieldLink RX3 17 "CellRows2Model" "volts" "[J", Cond.fieldLink RX3 20 "CellRows2Model" "warms" "[J", Cond.fieldLink RX3 27 "CellRows2Model" "bleeds" "[Z", Cond.constantLong RX3 115 (5), Cond.fieldLink RX3 43 "CellRows2Model" "limits" "[J", Cond.fieldLink RX3 13 "CellRows2Model" "shares" "[D", Cond.constantLong RX3 121 (3000), Cond.constantDouble RX3 123 (4652992471259676672), Cond.constantDouble RX3 125 (4589168020290535424), Cond.fieldLink RX3 23 "CellRows2Model" "beyonds" "[I", Cond.fieldLink RX3 76 "CellRows2Model" "faultCount" "I", Cond.methodLink RX3 104 yX3_noCell, Cond.instanceMethod yX3_noCell, Cond.selects RX3 yX3_noCell yX3_noCell, Cond.initialized RX3]
def wsX3_step_r2 : List Cond := [Cond.code yX3_noCell cX3_noCell 2 (some .boolean), Cond.fieldLink RX3 61 "CellRows2Model" "cells" "I", Cond.methodLink RX3 108 yX3_point, Cond.instanceMethod yX3_point, Cond.selects RX3 yX3_point yX3_point, Cond.code yX3_point cX3_point 12 none, Cond.fieldLink RX3 52 "CellRows2Model" "points" "[J", Cond.fieldLink RX3 55 "CellRows2Model" "ranges" "[I", Cond.fieldLink RX3 93 "CellRows2Model" "cycles" "I", Cond.fieldLink RX3 58 "CellRows2Model" "lows" "[I", Cond.methodLink RX3 85 yX3_goesOn, Cond.instanceMethod yX3_goesOn, Cond.selects RX3 yX3_goesOn yX3_goesOn, Cond.code yX3_goesOn cX3_goesOn 5 (some .boolean), Cond.methodLink RX3 89 yX3_size, Cond.static yX3_size, Cond.code yX3_size cX3_size 2 (some .long), Cond.methodLink RX3 117 yX3_within, Cond.static yX3_within, Cond.code yX3_within cX3_within 2 (some .double), Cond.methodLink RX3 127 yX3_fails, Cond.instanceMethod yX3_fails, Cond.selects RX3 yX3_fails yX3_fails, Cond.code yX3_fails cX3_fails 2 none]
def wsX3_step_r3 : List Cond := [Cond.fieldLink RX3 49 "CellRows2Model" "faults" "[I", Cond.fieldLink RX3 79 "CellRows2Model" "stage" "I"]
def wsX3_step : List Cond := .code yX3_step cX3_step 16 (some .int) :: ((wsX3_step_r1 ++ (wsX3_step_r2 ++ wsX3_step_r3)) ++ wsX30)
def wsX3_charge : List Cond := .code yX3_charge cX3_charge 2 (some .long) :: ([.fieldLink RX3 73 "CellRows2Model" "thrown" "I", .fieldLink RX3 7 "CellRows2Model" "charges" "[J", .methodLink RX3 104 yX3_noCell, .instanceMethod yX3_noCell, .selects RX3 yX3_noCell yX3_noCell, .initialized RX3, .code yX3_noCell cX3_noCell 2 (some .boolean), .fieldLink RX3 61 "CellRows2Model" "cells" "I"] ++ wsX30)
def wsX3_share : List Cond := .code yX3_share cX3_share 2 (some .double) :: ([.fieldLink RX3 73 "CellRows2Model" "thrown" "I", .fieldLink RX3 13 "CellRows2Model" "shares" "[D", .methodLink RX3 104 yX3_noCell, .instanceMethod yX3_noCell, .selects RX3 yX3_noCell yX3_noCell, .initialized RX3, .code yX3_noCell cX3_noCell 2 (some .boolean), .fieldLink RX3 61 "CellRows2Model" "cells" "I"] ++ wsX30)
def wsX3_whole : List Cond := .code yX3_whole cX3_whole 9 (some .long) :: ([.fieldLink RX3 73 "CellRows2Model" "thrown" "I", .fieldLink RX3 43 "CellRows2Model" "limits" "[J", .fieldLink RX3 7 "CellRows2Model" "charges" "[J", .methodLink RX3 104 yX3_noCell, .instanceMethod yX3_noCell, .selects RX3 yX3_noCell yX3_noCell, .initialized RX3, .code yX3_noCell cX3_noCell 2 (some .boolean), .fieldLink RX3 61 "CellRows2Model" "cells" "I", .methodLink RX3 89 yX3_size, .static yX3_size, .code yX3_size cX3_size 2 (some .long)] ++ wsX30)
def wsX3_contactor : List Cond := .code yX3_contactor cX3_contactor 2 (some .int) :: ([.fieldLink RX3 73 "CellRows2Model" "thrown" "I", .fieldLink RX3 79 "CellRows2Model" "stage" "I", .fieldLink RX3 112 "CellRows2Model" "steps" "I", .fieldLink RX3 131 "CellRows2Model" "began" "I", .fieldLink RX3 46 "CellRows2Model" "stucks" "[Z", .methodLink RX3 127 yX3_fails, .instanceMethod yX3_fails, .selects RX3 yX3_fails yX3_fails, .initialized RX3, .code yX3_fails cX3_fails 2 none, .fieldLink RX3 49 "CellRows2Model" "faults" "[I", .fieldLink RX3 76 "CellRows2Model" "faultCount" "I"] ++ wsX30)
def wsX3_leastVolt : List Cond := .code yX3_leastVolt cX3_leastVolt 4 (some .long) :: ([.fieldLink RX3 17 "CellRows2Model" "volts" "[J", .fieldLink RX3 61 "CellRows2Model" "cells" "I"] ++ wsX30)
def wsX3_bleed : List Cond := .code yX3_bleed cX3_bleed 4 (some .int) :: ([.fieldLink RX3 73 "CellRows2Model" "thrown" "I", .fieldLink RX3 27 "CellRows2Model" "bleeds" "[Z", .fieldLink RX3 7 "CellRows2Model" "charges" "[J", .fieldLink RX3 43 "CellRows2Model" "limits" "[J", .fieldLink RX3 17 "CellRows2Model" "volts" "[J", .constantLong RX3 138 (10), .fieldLink RX3 61 "CellRows2Model" "cells" "I", .methodLink RX3 104 yX3_noCell, .instanceMethod yX3_noCell, .selects RX3 yX3_noCell yX3_noCell, .initialized RX3, .code yX3_noCell cX3_noCell 2 (some .boolean), .methodLink RX3 134 yX3_leastVolt, .instanceMethod yX3_leastVolt, .selects RX3 yX3_leastVolt yX3_leastVolt, .code yX3_leastVolt cX3_leastVolt 4 (some .long)] ++ wsX30)
def wsX3_limit : List Cond := .code yX3_limit cX3_limit 4 (some .int) :: ([.fieldLink RX3 73 "CellRows2Model" "thrown" "I", .constantLong RX3 100 (-1000), .constantLong RX3 140 (1000000), .fieldLink RX3 43 "CellRows2Model" "limits" "[J"] ++ wsX30)
def wsX3_weakest : List Cond := .code yX3_weakest cX3_weakest 3 (some .int) :: ([.fieldLink RX3 73 "CellRows2Model" "thrown" "I", .fieldLink RX3 61 "CellRows2Model" "cells" "I", .fieldLink RX3 7 "CellRows2Model" "charges" "[J"] ++ wsX30)
def wsX3_insulate : List Cond := .code yX3_insulate cX3_insulate 3 (some .int) :: ([.fieldLink RX3 73 "CellRows2Model" "thrown" "I", .constantLong RX3 142 (100), .methodLink RX3 127 yX3_fails, .instanceMethod yX3_fails, .selects RX3 yX3_fails yX3_fails, .initialized RX3, .code yX3_fails cX3_fails 2 none, .fieldLink RX3 49 "CellRows2Model" "faults" "[I", .fieldLink RX3 76 "CellRows2Model" "faultCount" "I", .fieldLink RX3 79 "CellRows2Model" "stage" "I"] ++ wsX30)
def wsX3_stuck : List Cond := .code yX3_stuck cX3_stuck 2 (some .int) :: ([.fieldLink RX3 73 "CellRows2Model" "thrown" "I", .fieldLink RX3 46 "CellRows2Model" "stucks" "[Z"] ++ wsX30)
def wsX3_cycle : List Cond := .code yX3_cycle cX3_cycle 3 (some .int) :: ([.fieldLink RX3 73 "CellRows2Model" "thrown" "I", .fieldLink RX3 93 "CellRows2Model" "cycles" "I", .fieldLink RX3 55 "CellRows2Model" "ranges" "[I", .fieldLink RX3 58 "CellRows2Model" "lows" "[I"] ++ wsX30)
def wsX3_cool : List Cond := .code yX3_cool cX3_cool 4 (some .int) :: ([.fieldLink RX3 73 "CellRows2Model" "thrown" "I", .fieldLink RX3 20 "CellRows2Model" "warms" "[J", .fieldLink RX3 61 "CellRows2Model" "cells" "I", .constantLong RX3 144 (550), .constantLong RX3 146 (450), .constantLong RX3 148 (350)] ++ wsX30)
def wsX3_fault : List Cond := .code yX3_fault cX3_fault 2 (some .int) :: ([.fieldLink RX3 73 "CellRows2Model" "thrown" "I", .fieldLink RX3 76 "CellRows2Model" "faultCount" "I", .fieldLink RX3 49 "CellRows2Model" "faults" "[I"] ++ wsX30)
def wsJx00060_init_a7421 : List Cond := .code yJx00060_init_a7421 cJx00060_init_a7421 2 none :: ([])
def wsJ9_abs_067f4 : List Cond := .code yJ9_abs_067f4 cJ9_abs_067f4 2 (some .long) :: ([])
def wsJ9_max_f86c9 : List Cond := .code yJ9_max_f86c9 cJ9_max_f86c9 4 (some .long) :: ([])
def wsJ9_min_f86c9 : List Cond := .code yJ9_min_f86c9 cJ9_min_f86c9 4 (some .long) :: ([])
def wsL_cell : List Cond := .code yL_cell cL_cell 2 (some .int) :: ([])
def wsL_step_r1 : List Cond := [Cond.methodLink RL 7 yX2_step, Cond.instanceMethod yX2_step, Cond.selects RX2 yX2_step yX2_step, Cond.initialized RX2, Cond.code yX2_step cX2_step 10 (some .int), Cond.constantLong RX2 49 (-100000), Cond.constantLong RX2 51 (100000), Cond.constantLong RX2 57 (10000), Cond.constantLong RX2 59 (-1000), Cond.constantLong RX2 61 (2000), Cond.classLink RX2 67 RJx00060, Cond.instantiable RJx00060 6, Cond.initialized RJx00060, Cond.fieldLink RX2 25 "CellRows2" "limits" "[J", Cond.fieldLink RX2 78 "CellRows2" "stepsOfPreCharge" "I", Cond.fieldLink RX2 39 "CellRows2" "turns" "LCellRows2$Turns;", Cond.methodLink RX2 53 yX2_isOutside, Cond.static yX2_isOutside, Cond.code yX2_isOutside cX2_isOutside 6 (some .boolean), Cond.methodLink RX2 63 yX2_cellOf, Cond.instanceMethod yX2_cellOf, Cond.selects RX2 yX2_cellOf yX2_cellOf, Cond.code yX2_cellOf cX2_cellOf 2 (some (.object "CellRows2$Cell")), Cond.fieldLink RX2 11 "CellRows2" "cells" "[LCellRows2$Cell;"]
def wsL_step_r2 : List Cond := [Cond.instanceMethod yX0_take, Cond.initialized RX0, Cond.selects RX0 yX0_take yX0_take, Cond.code yX0_take cX0_take 15 none, Cond.fieldLink RX0 25 "CellRows2$Cell" "voltage" "J", Cond.fieldLink RX0 30 "CellRows2$Cell" "warmth" "J", Cond.fieldLink RX0 11 "CellRows2$Cell" "charge" "J", Cond.fieldLink RX0 33 "CellRows2$Cell" "bleeds" "Z", Cond.constantLong RX0 37 (5), Cond.fieldLink RX0 19 "CellRows2$Cell" "estimate" "D", Cond.constantLong RX0 43 (3000), Cond.constantDouble RX0 45 (4652992471259676672), Cond.constantDouble RX0 47 (4589168020290535424), Cond.methodLink RX0 39 yX0_withinShare, Cond.static yX0_withinShare, Cond.code yX0_withinShare cX0_withinShare 2 (some .double), Cond.instanceMethod yX1_follow, Cond.initialized RX1, Cond.selects RX1 yX1_follow yX1_follow, Cond.code yX1_follow cX1_follow 3 none, Cond.fieldLink RX1 9 "CellRows2$Turns" "points" "[J", Cond.fieldLink RX1 25 "CellRows2$Turns" "pointCount" "I", Cond.methodLink RX1 21 yX1_goesOn, Cond.instanceMethod yX1_goesOn]
def wsL_step_r3 : List Cond := [Cond.selects RX1 yX1_goesOn yX1_goesOn, Cond.code yX1_goesOn cX1_goesOn 5 (some .boolean), Cond.methodLink RX1 29 yX1_takeCyclesOut, Cond.instanceMethod yX1_takeCyclesOut, Cond.selects RX1 yX1_takeCyclesOut yX1_takeCyclesOut, Cond.code yX1_takeCyclesOut cX1_takeCyclesOut 11 none, Cond.methodLink RX1 32 Lib.MathLoose.abs_long.x, Cond.static Lib.MathLoose.abs_long.x, Cond.initialized "java/lang/Math", Cond.code Lib.MathLoose.abs_long.x Lib.MathLoose.abs_long.code 2 (some .long), Cond.methodLink RX1 38 Lib.MathLoose.min_long.x, Cond.static Lib.MathLoose.min_long.x, Cond.code Lib.MathLoose.min_long.x Lib.MathLoose.min_long.code 4 (some .long), Cond.methodLink RX1 42 yX1_keepCycle, Cond.instanceMethod yX1_keepCycle, Cond.selects RX1 yX1_keepCycle yX1_keepCycle, Cond.code yX1_keepCycle cX1_keepCycle 5 none, Cond.fieldLink RX1 46 "CellRows2$Turns" "cycleCount" "I", Cond.fieldLink RX1 15 "CellRows2$Turns" "cycleRanges" "[J", Cond.fieldLink RX1 18 "CellRows2$Turns" "cycleLows" "[J", Cond.methodLink RX2 86 yX2_isBeyond, Cond.instanceMethod yX2_isBeyond, Cond.selects RX2 yX2_isBeyond yX2_isBeyond, Cond.code yX2_isBeyond cX2_isBeyond 4 (some .boolean)]
def wsL_step_r4 : List Cond := [Cond.methodLink RX2 167 Lib.MathLoose.abs_long.x, Cond.methodLink RX2 93 yX2_noteFaultsOfStep, Cond.instanceMethod yX2_noteFaultsOfStep, Cond.selects RX2 yX2_noteFaultsOfStep yX2_noteFaultsOfStep, Cond.code yX2_noteFaultsOfStep cX2_noteFaultsOfStep 4 (some .boolean), Cond.methodLink RX2 135 yX2_noteFault, Cond.instanceMethod yX2_noteFault, Cond.selects RX2 yX2_noteFault yX2_noteFault, Cond.code yX2_noteFault cX2_noteFault 2 none, Cond.fieldLink RX2 110 "CellRows2" "stage" "I", Cond.fieldLink RX2 158 "CellRows2" "faultCount" "I", Cond.fieldLink RX2 32 "CellRows2" "faults" "[I"]
def wsL_step : List Cond := .codeWith yL_step cL_step 10 (some .int) [(0, 15, 18, 13)] :: ((wsL_step_r1 ++ (wsL_step_r2 ++ (wsL_step_r3 ++ wsL_step_r4))) ++ wsJx000600 ++ wsX20 ++ wsX00 ++ wsX10)
def wsL_whole : List Cond := .codeWith yL_whole cL_whole 5 (some .int) [(0, 9, 12, 19)] :: ([.classLink RL 19 "java/lang/ArithmeticException", .methodLink RL 15 yX2_whole, .instanceMethod yX2_whole, .selects RX2 yX2_whole yX2_whole, .initialized RX2, .code yX2_whole cX2_whole 8 (some .long), .classLink RX2 101 "java/lang/ArithmeticException", .initialized "java/lang/ArithmeticException", .fieldLink RX2 25 "CellRows2" "limits" "[J", .methodLink RX2 63 yX2_cellOf, .instanceMethod yX2_cellOf, .selects RX2 yX2_cellOf yX2_cellOf, .code yX2_cellOf cX2_cellOf 2 (some (.object "CellRows2$Cell")), .fieldLink RX2 11 "CellRows2" "cells" "[LCellRows2$Cell;", .methodLink RX2 106 yX2_greatestCommonDivisor, .static yX2_greatestCommonDivisor, .code yX2_greatestCommonDivisor cX2_greatestCommonDivisor 11 (some .long), .methodLink RX2 167 Lib.MathLoose.abs_long.x, .static Lib.MathLoose.abs_long.x, .initialized "java/lang/Math", .code Lib.MathLoose.abs_long.x Lib.MathLoose.abs_long.code 2 (some .long)] ++ wsX20 ++ wsX00 ++ (vx_atS RX2 105 "java/lang/ArithmeticException" ["java/lang/RuntimeException", "java/lang/Exception"]).filter goodWord)
def wsL_law0_r1 : List Cond := [Cond.classLink RL 8 RX2, Cond.instantiable RX2 8, Cond.initialized RX2, Cond.classLink RL 30 RX3, Cond.instantiable RX3 20, Cond.initialized RX3, Cond.arrayClass .long, Cond.constantLong RL 33 (4294967295), Cond.methodLink RL 21 yL_cell, Cond.static yL_cell, Cond.initialized RL, Cond.code yL_cell cL_cell 2 (some .int), Cond.methodLink RL 27 yX2_init, Cond.instanceMethod yX2_init, Cond.code yX2_init cX2_init 4 none, Cond.methodLink RX2 1 objectInit, Cond.instanceMethod objectInit, Cond.code objectInit ⟨#[0xb1]⟩ 1 none, Cond.classLink RX2 9 RX0, Cond.fieldLink RX2 11 "CellRows2" "cells" "[LCellRows2$Cell;", Cond.instantiable RX0 6, Cond.initialized RX0, Cond.fieldLink RX2 16 "CellRows2" "FIRST_LIMITS" "[J", Cond.methodLink RX2 20 ⟨"[J", "clone", "()Ljava/lang/Object;"⟩]
def wsL_law0_r2 : List Cond := [Cond.sameMethod "[J" "java/lang/Object" "clone" "()Ljava/lang/Object;", Cond.native ⟨"java/lang/Object", "clone", "()Ljava/lang/Object;"⟩, Cond.instanceMethod ⟨"java/lang/Object", "clone", "()Ljava/lang/Object;"⟩, Cond.selects "[J" ⟨"[J", "clone", "()Ljava/lang/Object;"⟩ ⟨"java/lang/Object", "clone", "()Ljava/lang/Object;"⟩, Cond.classLink RX2 21 "[J", Cond.fieldLink RX2 25 "CellRows2" "limits" "[J", Cond.arrayClass .boolean, Cond.fieldLink RX2 28 "CellRows2" "stuckContactors" "[Z", Cond.arrayClass .int, Cond.fieldLink RX2 32 "CellRows2" "faults" "[I", Cond.classLink RX2 36 RX1, Cond.instantiable RX1 5, Cond.initialized RX1, Cond.fieldLink RX2 39 "CellRows2" "turns" "LCellRows2$Turns;", Cond.constantLong RX2 43 (50000), Cond.instanceMethod yX0_init, Cond.code yX0_init cX0_init 1 none, Cond.methodLink RX0 3 objectInit, Cond.constantLong RX0 9 (50000), Cond.fieldLink RX0 11 "CellRows2$Cell" "charge" "J", Cond.constantDouble RX0 17 (4602678819172646912), Cond.fieldLink RX0 19 "CellRows2$Cell" "estimate" "D", Cond.constantLong RX0 23 (3600), Cond.fieldLink RX0 25 "CellRows2$Cell" "voltage" "J"]
def wsL_law0_r3 : List Cond := [Cond.constantLong RX0 28 (250), Cond.fieldLink RX0 30 "CellRows2$Cell" "warmth" "J", Cond.instanceMethod yX1_init, Cond.code yX1_init cX1_init 1 none, Cond.methodLink RX1 3 objectInit, Cond.fieldLink RX1 9 "CellRows2$Turns" "points" "[J", Cond.fieldLink RX1 15 "CellRows2$Turns" "cycleRanges" "[J", Cond.fieldLink RX1 18 "CellRows2$Turns" "cycleLows" "[J", Cond.instanceMethod yX1_follow, Cond.selects RX1 yX1_follow yX1_follow, Cond.code yX1_follow cX1_follow 3 none, Cond.fieldLink RX1 25 "CellRows2$Turns" "pointCount" "I", Cond.methodLink RX1 21 yX1_goesOn, Cond.instanceMethod yX1_goesOn, Cond.selects RX1 yX1_goesOn yX1_goesOn, Cond.code yX1_goesOn cX1_goesOn 5 (some .boolean), Cond.methodLink RX1 29 yX1_takeCyclesOut, Cond.instanceMethod yX1_takeCyclesOut, Cond.selects RX1 yX1_takeCyclesOut yX1_takeCyclesOut, Cond.code yX1_takeCyclesOut cX1_takeCyclesOut 11 none, Cond.methodLink RX1 32 Lib.MathLoose.abs_long.x, Cond.static Lib.MathLoose.abs_long.x, Cond.initialized "java/lang/Math", Cond.code Lib.MathLoose.abs_long.x Lib.MathLoose.abs_long.code 2 (some .long)]
def wsL_law0_r4 : List Cond := [Cond.methodLink RX1 38 Lib.MathLoose.min_long.x, Cond.static Lib.MathLoose.min_long.x, Cond.code Lib.MathLoose.min_long.x Lib.MathLoose.min_long.code 4 (some .long), Cond.methodLink RX1 42 yX1_keepCycle, Cond.instanceMethod yX1_keepCycle, Cond.selects RX1 yX1_keepCycle yX1_keepCycle, Cond.code yX1_keepCycle cX1_keepCycle 5 none, Cond.fieldLink RX1 46 "CellRows2$Turns" "cycleCount" "I", Cond.methodLink RL 32 yX3_init, Cond.instanceMethod yX3_init, Cond.code yX3_init cX3_init 3 none, Cond.methodLink RX3 1 objectInit, Cond.fieldLink RX3 7 "CellRows2Model" "charges" "[J", Cond.arrayClass .double, Cond.fieldLink RX3 13 "CellRows2Model" "shares" "[D", Cond.fieldLink RX3 17 "CellRows2Model" "volts" "[J", Cond.fieldLink RX3 20 "CellRows2Model" "warms" "[J", Cond.fieldLink RX3 23 "CellRows2Model" "beyonds" "[I", Cond.fieldLink RX3 27 "CellRows2Model" "bleeds" "[Z", Cond.constantLong RX3 31 (2800), Cond.constantLong RX3 33 (4200), Cond.constantLong RX3 35 (600), Cond.constantLong RX3 37 (5000), Cond.constantLong RX3 39 (1000)]
def wsL_law0_r5 : List Cond := [Cond.constantLong RX3 41 (100000), Cond.fieldLink RX3 43 "CellRows2Model" "limits" "[J", Cond.fieldLink RX3 46 "CellRows2Model" "stucks" "[Z", Cond.fieldLink RX3 49 "CellRows2Model" "faults" "[I", Cond.fieldLink RX3 52 "CellRows2Model" "points" "[J", Cond.fieldLink RX3 55 "CellRows2Model" "ranges" "[I", Cond.fieldLink RX3 58 "CellRows2Model" "lows" "[I", Cond.fieldLink RX3 61 "CellRows2Model" "cells" "I", Cond.constantLong RX3 65 (50000), Cond.constantDouble RX3 67 (4602678819172646912), Cond.constantLong RX3 69 (3600), Cond.constantLong RX3 71 (250), Cond.methodLink RL 35 yL_step, Cond.static yL_step, Cond.codeWith yL_step cL_step 10 (some .int) [(0, 15, 18, 13)], Cond.methodLink RL 7 yX2_step, Cond.instanceMethod yX2_step, Cond.selects RX2 yX2_step yX2_step, Cond.code yX2_step cX2_step 10 (some .int), Cond.constantLong RX2 49 (-100000), Cond.constantLong RX2 51 (100000), Cond.constantLong RX2 57 (10000), Cond.constantLong RX2 59 (-1000), Cond.constantLong RX2 61 (2000)]
def wsL_law0_r6 : List Cond := [Cond.classLink RX2 67 RJx00060, Cond.instantiable RJx00060 6, Cond.initialized RJx00060, Cond.fieldLink RX2 78 "CellRows2" "stepsOfPreCharge" "I", Cond.methodLink RX2 53 yX2_isOutside, Cond.static yX2_isOutside, Cond.code yX2_isOutside cX2_isOutside 6 (some .boolean), Cond.methodLink RX2 63 yX2_cellOf, Cond.instanceMethod yX2_cellOf, Cond.selects RX2 yX2_cellOf yX2_cellOf, Cond.code yX2_cellOf cX2_cellOf 2 (some (.object "CellRows2$Cell")), Cond.instanceMethod yX0_take, Cond.selects RX0 yX0_take yX0_take, Cond.code yX0_take cX0_take 15 none, Cond.fieldLink RX0 33 "CellRows2$Cell" "bleeds" "Z", Cond.constantLong RX0 37 (5), Cond.constantLong RX0 43 (3000), Cond.constantDouble RX0 45 (4652992471259676672), Cond.constantDouble RX0 47 (4589168020290535424), Cond.methodLink RX0 39 yX0_withinShare, Cond.static yX0_withinShare, Cond.code yX0_withinShare cX0_withinShare 2 (some .double), Cond.methodLink RX2 86 yX2_isBeyond, Cond.instanceMethod yX2_isBeyond]
def wsL_law0_r7 : List Cond := [Cond.selects RX2 yX2_isBeyond yX2_isBeyond, Cond.code yX2_isBeyond cX2_isBeyond 4 (some .boolean), Cond.methodLink RX2 167 Lib.MathLoose.abs_long.x, Cond.methodLink RX2 93 yX2_noteFaultsOfStep, Cond.instanceMethod yX2_noteFaultsOfStep, Cond.selects RX2 yX2_noteFaultsOfStep yX2_noteFaultsOfStep, Cond.code yX2_noteFaultsOfStep cX2_noteFaultsOfStep 4 (some .boolean), Cond.methodLink RX2 135 yX2_noteFault, Cond.instanceMethod yX2_noteFault, Cond.selects RX2 yX2_noteFault yX2_noteFault, Cond.code yX2_noteFault cX2_noteFault 2 none, Cond.fieldLink RX2 110 "CellRows2" "stage" "I", Cond.fieldLink RX2 158 "CellRows2" "faultCount" "I", Cond.methodLink RL 38 yX3_step, Cond.instanceMethod yX3_step, Cond.selects RX3 yX3_step yX3_step, Cond.code yX3_step cX3_step 16 (some .int), Cond.fieldLink RX3 73 "CellRows2Model" "thrown" "I", Cond.constantLong RX3 96 (-100000), Cond.constantLong RX3 98 (10000), Cond.constantLong RX3 100 (-1000), Cond.constantLong RX3 102 (2000), Cond.fieldLink RX3 82 "CellRows2Model" "many" "I", Cond.fieldLink RX3 112 "CellRows2Model" "steps" "I"]
def wsL_law0_r8 : List Cond := [Cond.constantLong RX3 115 (5), Cond.constantLong RX3 121 (3000), Cond.constantDouble RX3 123 (4652992471259676672), Cond.constantDouble RX3 125 (4589168020290535424), Cond.fieldLink RX3 76 "CellRows2Model" "faultCount" "I", Cond.methodLink RX3 104 yX3_noCell, Cond.instanceMethod yX3_noCell, Cond.selects RX3 yX3_noCell yX3_noCell, Cond.code yX3_noCell cX3_noCell 2 (some .boolean), Cond.methodLink RX3 108 yX3_point, Cond.instanceMethod yX3_point, Cond.selects RX3 yX3_point yX3_point, Cond.code yX3_point cX3_point 12 none, Cond.fieldLink RX3 93 "CellRows2Model" "cycles" "I", Cond.methodLink RX3 85 yX3_goesOn, Cond.instanceMethod yX3_goesOn, Cond.selects RX3 yX3_goesOn yX3_goesOn, Cond.code yX3_goesOn cX3_goesOn 5 (some .boolean), Cond.methodLink RX3 89 yX3_size, Cond.static yX3_size, Cond.code yX3_size cX3_size 2 (some .long), Cond.methodLink RX3 117 yX3_within, Cond.static yX3_within, Cond.code yX3_within cX3_within 2 (some .double)]
def wsL_law0_r9 : List Cond := [Cond.methodLink RX3 127 yX3_fails, Cond.instanceMethod yX3_fails, Cond.selects RX3 yX3_fails yX3_fails, Cond.code yX3_fails cX3_fails 2 none, Cond.fieldLink RX3 79 "CellRows2Model" "stage" "I", Cond.methodLink RL 39 yX3_thrown, Cond.instanceMethod yX3_thrown, Cond.selects RX3 yX3_thrown yX3_thrown, Cond.code yX3_thrown cX3_thrown 1 (some .int), Cond.methodLink RL 43 yX2_charge, Cond.instanceMethod yX2_charge, Cond.selects RX2 yX2_charge yX2_charge, Cond.code yX2_charge cX2_charge 3 (some .long), Cond.methodLink RL 47 yX3_charge, Cond.instanceMethod yX3_charge, Cond.selects RX3 yX3_charge yX3_charge, Cond.code yX3_charge cX3_charge 2 (some .long), Cond.methodLink RL 48 yX2_share, Cond.instanceMethod yX2_share, Cond.selects RX2 yX2_share yX2_share, Cond.code yX2_share cX2_share 3 (some .double), Cond.methodLink RL 52 yX3_share, Cond.instanceMethod yX3_share, Cond.selects RX3 yX3_share yX3_share]
def wsL_law0_r10 : List Cond := [Cond.code yX3_share cX3_share 2 (some .double), Cond.methodLink RL 53 yL_whole, Cond.static yL_whole, Cond.codeWith yL_whole cL_whole 5 (some .int) [(0, 9, 12, 19)], Cond.classLink RL 19 "java/lang/ArithmeticException", Cond.methodLink RL 15 yX2_whole, Cond.instanceMethod yX2_whole, Cond.selects RX2 yX2_whole yX2_whole, Cond.code yX2_whole cX2_whole 8 (some .long), Cond.classLink RX2 101 "java/lang/ArithmeticException", Cond.initialized "java/lang/ArithmeticException", Cond.methodLink RX2 106 yX2_greatestCommonDivisor, Cond.static yX2_greatestCommonDivisor, Cond.code yX2_greatestCommonDivisor cX2_greatestCommonDivisor 11 (some .long), Cond.methodLink RL 56 yX3_whole, Cond.instanceMethod yX3_whole, Cond.selects RX3 yX3_whole yX3_whole, Cond.code yX3_whole cX3_whole 9 (some .long), Cond.methodLink RL 57 yX2_contactor, Cond.instanceMethod yX2_contactor, Cond.selects RX2 yX2_contactor yX2_contactor, Cond.code yX2_contactor cX2_contactor 2 (some .int), Cond.methodLink RX2 113 yX2_closeNextContactor, Cond.instanceMethod yX2_closeNextContactor]
def wsL_law0_r11 : List Cond := [Cond.selects RX2 yX2_closeNextContactor yX2_closeNextContactor, Cond.code yX2_closeNextContactor cX2_closeNextContactor 1 (some .int), Cond.methodLink RX2 173 yX2_isStuck, Cond.instanceMethod yX2_isStuck, Cond.selects RX2 yX2_isStuck yX2_isStuck, Cond.code yX2_isStuck cX2_isStuck 2 (some .boolean), Cond.methodLink RL 61 yX3_contactor, Cond.instanceMethod yX3_contactor, Cond.selects RX3 yX3_contactor yX3_contactor, Cond.code yX3_contactor cX3_contactor 2 (some .int), Cond.fieldLink RX3 131 "CellRows2Model" "began" "I", Cond.methodLink RL 62 yX2_bleed, Cond.instanceMethod yX2_bleed, Cond.selects RX2 yX2_bleed yX2_bleed, Cond.code yX2_bleed cX2_bleed 3 (some .int), Cond.methodLink RX2 121 yX2_mayBleed, Cond.instanceMethod yX2_mayBleed, Cond.selects RX2 yX2_mayBleed yX2_mayBleed, Cond.code yX2_mayBleed cX2_mayBleed 2 (some .boolean), Cond.constantLong RX2 180 (10), Cond.methodLink RX2 177 yX2_leastVoltage, Cond.instanceMethod yX2_leastVoltage, Cond.selects RX2 yX2_leastVoltage yX2_leastVoltage, Cond.code yX2_leastVoltage cX2_leastVoltage 7 (some .long)]
def wsL_law0_r12 : List Cond := [Cond.constantLong RX2 131 (9223372036854775807), Cond.methodLink RX2 182 Lib.MathLoose.min_long.x, Cond.methodLink RX2 124 yX2_bleedingCells, Cond.instanceMethod yX2_bleedingCells, Cond.selects RX2 yX2_bleedingCells yX2_bleedingCells, Cond.code yX2_bleedingCells cX2_bleedingCells 6 (some .int), Cond.methodLink RL 66 yX3_bleed, Cond.instanceMethod yX3_bleed, Cond.selects RX3 yX3_bleed yX3_bleed, Cond.code yX3_bleed cX3_bleed 4 (some .int), Cond.constantLong RX3 138 (10), Cond.methodLink RX3 134 yX3_leastVolt, Cond.instanceMethod yX3_leastVolt, Cond.selects RX3 yX3_leastVolt yX3_leastVolt, Cond.code yX3_leastVolt cX3_leastVolt 4 (some .long), Cond.methodLink RL 67 yX2_limit, Cond.instanceMethod yX2_limit, Cond.selects RX2 yX2_limit yX2_limit, Cond.code yX2_limit cX2_limit 6 (some .int), Cond.constantLong RX2 127 (1000000), Cond.methodLink RL 71 yX3_limit, Cond.instanceMethod yX3_limit, Cond.selects RX3 yX3_limit yX3_limit, Cond.code yX3_limit cX3_limit 4 (some .int)]
def wsL_law0_r13 : List Cond := [Cond.constantLong RX3 140 (1000000), Cond.methodLink RL 72 yX2_weakest, Cond.instanceMethod yX2_weakest, Cond.selects RX2 yX2_weakest yX2_weakest, Cond.code yX2_weakest cX2_weakest 5 (some .int), Cond.methodLink RL 75 yX3_weakest, Cond.instanceMethod yX3_weakest, Cond.selects RX3 yX3_weakest yX3_weakest, Cond.code yX3_weakest cX3_weakest 3 (some .int), Cond.methodLink RL 76 yX2_insulate, Cond.instanceMethod yX2_insulate, Cond.selects RX2 yX2_insulate yX2_insulate, Cond.code yX2_insulate cX2_insulate 3 (some .int), Cond.constantLong RX2 133 (100), Cond.methodLink RL 80 yX3_insulate, Cond.instanceMethod yX3_insulate, Cond.selects RX3 yX3_insulate yX3_insulate, Cond.code yX3_insulate cX3_insulate 3 (some .int), Cond.constantLong RX3 142 (100), Cond.methodLink RL 81 yX2_stuck, Cond.instanceMethod yX2_stuck, Cond.selects RX2 yX2_stuck yX2_stuck, Cond.code yX2_stuck cX2_stuck 2 (some .int), Cond.methodLink RL 84 yX3_stuck]
def wsL_law0_r14 : List Cond := [Cond.instanceMethod yX3_stuck, Cond.selects RX3 yX3_stuck yX3_stuck, Cond.code yX3_stuck cX3_stuck 2 (some .int), Cond.methodLink RL 85 yX2_cycle, Cond.instanceMethod yX2_cycle, Cond.selects RX2 yX2_cycle yX2_cycle, Cond.code yX2_cycle cX2_cycle 3 (some .int), Cond.methodLink RL 89 yX3_cycle, Cond.instanceMethod yX3_cycle, Cond.selects RX3 yX3_cycle yX3_cycle, Cond.code yX3_cycle cX3_cycle 3 (some .int), Cond.methodLink RL 90 yX2_cool, Cond.instanceMethod yX2_cool, Cond.selects RX2 yX2_cool yX2_cool, Cond.code yX2_cool cX2_cool 3 (some .int), Cond.constantLong RX2 152 (550), Cond.constantLong RX2 154 (450), Cond.constantLong RX2 156 (350), Cond.methodLink RX2 148 yX2_greatestWarmth, Cond.instanceMethod yX2_greatestWarmth, Cond.selects RX2 yX2_greatestWarmth yX2_greatestWarmth, Cond.code yX2_greatestWarmth cX2_greatestWarmth 7 (some .long), Cond.constantLong RX2 185 (-9223372036854775808), Cond.methodLink RX2 187 Lib.MathLoose.max_long.x]
def wsL_law0_r15 : List Cond := [Cond.static Lib.MathLoose.max_long.x, Cond.code Lib.MathLoose.max_long.x Lib.MathLoose.max_long.code 4 (some .long), Cond.methodLink RL 93 yX3_cool, Cond.instanceMethod yX3_cool, Cond.selects RX3 yX3_cool yX3_cool, Cond.code yX3_cool cX3_cool 4 (some .int), Cond.constantLong RX3 144 (550), Cond.constantLong RX3 146 (450), Cond.constantLong RX3 148 (350), Cond.methodLink RL 94 yX2_fault, Cond.instanceMethod yX2_fault, Cond.selects RX2 yX2_fault yX2_fault, Cond.code yX2_fault cX2_fault 2 (some .int), Cond.methodLink RL 97 yX3_fault, Cond.instanceMethod yX3_fault, Cond.selects RX3 yX3_fault yX3_fault, Cond.code yX3_fault cX3_fault 2 (some .int)]
def wsL_law0 : List Cond := (wsL_law0_r1 ++ (wsL_law0_r2 ++ (wsL_law0_r3 ++ (wsL_law0_r4 ++ (wsL_law0_r5 ++ (wsL_law0_r6 ++ (wsL_law0_r7 ++ (wsL_law0_r8 ++ (wsL_law0_r9 ++ (wsL_law0_r10 ++ (wsL_law0_r11 ++ (wsL_law0_r12 ++ (wsL_law0_r13 ++ (wsL_law0_r14 ++ wsL_law0_r15)))))))))))))) ++ wsX20 ++ wsX30 ++ wsX00 ++ wsX10 ++ wsJx000600 ++ ([] : List Cond)
def wsL_law : List Cond := wsL_law0 ++ (vx_atS RX2 105 "java/lang/ArithmeticException" ["java/lang/RuntimeException", "java/lang/Exception"]).filter goodWord
abbrev vwCl : List vw_C := [(RJx00060, TJx00060, 6), (RX0, TX0, 6), (RX1, TX1, 5), (RX2, TX2, 8), (RX3, TX3, 20)]
end
section
set_option maxRecDepth 20000 in
theorem wsL_law0_r1_in : ∀ w ∈ wsL_law0_r1, w ∈ lw_tbl := fun w h => (goodIn_p wsL_law0_r1 [255, 37, 40] (by decide +kernel) (by decide +kernel) w h).1
set_option maxRecDepth 20000 in
theorem wsL_law0_r2_in : ∀ w ∈ wsL_law0_r2, w ∈ lw_tbl := fun w h => (goodIn_p wsL_law0_r2 [46] (by decide +kernel) (by decide +kernel) w h).1
set_option maxRecDepth 20000 in
theorem wsL_law0_r3_in : ∀ w ∈ wsL_law0_r3, w ∈ lw_tbl := fun w h => (goodIn_p wsL_law0_r3 [89, 117, 121, 125, 128] (by decide +kernel) (by decide +kernel) w h).1
set_option maxRecDepth 20000 in
theorem wsL_law0_r4_in : ∀ w ∈ wsL_law0_r4, w ∈ lw_tbl := fun w h => (goodIn_p wsL_law0_r4 [131, 135, 391] (by decide +kernel) (by decide +kernel) w h).1
set_option maxRecDepth 20000 in
theorem wsL_law0_r5_in : ∀ w ∈ wsL_law0_r5, w ∈ lw_tbl := fun w h => (goodIn_p wsL_law0_r5 [263] (by decide +kernel) (by decide +kernel) w h).1
set_option maxRecDepth 20000 in
theorem wsL_law0_r6_in : ∀ w ∈ wsL_law0_r6, w ∈ lw_tbl := fun w h => (goodIn_p wsL_law0_r6 [216, 168, 343, 347] (by decide +kernel) (by decide +kernel) w h).1
set_option maxRecDepth 20000 in
theorem wsL_law0_r7_in : ∀ w ∈ wsL_law0_r7, w ∈ lw_tbl := fun w h => (goodIn_p wsL_law0_r7 [354, 359, 184, 472] (by decide +kernel) (by decide +kernel) w h).1
set_option maxRecDepth 20000 in
theorem wsL_law0_r8_in : ∀ w ∈ wsL_law0_r8, w ∈ lw_tbl := fun w h => (goodIn_p wsL_law0_r8 [480, 484, 488, 491, 495] (by decide +kernel) (by decide +kernel) w h).1
set_option maxRecDepth 20000 in
theorem wsL_law0_r9_in : ∀ w ∈ wsL_law0_r9, w ∈ lw_tbl := fun w h => (goodIn_p wsL_law0_r9 [502, 468, 164, 506, 172] (by decide +kernel) (by decide +kernel) w h).1
set_option maxRecDepth 20000 in
theorem wsL_law0_r10_in : ∀ w ∈ wsL_law0_r10, w ∈ lw_tbl := fun w h => (goodIn_p wsL_law0_r10 [510, 367, 386, 514, 176] (by decide +kernel) (by decide +kernel) w h).1
set_option maxRecDepth 20000 in
theorem wsL_law0_r11_in : ∀ w ∈ wsL_law0_r11, w ∈ lw_tbl := fun w h => (goodIn_p wsL_law0_r11 [180, 188, 518, 192, 196, 200] (by decide +kernel) (by decide +kernel) w h).1
set_option maxRecDepth 20000 in
theorem wsL_law0_r12_in : ∀ w ∈ wsL_law0_r12, w ∈ lw_tbl := fun w h => (goodIn_p wsL_law0_r12 [207, 522, 526, 211, 531] (by decide +kernel) (by decide +kernel) w h).1
set_option maxRecDepth 20000 in
theorem wsL_law0_r13_in : ∀ w ∈ wsL_law0_r13, w ∈ lw_tbl := fun w h => (goodIn_p wsL_law0_r13 [220, 536, 224, 540, 229] (by decide +kernel) (by decide +kernel) w h).1
set_option maxRecDepth 20000 in
theorem wsL_law0_r14_in : ∀ w ∈ wsL_law0_r14, w ∈ lw_tbl := fun w h => (goodIn_p wsL_law0_r14 [545, 233, 549, 237, 241] (by decide +kernel) (by decide +kernel) w h).1
set_option maxRecDepth 20000 in
theorem wsL_law0_r15_in : ∀ w ∈ wsL_law0_r15, w ∈ lw_tbl := fun w h => (goodIn_p wsL_law0_r15 [245, 553, 252, 560] (by decide +kernel) (by decide +kernel) w h).1
set_option maxRecDepth 20000 in
theorem wsX20_in : ∀ w ∈ wsX20, w ∈ lw_tbl := by decide +kernel
set_option maxRecDepth 20000 in
theorem wsX30_in : ∀ w ∈ wsX30, w ∈ lw_tbl := by decide +kernel
set_option maxRecDepth 20000 in
theorem wsX00_in : ∀ w ∈ wsX00, w ∈ lw_tbl := by decide +kernel
set_option maxRecDepth 20000 in
theorem wsX10_in : ∀ w ∈ wsX10, w ∈ lw_tbl := by decide +kernel
set_option maxRecDepth 20000 in
theorem wsJx000600_in : ∀ w ∈ wsJx000600, w ∈ lw_tbl := by decide +kernel
theorem wsL_law_in0 : ∀ w ∈ wsL_law0, w ∈ lw_tbl := (fun w h => (List.mem_append.mp h).elim ((fun w h => (List.mem_append.mp h).elim ((fun w h => (List.mem_append.mp h).elim ((fun w h => (List.mem_append.mp h).elim ((fun w h => (List.mem_append.mp h).elim ((fun w h => (List.mem_append.mp h).elim ((fun w h => (List.mem_append.mp h).elim (wsL_law0_r1_in w) ((fun w h => (List.mem_append.mp h).elim (wsL_law0_r2_in w) ((fun w h => (List.mem_append.mp h).elim (wsL_law0_r3_in w) ((fun w h => (List.mem_append.mp h).elim (wsL_law0_r4_in w) ((fun w h => (List.mem_append.mp h).elim (wsL_law0_r5_in w) ((fun w h => (List.mem_append.mp h).elim (wsL_law0_r6_in w) ((fun w h => (List.mem_append.mp h).elim (wsL_law0_r7_in w) ((fun w h => (List.mem_append.mp h).elim (wsL_law0_r8_in w) ((fun w h => (List.mem_append.mp h).elim (wsL_law0_r9_in w) ((fun w h => (List.mem_append.mp h).elim (wsL_law0_r10_in w) ((fun w h => (List.mem_append.mp h).elim (wsL_law0_r11_in w) ((fun w h => (List.mem_append.mp h).elim (wsL_law0_r12_in w) ((fun w h => (List.mem_append.mp h).elim (wsL_law0_r13_in w) ((fun w h => (List.mem_append.mp h).elim (wsL_law0_r14_in w) (wsL_law0_r15_in w)) w)) w)) w)) w)) w)) w)) w)) w)) w)) w)) w)) w)) w)) w) (wsX20_in w)) w) (wsX30_in w)) w) (wsX00_in w)) w) (wsX10_in w)) w) (wsJx000600_in w)) w) ((fun w h => absurd h List.not_mem_nil) w))
set_option maxRecDepth 20000 in
theorem wsL_law_x0 : ∀ w ∈ (vx_atS RX2 105 "java/lang/ArithmeticException" ["java/lang/RuntimeException", "java/lang/Exception"]).filter goodWord, w ∈ lw_tbl := by decide +kernel
theorem wsL_law_in : ∀ w ∈ wsL_law, w ∈ lw_tbl := fun w h => (List.mem_append.mp h).elim (fun h => wsL_law_in0 w h) (fun h => wsL_law_x0 w h)
theorem inlX0 : ∀ w ∈ wsX00, w ∈ wsL_law := fun _ h => List.mem_append_left _ (List.mem_append_left _ (List.mem_append_left _ (List.mem_append_left _ (List.mem_append_right _ h))))
theorem inX0 : ∀ w ∈ wsX00, w ∈ lw_tbl := fun w h => wsL_law_in w (inlX0 w h)
theorem inlX1 : ∀ w ∈ wsX10, w ∈ wsL_law := fun _ h => List.mem_append_left _ (List.mem_append_left _ (List.mem_append_left _ (List.mem_append_right _ h)))
theorem inX1 : ∀ w ∈ wsX10, w ∈ lw_tbl := fun w h => wsL_law_in w (inlX1 w h)
theorem inlX2 : ∀ w ∈ wsX20, w ∈ wsL_law := fun _ h => List.mem_append_left _ (List.mem_append_left _ (List.mem_append_left _ (List.mem_append_left _ (List.mem_append_left _ (List.mem_append_left _ (List.mem_append_right _ h))))))
theorem inX2 : ∀ w ∈ wsX20, w ∈ lw_tbl := fun w h => wsL_law_in w (inlX2 w h)
theorem inlX3 : ∀ w ∈ wsX30, w ∈ wsL_law := fun _ h => List.mem_append_left _ (List.mem_append_left _ (List.mem_append_left _ (List.mem_append_left _ (List.mem_append_left _ (List.mem_append_right _ h)))))
theorem inX3 : ∀ w ∈ wsX30, w ∈ lw_tbl := fun w h => wsL_law_in w (inlX3 w h)
theorem inlJx00060 : ∀ w ∈ wsJx000600, w ∈ wsL_law := fun _ h => List.mem_append_left _ (List.mem_append_left _ (List.mem_append_right _ h))
theorem inJx00060 : ∀ w ∈ wsJx000600, w ∈ lw_tbl := fun w h => wsL_law_in w (inlJx00060 w h)
theorem inJx8e188 : ∀ w ∈ wsJx8e1880, w ∈ lw_tbl := by decide +kernel
theorem inJ9 : ∀ w ∈ wsJ90, w ∈ lw_tbl := by decide +kernel
theorem inJ0 : ∀ w ∈ wsJ00, w ∈ lw_tbl := by decide +kernel
end
section
theorem dX0_init_0 : decode cX0_init 0 = .ok (.aload_n 0, 1) := by decide +kernel
theorem dX0_init_1 : decode cX0_init 1 = .ok (.invokespecial 3, 3) := by decide +kernel
theorem dX0_init_4 : decode cX0_init 4 = .ok (.aload_n 0, 1) := by decide +kernel
theorem dX0_init_5 : decode cX0_init 5 = .ok (.ldc2_w 9, 3) := by decide +kernel
theorem dX0_init_8 : decode cX0_init 8 = .ok (.putfield 11, 3) := by decide +kernel
theorem dX0_init_11 : decode cX0_init 11 = .ok (.aload_n 0, 1) := by decide +kernel
theorem dX0_init_12 : decode cX0_init 12 = .ok (.ldc2_w 17, 3) := by decide +kernel
theorem dX0_init_15 : decode cX0_init 15 = .ok (.putfield 19, 3) := by decide +kernel
theorem dX0_init_18 : decode cX0_init 18 = .ok (.aload_n 0, 1) := by decide +kernel
theorem dX0_init_19 : decode cX0_init 19 = .ok (.ldc2_w 23, 3) := by decide +kernel
theorem dX0_init_22 : decode cX0_init 22 = .ok (.putfield 25, 3) := by decide +kernel
theorem dX0_init_25 : decode cX0_init 25 = .ok (.aload_n 0, 1) := by decide +kernel
theorem dX0_init_26 : decode cX0_init 26 = .ok (.ldc2_w 28, 3) := by decide +kernel
theorem dX0_init_29 : decode cX0_init 29 = .ok (.putfield 30, 3) := by decide +kernel
theorem dX0_init_32 : decode cX0_init 32 = .ok (.return_, 1) := by decide +kernel
set_option maxRecDepth 20000 in
theorem ggX0_take_X0_withinShare : GoodIn wsX0_take wsX0_withinShare := goodIn_r _ [13] (by decide +kernel) (by decide +kernel)
set_option maxRecDepth 20000 in
theorem gX0_take_X0_withinShare : GoodIn wsX0_take (va_wsS RX0 39 yX0_withinShare wsX0_withinShare) := goodIn_app (goodIn_of _ (by decide +kernel)) ggX0_take_X0_withinShare
theorem dX0_take_0 : decode cX0_take 0 = .ok (.aload_n 0, 1) := by decide +kernel
theorem dX0_take_1 : decode cX0_take 1 = .ok (.lload_n 3, 1) := by decide +kernel
theorem dX0_take_2 : decode cX0_take 2 = .ok (.putfield 25, 3) := by decide +kernel
theorem dX0_take_5 : decode cX0_take 5 = .ok (.aload_n 0, 1) := by decide +kernel
theorem dX0_take_6 : decode cX0_take 6 = .ok (.lload 5, 2) := by decide +kernel
theorem dX0_take_8 : decode cX0_take 8 = .ok (.putfield 30, 3) := by decide +kernel
theorem dX0_take_11 : decode cX0_take 11 = .ok (.aload_n 0, 1) := by decide +kernel
theorem dX0_take_12 : decode cX0_take 12 = .ok (.dup, 1) := by decide +kernel
theorem dX0_take_13 : decode cX0_take 13 = .ok (.getfield 11, 3) := by decide +kernel
theorem dX0_take_16 : decode cX0_take 16 = .ok (.aload_n 0, 1) := by decide +kernel
theorem dX0_take_17 : decode cX0_take 17 = .ok (.getfield 33, 3) := by decide +kernel
theorem dX0_take_20 : decode cX0_take 20 = .ok (.ifCond .eq 11, 3) := by decide +kernel
theorem dX0_take_23 : decode cX0_take 23 = .ok (.lload_n 1, 1) := by decide +kernel
theorem dX0_take_24 : decode cX0_take 24 = .ok (.ldc2_w 37, 3) := by decide +kernel
theorem dX0_take_27 : decode cX0_take 27 = .ok (.lsub, 1) := by decide +kernel
theorem dX0_take_28 : decode cX0_take 28 = .ok (.goto 4, 3) := by decide +kernel
theorem dX0_take_31 : decode cX0_take 31 = .ok (.lload_n 1, 1) := by decide +kernel
theorem dX0_take_32 : decode cX0_take 32 = .ok (.ladd, 1) := by decide +kernel
theorem dX0_take_33 : decode cX0_take 33 = .ok (.putfield 11, 3) := by decide +kernel
theorem dX0_take_36 : decode cX0_take 36 = .ok (.lload 7, 2) := by decide +kernel
theorem dX0_take_38 : decode cX0_take 38 = .ok (.lconst 0, 1) := by decide +kernel
theorem dX0_take_39 : decode cX0_take 39 = .ok (.lcmp, 1) := by decide +kernel
theorem dX0_take_40 : decode cX0_take 40 = .ok (.ifCond .ne 10, 3) := by decide +kernel
theorem dX0_take_43 : decode cX0_take 43 = .ok (.aload_n 0, 1) := by decide +kernel
theorem dX0_take_44 : decode cX0_take 44 = .ok (.getfield 19, 3) := by decide +kernel
theorem dX0_take_47 : decode cX0_take 47 = .ok (.goto 14, 3) := by decide +kernel
theorem dX0_take_50 : decode cX0_take 50 = .ok (.aload_n 0, 1) := by decide +kernel
theorem dX0_take_51 : decode cX0_take 51 = .ok (.getfield 19, 3) := by decide +kernel
theorem dX0_take_54 : decode cX0_take 54 = .ok (.lload_n 1, 1) := by decide +kernel
theorem dX0_take_55 : decode cX0_take 55 = .ok (.l2d, 1) := by decide +kernel
theorem dX0_take_56 : decode cX0_take 56 = .ok (.lload 7, 2) := by decide +kernel
theorem dX0_take_58 : decode cX0_take 58 = .ok (.l2d, 1) := by decide +kernel
theorem dX0_take_59 : decode cX0_take 59 = .ok (.ddiv, 1) := by decide +kernel
theorem dX0_take_60 : decode cX0_take 60 = .ok (.dadd, 1) := by decide +kernel
theorem dX0_take_61 : decode cX0_take 61 = .ok (.dstore 9, 2) := by decide +kernel
theorem dX0_take_63 : decode cX0_take 63 = .ok (.dload 9, 2) := by decide +kernel
theorem dX0_take_65 : decode cX0_take 65 = .ok (.invokestatic 39, 3) := by decide +kernel
theorem dX0_take_68 : decode cX0_take 68 = .ok (.dstore 11, 2) := by decide +kernel
theorem dX0_take_70 : decode cX0_take 70 = .ok (.lload_n 3, 1) := by decide +kernel
theorem dX0_take_71 : decode cX0_take 71 = .ok (.ldc2_w 43, 3) := by decide +kernel
theorem dX0_take_74 : decode cX0_take 74 = .ok (.lsub, 1) := by decide +kernel
theorem dX0_take_75 : decode cX0_take 75 = .ok (.l2d, 1) := by decide +kernel
theorem dX0_take_76 : decode cX0_take 76 = .ok (.ldc2_w 45, 3) := by decide +kernel
theorem dX0_take_79 : decode cX0_take 79 = .ok (.ddiv, 1) := by decide +kernel
theorem dX0_take_80 : decode cX0_take 80 = .ok (.invokestatic 39, 3) := by decide +kernel
theorem dX0_take_83 : decode cX0_take 83 = .ok (.dstore 13, 2) := by decide +kernel
theorem dX0_take_85 : decode cX0_take 85 = .ok (.aload_n 0, 1) := by decide +kernel
theorem dX0_take_86 : decode cX0_take 86 = .ok (.dload 11, 2) := by decide +kernel
theorem dX0_take_88 : decode cX0_take 88 = .ok (.ldc2_w 47, 3) := by decide +kernel
theorem dX0_take_91 : decode cX0_take 91 = .ok (.dload 13, 2) := by decide +kernel
theorem dX0_take_93 : decode cX0_take 93 = .ok (.dload 11, 2) := by decide +kernel
theorem dX0_take_95 : decode cX0_take 95 = .ok (.dsub, 1) := by decide +kernel
theorem dX0_take_96 : decode cX0_take 96 = .ok (.dmul, 1) := by decide +kernel
theorem dX0_take_97 : decode cX0_take 97 = .ok (.dadd, 1) := by decide +kernel
theorem dX0_take_98 : decode cX0_take 98 = .ok (.putfield 19, 3) := by decide +kernel
theorem dX0_take_101 : decode cX0_take 101 = .ok (.return_, 1) := by decide +kernel
theorem dX0_withinShare_0 : decode cX0_withinShare 0 = .ok (.dload_n 0, 1) := by decide +kernel
theorem dX0_withinShare_1 : decode cX0_withinShare 1 = .ok (.dconst 0, 1) := by decide +kernel
theorem dX0_withinShare_2 : decode cX0_withinShare 2 = .ok (.dcmp .g, 1) := by decide +kernel
theorem dX0_withinShare_3 : decode cX0_withinShare 3 = .ok (.ifCond .ge 5, 3) := by decide +kernel
theorem dX0_withinShare_6 : decode cX0_withinShare 6 = .ok (.dconst 0, 1) := by decide +kernel
theorem dX0_withinShare_7 : decode cX0_withinShare 7 = .ok (.dreturn, 1) := by decide +kernel
theorem dX0_withinShare_8 : decode cX0_withinShare 8 = .ok (.dload_n 0, 1) := by decide +kernel
theorem dX0_withinShare_9 : decode cX0_withinShare 9 = .ok (.dconst 1, 1) := by decide +kernel
theorem dX0_withinShare_10 : decode cX0_withinShare 10 = .ok (.dcmp .l, 1) := by decide +kernel
theorem dX0_withinShare_11 : decode cX0_withinShare 11 = .ok (.ifCond .le 7, 3) := by decide +kernel
theorem dX0_withinShare_14 : decode cX0_withinShare 14 = .ok (.dconst 1, 1) := by decide +kernel
theorem dX0_withinShare_15 : decode cX0_withinShare 15 = .ok (.goto 4, 3) := by decide +kernel
theorem dX0_withinShare_18 : decode cX0_withinShare 18 = .ok (.dload_n 0, 1) := by decide +kernel
theorem dX0_withinShare_19 : decode cX0_withinShare 19 = .ok (.dreturn, 1) := by decide +kernel
theorem dX1_init_0 : decode cX1_init 0 = .ok (.aload_n 0, 1) := by decide +kernel
theorem dX1_init_1 : decode cX1_init 1 = .ok (.invokespecial 3, 3) := by decide +kernel
theorem dX1_init_4 : decode cX1_init 4 = .ok (.aload_n 0, 1) := by decide +kernel
theorem dX1_init_5 : decode cX1_init 5 = .ok (.sipush 500, 3) := by decide +kernel
theorem dX1_init_8 : decode cX1_init 8 = .ok (.newarray .long, 2) := by decide +kernel
theorem dX1_init_10 : decode cX1_init 10 = .ok (.putfield 9, 3) := by decide +kernel
theorem dX1_init_13 : decode cX1_init 13 = .ok (.aload_n 0, 1) := by decide +kernel
theorem dX1_init_14 : decode cX1_init 14 = .ok (.sipush 256, 3) := by decide +kernel
theorem dX1_init_17 : decode cX1_init 17 = .ok (.newarray .long, 2) := by decide +kernel
theorem dX1_init_19 : decode cX1_init 19 = .ok (.putfield 15, 3) := by decide +kernel
theorem dX1_init_22 : decode cX1_init 22 = .ok (.aload_n 0, 1) := by decide +kernel
theorem dX1_init_23 : decode cX1_init 23 = .ok (.sipush 256, 3) := by decide +kernel
theorem dX1_init_26 : decode cX1_init 26 = .ok (.newarray .long, 2) := by decide +kernel
theorem dX1_init_28 : decode cX1_init 28 = .ok (.putfield 18, 3) := by decide +kernel
theorem dX1_init_31 : decode cX1_init 31 = .ok (.return_, 1) := by decide +kernel
set_option maxRecDepth 20000 in
theorem ggX1_follow_X1_goesOn : GoodIn wsX1_follow wsX1_goesOn := goodIn_r _ [7, 2, 1, 26, 27, 28, 29, 30] (by decide +kernel) (by decide +kernel)
set_option maxRecDepth 20000 in
theorem gX1_follow_X1_goesOn : GoodIn wsX1_follow (wsV RX1 21 RX1 yX1_goesOn wsX1_goesOn) := goodIn_app (goodIn_of _ (by decide +kernel)) ggX1_follow_X1_goesOn
set_option maxRecDepth 20000 in
theorem ggX1_follow_X1_takeCyclesOut : GoodIn wsX1_follow wsX1_takeCyclesOut := goodIn_r _ [11, 2, 1, 12, 13, 14, 15, 16, 17, 18, 19, 20, 21, 6, 22, 23, 24, 25, 26, 27, 28, 29, 30] (by decide +kernel) (by decide +kernel)
set_option maxRecDepth 20000 in
theorem gX1_follow_X1_takeCyclesOut : GoodIn wsX1_follow (wsV RX1 29 RX1 yX1_takeCyclesOut wsX1_takeCyclesOut) := goodIn_app (goodIn_of _ (by decide +kernel)) ggX1_follow_X1_takeCyclesOut
theorem dX1_follow_0 : decode cX1_follow 0 = .ok (.aload_n 0, 1) := by decide +kernel
theorem dX1_follow_1 : decode cX1_follow 1 = .ok (.lload_n 1, 1) := by decide +kernel
theorem dX1_follow_2 : decode cX1_follow 2 = .ok (.invokevirtual 21, 3) := by decide +kernel
theorem dX1_follow_5 : decode cX1_follow 5 = .ok (.ifCond .eq 18, 3) := by decide +kernel
theorem dX1_follow_8 : decode cX1_follow 8 = .ok (.aload_n 0, 1) := by decide +kernel
theorem dX1_follow_9 : decode cX1_follow 9 = .ok (.getfield 9, 3) := by decide +kernel
theorem dX1_follow_12 : decode cX1_follow 12 = .ok (.aload_n 0, 1) := by decide +kernel
theorem dX1_follow_13 : decode cX1_follow 13 = .ok (.getfield 25, 3) := by decide +kernel
theorem dX1_follow_16 : decode cX1_follow 16 = .ok (.iconst 1, 1) := by decide +kernel
theorem dX1_follow_17 : decode cX1_follow 17 = .ok (.isub, 1) := by decide +kernel
theorem dX1_follow_18 : decode cX1_follow 18 = .ok (.lload_n 1, 1) := by decide +kernel
theorem dX1_follow_19 : decode cX1_follow 19 = .ok (.lastore, 1) := by decide +kernel
theorem dX1_follow_20 : decode cX1_follow 20 = .ok (.goto 35, 3) := by decide +kernel
theorem dX1_follow_23 : decode cX1_follow 23 = .ok (.aload_n 0, 1) := by decide +kernel
theorem dX1_follow_24 : decode cX1_follow 24 = .ok (.getfield 25, 3) := by decide +kernel
theorem dX1_follow_27 : decode cX1_follow 27 = .ok (.aload_n 0, 1) := by decide +kernel
theorem dX1_follow_28 : decode cX1_follow 28 = .ok (.getfield 9, 3) := by decide +kernel
theorem dX1_follow_31 : decode cX1_follow 31 = .ok (.arraylength, 1) := by decide +kernel
theorem dX1_follow_32 : decode cX1_follow 32 = .ok (.if_icmp .ge 23, 3) := by decide +kernel
theorem dX1_follow_35 : decode cX1_follow 35 = .ok (.aload_n 0, 1) := by decide +kernel
theorem dX1_follow_36 : decode cX1_follow 36 = .ok (.getfield 9, 3) := by decide +kernel
theorem dX1_follow_39 : decode cX1_follow 39 = .ok (.aload_n 0, 1) := by decide +kernel
theorem dX1_follow_40 : decode cX1_follow 40 = .ok (.getfield 25, 3) := by decide +kernel
theorem dX1_follow_43 : decode cX1_follow 43 = .ok (.lload_n 1, 1) := by decide +kernel
theorem dX1_follow_44 : decode cX1_follow 44 = .ok (.lastore, 1) := by decide +kernel
theorem dX1_follow_45 : decode cX1_follow 45 = .ok (.aload_n 0, 1) := by decide +kernel
theorem dX1_follow_46 : decode cX1_follow 46 = .ok (.dup, 1) := by decide +kernel
theorem dX1_follow_47 : decode cX1_follow 47 = .ok (.getfield 25, 3) := by decide +kernel
theorem dX1_follow_50 : decode cX1_follow 50 = .ok (.iconst 1, 1) := by decide +kernel
theorem dX1_follow_51 : decode cX1_follow 51 = .ok (.iadd, 1) := by decide +kernel
theorem dX1_follow_52 : decode cX1_follow 52 = .ok (.putfield 25, 3) := by decide +kernel
theorem dX1_follow_55 : decode cX1_follow 55 = .ok (.aload_n 0, 1) := by decide +kernel
theorem dX1_follow_56 : decode cX1_follow 56 = .ok (.invokevirtual 29, 3) := by decide +kernel
theorem dX1_follow_59 : decode cX1_follow 59 = .ok (.return_, 1) := by decide +kernel
theorem dX1_goesOn_0 : decode cX1_goesOn 0 = .ok (.aload_n 0, 1) := by decide +kernel
theorem dX1_goesOn_1 : decode cX1_goesOn 1 = .ok (.getfield 25, 3) := by decide +kernel
theorem dX1_goesOn_4 : decode cX1_goesOn 4 = .ok (.iconst 1, 1) := by decide +kernel
theorem dX1_goesOn_5 : decode cX1_goesOn 5 = .ok (.if_icmp .ge 5, 3) := by decide +kernel
theorem dX1_goesOn_8 : decode cX1_goesOn 8 = .ok (.iconst 0, 1) := by decide +kernel
theorem dX1_goesOn_9 : decode cX1_goesOn 9 = .ok (.ireturn, 1) := by decide +kernel
theorem dX1_goesOn_10 : decode cX1_goesOn 10 = .ok (.aload_n 0, 1) := by decide +kernel
theorem dX1_goesOn_11 : decode cX1_goesOn 11 = .ok (.getfield 9, 3) := by decide +kernel
theorem dX1_goesOn_14 : decode cX1_goesOn 14 = .ok (.aload_n 0, 1) := by decide +kernel
theorem dX1_goesOn_15 : decode cX1_goesOn 15 = .ok (.getfield 25, 3) := by decide +kernel
theorem dX1_goesOn_18 : decode cX1_goesOn 18 = .ok (.iconst 1, 1) := by decide +kernel
theorem dX1_goesOn_19 : decode cX1_goesOn 19 = .ok (.isub, 1) := by decide +kernel
theorem dX1_goesOn_20 : decode cX1_goesOn 20 = .ok (.laload, 1) := by decide +kernel
theorem dX1_goesOn_21 : decode cX1_goesOn 21 = .ok (.lstore_n 3, 1) := by decide +kernel
theorem dX1_goesOn_22 : decode cX1_goesOn 22 = .ok (.lload_n 1, 1) := by decide +kernel
theorem dX1_goesOn_23 : decode cX1_goesOn 23 = .ok (.lload_n 3, 1) := by decide +kernel
theorem dX1_goesOn_24 : decode cX1_goesOn 24 = .ok (.lcmp, 1) := by decide +kernel
theorem dX1_goesOn_25 : decode cX1_goesOn 25 = .ok (.ifCond .ne 5, 3) := by decide +kernel
theorem dX1_goesOn_28 : decode cX1_goesOn 28 = .ok (.iconst 1, 1) := by decide +kernel
theorem dX1_goesOn_29 : decode cX1_goesOn 29 = .ok (.ireturn, 1) := by decide +kernel
theorem dX1_goesOn_30 : decode cX1_goesOn 30 = .ok (.aload_n 0, 1) := by decide +kernel
theorem dX1_goesOn_31 : decode cX1_goesOn 31 = .ok (.getfield 25, 3) := by decide +kernel
theorem dX1_goesOn_34 : decode cX1_goesOn 34 = .ok (.iconst 1, 1) := by decide +kernel
theorem dX1_goesOn_35 : decode cX1_goesOn 35 = .ok (.if_icmp .le 42, 3) := by decide +kernel
theorem dX1_goesOn_38 : decode cX1_goesOn 38 = .ok (.lload_n 1, 1) := by decide +kernel
theorem dX1_goesOn_39 : decode cX1_goesOn 39 = .ok (.lload_n 3, 1) := by decide +kernel
theorem dX1_goesOn_40 : decode cX1_goesOn 40 = .ok (.lcmp, 1) := by decide +kernel
theorem dX1_goesOn_41 : decode cX1_goesOn 41 = .ok (.ifCond .le 7, 3) := by decide +kernel
theorem dX1_goesOn_44 : decode cX1_goesOn 44 = .ok (.iconst 1, 1) := by decide +kernel
theorem dX1_goesOn_45 : decode cX1_goesOn 45 = .ok (.goto 4, 3) := by decide +kernel
theorem dX1_goesOn_48 : decode cX1_goesOn 48 = .ok (.iconst 0, 1) := by decide +kernel
theorem dX1_goesOn_49 : decode cX1_goesOn 49 = .ok (.lload_n 3, 1) := by decide +kernel
theorem dX1_goesOn_50 : decode cX1_goesOn 50 = .ok (.aload_n 0, 1) := by decide +kernel
theorem dX1_goesOn_51 : decode cX1_goesOn 51 = .ok (.getfield 9, 3) := by decide +kernel
theorem dX1_goesOn_54 : decode cX1_goesOn 54 = .ok (.aload_n 0, 1) := by decide +kernel
theorem dX1_goesOn_55 : decode cX1_goesOn 55 = .ok (.getfield 25, 3) := by decide +kernel
theorem dX1_goesOn_58 : decode cX1_goesOn 58 = .ok (.iconst 2, 1) := by decide +kernel
theorem dX1_goesOn_59 : decode cX1_goesOn 59 = .ok (.isub, 1) := by decide +kernel
theorem dX1_goesOn_60 : decode cX1_goesOn 60 = .ok (.laload, 1) := by decide +kernel
theorem dX1_goesOn_61 : decode cX1_goesOn 61 = .ok (.lcmp, 1) := by decide +kernel
theorem dX1_goesOn_62 : decode cX1_goesOn 62 = .ok (.ifCond .le 7, 3) := by decide +kernel
theorem dX1_goesOn_65 : decode cX1_goesOn 65 = .ok (.iconst 1, 1) := by decide +kernel
theorem dX1_goesOn_66 : decode cX1_goesOn 66 = .ok (.goto 4, 3) := by decide +kernel
theorem dX1_goesOn_69 : decode cX1_goesOn 69 = .ok (.iconst 0, 1) := by decide +kernel
theorem dX1_goesOn_70 : decode cX1_goesOn 70 = .ok (.if_icmp .ne 7, 3) := by decide +kernel
theorem dX1_goesOn_73 : decode cX1_goesOn 73 = .ok (.iconst 1, 1) := by decide +kernel
theorem dX1_goesOn_74 : decode cX1_goesOn 74 = .ok (.goto 4, 3) := by decide +kernel
theorem dX1_goesOn_77 : decode cX1_goesOn 77 = .ok (.iconst 0, 1) := by decide +kernel
theorem dX1_goesOn_78 : decode cX1_goesOn 78 = .ok (.ireturn, 1) := by decide +kernel
set_option maxRecDepth 20000 in
theorem ggX1_takeCyclesOut_X1_keepCycle : GoodIn wsX1_takeCyclesOut wsX1_keepCycle := goodIn_r _ [14, 15, 16, 17, 18, 19, 20, 21, 22] (by decide +kernel) (by decide +kernel)
set_option maxRecDepth 20000 in
theorem gX1_takeCyclesOut_X1_keepCycle : GoodIn wsX1_takeCyclesOut (wsV RX1 42 RX1 yX1_keepCycle wsX1_keepCycle) := goodIn_app (goodIn_of _ (by decide +kernel)) ggX1_takeCyclesOut_X1_keepCycle
theorem dX1_takeCyclesOut_0 : decode cX1_takeCyclesOut 0 = .ok (.aload_n 0, 1) := by decide +kernel
theorem dX1_takeCyclesOut_1 : decode cX1_takeCyclesOut 1 = .ok (.getfield 25, 3) := by decide +kernel
theorem dX1_takeCyclesOut_4 : decode cX1_takeCyclesOut 4 = .ok (.iconst 4, 1) := by decide +kernel
theorem dX1_takeCyclesOut_5 : decode cX1_takeCyclesOut 5 = .ok (.if_icmp .lt 127, 3) := by decide +kernel
theorem dX1_takeCyclesOut_8 : decode cX1_takeCyclesOut 8 = .ok (.aload_n 0, 1) := by decide +kernel
theorem dX1_takeCyclesOut_9 : decode cX1_takeCyclesOut 9 = .ok (.getfield 9, 3) := by decide +kernel
theorem dX1_takeCyclesOut_12 : decode cX1_takeCyclesOut 12 = .ok (.aload_n 0, 1) := by decide +kernel
theorem dX1_takeCyclesOut_13 : decode cX1_takeCyclesOut 13 = .ok (.getfield 25, 3) := by decide +kernel
theorem dX1_takeCyclesOut_16 : decode cX1_takeCyclesOut 16 = .ok (.iconst 4, 1) := by decide +kernel
theorem dX1_takeCyclesOut_17 : decode cX1_takeCyclesOut 17 = .ok (.isub, 1) := by decide +kernel
theorem dX1_takeCyclesOut_18 : decode cX1_takeCyclesOut 18 = .ok (.laload, 1) := by decide +kernel
theorem dX1_takeCyclesOut_19 : decode cX1_takeCyclesOut 19 = .ok (.lstore_n 1, 1) := by decide +kernel
theorem dX1_takeCyclesOut_20 : decode cX1_takeCyclesOut 20 = .ok (.aload_n 0, 1) := by decide +kernel
theorem dX1_takeCyclesOut_21 : decode cX1_takeCyclesOut 21 = .ok (.getfield 9, 3) := by decide +kernel
theorem dX1_takeCyclesOut_24 : decode cX1_takeCyclesOut 24 = .ok (.aload_n 0, 1) := by decide +kernel
theorem dX1_takeCyclesOut_25 : decode cX1_takeCyclesOut 25 = .ok (.getfield 25, 3) := by decide +kernel
theorem dX1_takeCyclesOut_28 : decode cX1_takeCyclesOut 28 = .ok (.iconst 3, 1) := by decide +kernel
theorem dX1_takeCyclesOut_29 : decode cX1_takeCyclesOut 29 = .ok (.isub, 1) := by decide +kernel
theorem dX1_takeCyclesOut_30 : decode cX1_takeCyclesOut 30 = .ok (.laload, 1) := by decide +kernel
theorem dX1_takeCyclesOut_31 : decode cX1_takeCyclesOut 31 = .ok (.lstore_n 3, 1) := by decide +kernel
theorem dX1_takeCyclesOut_32 : decode cX1_takeCyclesOut 32 = .ok (.aload_n 0, 1) := by decide +kernel
theorem dX1_takeCyclesOut_33 : decode cX1_takeCyclesOut 33 = .ok (.getfield 9, 3) := by decide +kernel
theorem dX1_takeCyclesOut_36 : decode cX1_takeCyclesOut 36 = .ok (.aload_n 0, 1) := by decide +kernel
theorem dX1_takeCyclesOut_37 : decode cX1_takeCyclesOut 37 = .ok (.getfield 25, 3) := by decide +kernel
theorem dX1_takeCyclesOut_40 : decode cX1_takeCyclesOut 40 = .ok (.iconst 2, 1) := by decide +kernel
theorem dX1_takeCyclesOut_41 : decode cX1_takeCyclesOut 41 = .ok (.isub, 1) := by decide +kernel
theorem dX1_takeCyclesOut_42 : decode cX1_takeCyclesOut 42 = .ok (.laload, 1) := by decide +kernel
theorem dX1_takeCyclesOut_43 : decode cX1_takeCyclesOut 43 = .ok (.lstore 5, 2) := by decide +kernel
theorem dX1_takeCyclesOut_45 : decode cX1_takeCyclesOut 45 = .ok (.aload_n 0, 1) := by decide +kernel
theorem dX1_takeCyclesOut_46 : decode cX1_takeCyclesOut 46 = .ok (.getfield 9, 3) := by decide +kernel
theorem dX1_takeCyclesOut_49 : decode cX1_takeCyclesOut 49 = .ok (.aload_n 0, 1) := by decide +kernel
theorem dX1_takeCyclesOut_50 : decode cX1_takeCyclesOut 50 = .ok (.getfield 25, 3) := by decide +kernel
theorem dX1_takeCyclesOut_53 : decode cX1_takeCyclesOut 53 = .ok (.iconst 1, 1) := by decide +kernel
theorem dX1_takeCyclesOut_54 : decode cX1_takeCyclesOut 54 = .ok (.isub, 1) := by decide +kernel
theorem dX1_takeCyclesOut_55 : decode cX1_takeCyclesOut 55 = .ok (.laload, 1) := by decide +kernel
theorem dX1_takeCyclesOut_56 : decode cX1_takeCyclesOut 56 = .ok (.lstore 7, 2) := by decide +kernel
theorem dX1_takeCyclesOut_58 : decode cX1_takeCyclesOut 58 = .ok (.lload_n 3, 1) := by decide +kernel
theorem dX1_takeCyclesOut_59 : decode cX1_takeCyclesOut 59 = .ok (.lload 5, 2) := by decide +kernel
theorem dX1_takeCyclesOut_61 : decode cX1_takeCyclesOut 61 = .ok (.lsub, 1) := by decide +kernel
theorem dX1_takeCyclesOut_62 : decode cX1_takeCyclesOut 62 = .ok (.invokestatic 32, 3) := by decide +kernel
theorem dX1_takeCyclesOut_65 : decode cX1_takeCyclesOut 65 = .ok (.lstore 9, 2) := by decide +kernel
theorem dX1_takeCyclesOut_67 : decode cX1_takeCyclesOut 67 = .ok (.lload 9, 2) := by decide +kernel
theorem dX1_takeCyclesOut_69 : decode cX1_takeCyclesOut 69 = .ok (.lload_n 1, 1) := by decide +kernel
theorem dX1_takeCyclesOut_70 : decode cX1_takeCyclesOut 70 = .ok (.lload_n 3, 1) := by decide +kernel
theorem dX1_takeCyclesOut_71 : decode cX1_takeCyclesOut 71 = .ok (.lsub, 1) := by decide +kernel
theorem dX1_takeCyclesOut_72 : decode cX1_takeCyclesOut 72 = .ok (.invokestatic 32, 3) := by decide +kernel
theorem dX1_takeCyclesOut_75 : decode cX1_takeCyclesOut 75 = .ok (.lcmp, 1) := by decide +kernel
theorem dX1_takeCyclesOut_76 : decode cX1_takeCyclesOut 76 = .ok (.ifCond .gt 17, 3) := by decide +kernel
theorem dX1_takeCyclesOut_79 : decode cX1_takeCyclesOut 79 = .ok (.lload 9, 2) := by decide +kernel
theorem dX1_takeCyclesOut_81 : decode cX1_takeCyclesOut 81 = .ok (.lload 5, 2) := by decide +kernel
theorem dX1_takeCyclesOut_83 : decode cX1_takeCyclesOut 83 = .ok (.lload 7, 2) := by decide +kernel
theorem dX1_takeCyclesOut_85 : decode cX1_takeCyclesOut 85 = .ok (.lsub, 1) := by decide +kernel
theorem dX1_takeCyclesOut_86 : decode cX1_takeCyclesOut 86 = .ok (.invokestatic 32, 3) := by decide +kernel
theorem dX1_takeCyclesOut_89 : decode cX1_takeCyclesOut 89 = .ok (.lcmp, 1) := by decide +kernel
theorem dX1_takeCyclesOut_90 : decode cX1_takeCyclesOut 90 = .ok (.ifCond .le 4, 3) := by decide +kernel
theorem dX1_takeCyclesOut_93 : decode cX1_takeCyclesOut 93 = .ok (.return_, 1) := by decide +kernel
theorem dX1_takeCyclesOut_94 : decode cX1_takeCyclesOut 94 = .ok (.aload_n 0, 1) := by decide +kernel
theorem dX1_takeCyclesOut_95 : decode cX1_takeCyclesOut 95 = .ok (.lload 9, 2) := by decide +kernel
theorem dX1_takeCyclesOut_97 : decode cX1_takeCyclesOut 97 = .ok (.lload_n 3, 1) := by decide +kernel
theorem dX1_takeCyclesOut_98 : decode cX1_takeCyclesOut 98 = .ok (.lload 5, 2) := by decide +kernel
theorem dX1_takeCyclesOut_100 : decode cX1_takeCyclesOut 100 = .ok (.invokestatic 38, 3) := by decide +kernel
theorem dX1_takeCyclesOut_103 : decode cX1_takeCyclesOut 103 = .ok (.invokevirtual 42, 3) := by decide +kernel
theorem dX1_takeCyclesOut_106 : decode cX1_takeCyclesOut 106 = .ok (.aload_n 0, 1) := by decide +kernel
theorem dX1_takeCyclesOut_107 : decode cX1_takeCyclesOut 107 = .ok (.getfield 9, 3) := by decide +kernel
theorem dX1_takeCyclesOut_110 : decode cX1_takeCyclesOut 110 = .ok (.aload_n 0, 1) := by decide +kernel
theorem dX1_takeCyclesOut_111 : decode cX1_takeCyclesOut 111 = .ok (.getfield 25, 3) := by decide +kernel
theorem dX1_takeCyclesOut_114 : decode cX1_takeCyclesOut 114 = .ok (.iconst 3, 1) := by decide +kernel
theorem dX1_takeCyclesOut_115 : decode cX1_takeCyclesOut 115 = .ok (.isub, 1) := by decide +kernel
theorem dX1_takeCyclesOut_116 : decode cX1_takeCyclesOut 116 = .ok (.lload 7, 2) := by decide +kernel
theorem dX1_takeCyclesOut_118 : decode cX1_takeCyclesOut 118 = .ok (.lastore, 1) := by decide +kernel
theorem dX1_takeCyclesOut_119 : decode cX1_takeCyclesOut 119 = .ok (.aload_n 0, 1) := by decide +kernel
theorem dX1_takeCyclesOut_120 : decode cX1_takeCyclesOut 120 = .ok (.dup, 1) := by decide +kernel
theorem dX1_takeCyclesOut_121 : decode cX1_takeCyclesOut 121 = .ok (.getfield 25, 3) := by decide +kernel
theorem dX1_takeCyclesOut_124 : decode cX1_takeCyclesOut 124 = .ok (.iconst 2, 1) := by decide +kernel
theorem dX1_takeCyclesOut_125 : decode cX1_takeCyclesOut 125 = .ok (.isub, 1) := by decide +kernel
theorem dX1_takeCyclesOut_126 : decode cX1_takeCyclesOut 126 = .ok (.putfield 25, 3) := by decide +kernel
theorem dX1_takeCyclesOut_129 : decode cX1_takeCyclesOut 129 = .ok (.goto (-129), 3) := by decide +kernel
theorem dX1_takeCyclesOut_132 : decode cX1_takeCyclesOut 132 = .ok (.return_, 1) := by decide +kernel
theorem dX1_keepCycle_0 : decode cX1_keepCycle 0 = .ok (.aload_n 0, 1) := by decide +kernel
theorem dX1_keepCycle_1 : decode cX1_keepCycle 1 = .ok (.getfield 46, 3) := by decide +kernel
theorem dX1_keepCycle_4 : decode cX1_keepCycle 4 = .ok (.aload_n 0, 1) := by decide +kernel
theorem dX1_keepCycle_5 : decode cX1_keepCycle 5 = .ok (.getfield 15, 3) := by decide +kernel
theorem dX1_keepCycle_8 : decode cX1_keepCycle 8 = .ok (.arraylength, 1) := by decide +kernel
theorem dX1_keepCycle_9 : decode cX1_keepCycle 9 = .ok (.if_icmp .ge 33, 3) := by decide +kernel
theorem dX1_keepCycle_12 : decode cX1_keepCycle 12 = .ok (.aload_n 0, 1) := by decide +kernel
theorem dX1_keepCycle_13 : decode cX1_keepCycle 13 = .ok (.getfield 15, 3) := by decide +kernel
theorem dX1_keepCycle_16 : decode cX1_keepCycle 16 = .ok (.aload_n 0, 1) := by decide +kernel
theorem dX1_keepCycle_17 : decode cX1_keepCycle 17 = .ok (.getfield 46, 3) := by decide +kernel
theorem dX1_keepCycle_20 : decode cX1_keepCycle 20 = .ok (.lload_n 1, 1) := by decide +kernel
theorem dX1_keepCycle_21 : decode cX1_keepCycle 21 = .ok (.lastore, 1) := by decide +kernel
theorem dX1_keepCycle_22 : decode cX1_keepCycle 22 = .ok (.aload_n 0, 1) := by decide +kernel
theorem dX1_keepCycle_23 : decode cX1_keepCycle 23 = .ok (.getfield 18, 3) := by decide +kernel
theorem dX1_keepCycle_26 : decode cX1_keepCycle 26 = .ok (.aload_n 0, 1) := by decide +kernel
theorem dX1_keepCycle_27 : decode cX1_keepCycle 27 = .ok (.getfield 46, 3) := by decide +kernel
theorem dX1_keepCycle_30 : decode cX1_keepCycle 30 = .ok (.lload_n 3, 1) := by decide +kernel
theorem dX1_keepCycle_31 : decode cX1_keepCycle 31 = .ok (.lastore, 1) := by decide +kernel
theorem dX1_keepCycle_32 : decode cX1_keepCycle 32 = .ok (.aload_n 0, 1) := by decide +kernel
theorem dX1_keepCycle_33 : decode cX1_keepCycle 33 = .ok (.dup, 1) := by decide +kernel
theorem dX1_keepCycle_34 : decode cX1_keepCycle 34 = .ok (.getfield 46, 3) := by decide +kernel
theorem dX1_keepCycle_37 : decode cX1_keepCycle 37 = .ok (.iconst 1, 1) := by decide +kernel
theorem dX1_keepCycle_38 : decode cX1_keepCycle 38 = .ok (.iadd, 1) := by decide +kernel
theorem dX1_keepCycle_39 : decode cX1_keepCycle 39 = .ok (.putfield 46, 3) := by decide +kernel
theorem dX1_keepCycle_42 : decode cX1_keepCycle 42 = .ok (.return_, 1) := by decide +kernel
set_option maxRecDepth 20000 in
theorem ggX2_init_X0_init : GoodIn wsX2_init wsX0_init := goodIn_r _ [26, 27, 2, 3, 28, 29, 30, 31, 32, 33, 34, 35, 75, 76, 77, 78, 79, 80] (by decide +kernel) (by decide +kernel)
set_option maxRecDepth 20000 in
theorem gX2_init_X0_init_n15 : GoodIn wsX2_init (wsX0_init) := ggX2_init_X0_init
set_option maxRecDepth 20000 in
theorem ggX2_init_X1_init : GoodIn wsX2_init wsX1_init := goodIn_r _ [37, 38, 2, 3, 39, 40, 41, 42, 81, 82, 83, 84, 85] (by decide +kernel) (by decide +kernel)
set_option maxRecDepth 20000 in
theorem gX2_init_X1_init_n38 : GoodIn wsX2_init (wsX1_init) := ggX2_init_X1_init
set_option maxRecDepth 20000 in
theorem ggX2_init_X1_follow : GoodIn wsX2_init wsX1_follow := goodIn_r _ [45, 40, 46, 47, 48, 49, 22, 50, 51, 52, 53, 54, 55, 56, 57, 58, 59, 60, 61, 62, 63, 64, 65, 66, 41, 42, 81, 82, 83, 84, 85] (by decide +kernel) (by decide +kernel)
set_option maxRecDepth 20000 in
theorem gX2_init_X1_follow_n45 : GoodIn wsX2_init (wsX1_follow) := ggX2_init_X1_follow
theorem dX2_init_0 : decode cX2_init 0 = .ok (.aload_n 0, 1) := by decide +kernel
theorem dX2_init_1 : decode cX2_init 1 = .ok (.invokespecial 1, 3) := by decide +kernel
theorem dX2_init_4 : decode cX2_init 4 = .ok (.iload_n 1, 1) := by decide +kernel
theorem dX2_init_5 : decode cX2_init 5 = .ok (.iconst 1, 1) := by decide +kernel
theorem dX2_init_6 : decode cX2_init 6 = .ok (.if_icmp .lt 9, 3) := by decide +kernel
theorem dX2_init_9 : decode cX2_init 9 = .ok (.iload_n 1, 1) := by decide +kernel
theorem dX2_init_10 : decode cX2_init 10 = .ok (.bipush 24, 2) := by decide +kernel
theorem dX2_init_12 : decode cX2_init 12 = .ok (.if_icmp .le 8, 3) := by decide +kernel
theorem dX2_init_15 : decode cX2_init 15 = .ok (.bipush 8, 2) := by decide +kernel
theorem dX2_init_17 : decode cX2_init 17 = .ok (.goto 4, 3) := by decide +kernel
theorem dX2_init_20 : decode cX2_init 20 = .ok (.iload_n 1, 1) := by decide +kernel
theorem dX2_init_21 : decode cX2_init 21 = .ok (.istore_n 2, 1) := by decide +kernel
theorem dX2_init_22 : decode cX2_init 22 = .ok (.aload_n 0, 1) := by decide +kernel
theorem dX2_init_23 : decode cX2_init 23 = .ok (.iload_n 2, 1) := by decide +kernel
theorem dX2_init_24 : decode cX2_init 24 = .ok (.anewarray 9, 3) := by decide +kernel
theorem dX2_init_27 : decode cX2_init 27 = .ok (.putfield 11, 3) := by decide +kernel
theorem dX2_init_30 : decode cX2_init 30 = .ok (.iconst 0, 1) := by decide +kernel
theorem dX2_init_31 : decode cX2_init 31 = .ok (.istore_n 3, 1) := by decide +kernel
theorem dX2_init_32 : decode cX2_init 32 = .ok (.iload_n 3, 1) := by decide +kernel
theorem dX2_init_33 : decode cX2_init 33 = .ok (.iload_n 2, 1) := by decide +kernel
theorem dX2_init_34 : decode cX2_init 34 = .ok (.if_icmp .ge 22, 3) := by decide +kernel
theorem dX2_init_37 : decode cX2_init 37 = .ok (.aload_n 0, 1) := by decide +kernel
theorem dX2_init_38 : decode cX2_init 38 = .ok (.getfield 11, 3) := by decide +kernel
theorem dX2_init_41 : decode cX2_init 41 = .ok (.iload_n 3, 1) := by decide +kernel
theorem dX2_init_42 : decode cX2_init 42 = .ok (.new 9, 3) := by decide +kernel
theorem dX2_init_45 : decode cX2_init 45 = .ok (.dup, 1) := by decide +kernel
theorem dX2_init_46 : decode cX2_init 46 = .ok (.invokespecial 15, 3) := by decide +kernel
theorem dX2_init_49 : decode cX2_init 49 = .ok (.aastore, 1) := by decide +kernel
theorem dX2_init_50 : decode cX2_init 50 = .ok (.iinc 3 1, 3) := by decide +kernel
theorem dX2_init_53 : decode cX2_init 53 = .ok (.goto (-21), 3) := by decide +kernel
theorem dX2_init_56 : decode cX2_init 56 = .ok (.aload_n 0, 1) := by decide +kernel
theorem dX2_init_57 : decode cX2_init 57 = .ok (.getstatic 16, 3) := by decide +kernel
theorem dX2_init_60 : decode cX2_init 60 = .ok (.invokevirtual 20, 3) := by decide +kernel
theorem dX2_init_63 : decode cX2_init 63 = .ok (.checkcast 21, 3) := by decide +kernel
theorem dX2_init_66 : decode cX2_init 66 = .ok (.putfield 25, 3) := by decide +kernel
theorem dX2_init_69 : decode cX2_init 69 = .ok (.aload_n 0, 1) := by decide +kernel
theorem dX2_init_70 : decode cX2_init 70 = .ok (.iconst 3, 1) := by decide +kernel
theorem dX2_init_71 : decode cX2_init 71 = .ok (.newarray .boolean, 2) := by decide +kernel
theorem dX2_init_73 : decode cX2_init 73 = .ok (.putfield 28, 3) := by decide +kernel
theorem dX2_init_76 : decode cX2_init 76 = .ok (.aload_n 0, 1) := by decide +kernel
theorem dX2_init_77 : decode cX2_init 77 = .ok (.sipush 1024, 3) := by decide +kernel
theorem dX2_init_80 : decode cX2_init 80 = .ok (.newarray .int, 2) := by decide +kernel
theorem dX2_init_82 : decode cX2_init 82 = .ok (.putfield 32, 3) := by decide +kernel
theorem dX2_init_85 : decode cX2_init 85 = .ok (.aload_n 0, 1) := by decide +kernel
theorem dX2_init_86 : decode cX2_init 86 = .ok (.new 36, 3) := by decide +kernel
theorem dX2_init_89 : decode cX2_init 89 = .ok (.dup, 1) := by decide +kernel
theorem dX2_init_90 : decode cX2_init 90 = .ok (.invokespecial 38, 3) := by decide +kernel
theorem dX2_init_93 : decode cX2_init 93 = .ok (.putfield 39, 3) := by decide +kernel
theorem dX2_init_96 : decode cX2_init 96 = .ok (.aload_n 0, 1) := by decide +kernel
theorem dX2_init_97 : decode cX2_init 97 = .ok (.getfield 39, 3) := by decide +kernel
theorem dX2_init_100 : decode cX2_init 100 = .ok (.ldc2_w 43, 3) := by decide +kernel
theorem dX2_init_103 : decode cX2_init 103 = .ok (.invokevirtual 45, 3) := by decide +kernel
theorem dX2_init_106 : decode cX2_init 106 = .ok (.return_, 1) := by decide +kernel
set_option maxRecDepth 20000 in
theorem ggX2_step_X2_isOutside : GoodIn wsX2_step wsX2_isOutside := goodIn_r _ [15] (by decide +kernel) (by decide +kernel)
set_option maxRecDepth 20000 in
theorem gX2_step_X2_isOutside : GoodIn wsX2_step (va_wsS RX2 53 yX2_isOutside wsX2_isOutside) := goodIn_app (goodIn_of _ (by decide +kernel)) ggX2_step_X2_isOutside
set_option maxRecDepth 20000 in
theorem ggX2_step_X2_cellOf : GoodIn wsX2_step wsX2_cellOf := goodIn_r _ [19, 20, 87, 88, 89, 90, 91, 92, 93, 94] (by decide +kernel) (by decide +kernel)
set_option maxRecDepth 20000 in
theorem gX2_step_X2_cellOf : GoodIn wsX2_step (wsV RX2 63 RX2 yX2_cellOf wsX2_cellOf) := goodIn_app (goodIn_of _ (by decide +kernel)) ggX2_step_X2_cellOf
set_option maxRecDepth 20000 in
theorem ggX2_step_X0_take : GoodIn wsX2_step wsX0_take := goodIn_r _ [24, 25, 26, 27, 28, 29, 30, 31, 32, 33, 34, 35, 22, 36, 95, 96, 97, 98, 99, 100] (by decide +kernel) (by decide +kernel)
set_option maxRecDepth 20000 in
theorem gX2_step_X0_take_n74 : GoodIn wsX2_step (wsX0_take) := ggX2_step_X0_take
set_option maxRecDepth 20000 in
theorem ggX2_step_X1_follow : GoodIn wsX2_step wsX1_follow := goodIn_r _ [40, 41, 42, 43, 44, 45, 38, 46, 47, 48, 49, 50, 51, 52, 53, 54, 55, 56, 57, 58, 59, 60, 61, 62, 63, 64, 101, 102, 103, 104, 105] (by decide +kernel) (by decide +kernel)
set_option maxRecDepth 20000 in
theorem gX2_step_X1_follow_n45 : GoodIn wsX2_step (wsX1_follow) := ggX2_step_X1_follow
set_option maxRecDepth 20000 in
theorem ggX2_step_X2_isBeyond : GoodIn wsX2_step wsX2_isBeyond := goodIn_r _ [68, 9, 69, 52, 53, 54, 12, 13, 14, 15, 95, 96, 97, 98, 99, 100, 87, 88, 89, 90, 91, 92, 93, 94] (by decide +kernel) (by decide +kernel)
set_option maxRecDepth 20000 in
theorem gX2_step_X2_isBeyond : GoodIn wsX2_step (wsV RX2 86 RX2 yX2_isBeyond wsX2_isBeyond) := goodIn_app (goodIn_of _ (by decide +kernel)) ggX2_step_X2_isBeyond
set_option maxRecDepth 20000 in
theorem ggX2_step_X2_noteFaultsOfStep : GoodIn wsX2_step wsX2_noteFaultsOfStep := goodIn_r _ [73, 9, 12, 13, 14, 15, 74, 75, 76, 77, 78, 79, 80, 95, 96, 97, 98, 99, 100, 87, 88, 89, 90, 91, 92, 93, 94] (by decide +kernel) (by decide +kernel)
set_option maxRecDepth 20000 in
theorem gX2_step_X2_noteFaultsOfStep : GoodIn wsX2_step (wsV RX2 93 RX2 yX2_noteFaultsOfStep wsX2_noteFaultsOfStep) := goodIn_app (goodIn_of _ (by decide +kernel)) ggX2_step_X2_noteFaultsOfStep
theorem dX2_step_0 : decode cX2_step 0 = .ok (.lload_n 2, 1) := by decide +kernel
theorem dX2_step_1 : decode cX2_step 1 = .ok (.ldc2_w 49, 3) := by decide +kernel
theorem dX2_step_4 : decode cX2_step 4 = .ok (.ldc2_w 51, 3) := by decide +kernel
theorem dX2_step_7 : decode cX2_step 7 = .ok (.invokestatic 53, 3) := by decide +kernel
theorem dX2_step_10 : decode cX2_step 10 = .ok (.ifCond .ne 29, 3) := by decide +kernel
theorem dX2_step_13 : decode cX2_step 13 = .ok (.lload 4, 2) := by decide +kernel
theorem dX2_step_15 : decode cX2_step 15 = .ok (.lconst 0, 1) := by decide +kernel
theorem dX2_step_16 : decode cX2_step 16 = .ok (.ldc2_w 57, 3) := by decide +kernel
theorem dX2_step_19 : decode cX2_step 19 = .ok (.invokestatic 53, 3) := by decide +kernel
theorem dX2_step_22 : decode cX2_step 22 = .ok (.ifCond .ne 17, 3) := by decide +kernel
theorem dX2_step_25 : decode cX2_step 25 = .ok (.lload 6, 2) := by decide +kernel
theorem dX2_step_27 : decode cX2_step 27 = .ok (.ldc2_w 59, 3) := by decide +kernel
theorem dX2_step_30 : decode cX2_step 30 = .ok (.ldc2_w 61, 3) := by decide +kernel
theorem dX2_step_33 : decode cX2_step 33 = .ok (.invokestatic 53, 3) := by decide +kernel
theorem dX2_step_36 : decode cX2_step 36 = .ok (.ifCond .eq 6, 3) := by decide +kernel
theorem dX2_step_39 : decode cX2_step 39 = .ok (.bipush (-2), 2) := by decide +kernel
theorem dX2_step_41 : decode cX2_step 41 = .ok (.ireturn, 1) := by decide +kernel
theorem dX2_step_42 : decode cX2_step 42 = .ok (.aload_n 0, 1) := by decide +kernel
theorem dX2_step_43 : decode cX2_step 43 = .ok (.iload_n 1, 1) := by decide +kernel
theorem dX2_step_44 : decode cX2_step 44 = .ok (.invokevirtual 63, 3) := by decide +kernel
theorem dX2_step_47 : decode cX2_step 47 = .ok (.astore 8, 2) := by decide +kernel
theorem dX2_step_49 : decode cX2_step 49 = .ok (.aload 8, 2) := by decide +kernel
theorem dX2_step_51 : decode cX2_step 51 = .ok (.ifnonnull 13, 3) := by decide +kernel
theorem dX2_step_54 : decode cX2_step 54 = .ok (.new 67, 3) := by decide +kernel
theorem dX2_step_57 : decode cX2_step 57 = .ok (.dup, 1) := by decide +kernel
theorem dX2_step_58 : decode cX2_step 58 = .ok (.ldc 69, 2) := by decide +kernel
theorem dX2_step_60 : decode cX2_step 60 = .ok (.invokespecial 71, 3) := by decide +kernel
theorem dX2_step_63 : decode cX2_step 63 = .ok (.athrow, 1) := by decide +kernel
theorem dX2_step_64 : decode cX2_step 64 = .ok (.aload 8, 2) := by decide +kernel
theorem dX2_step_66 : decode cX2_step 66 = .ok (.lload_n 2, 1) := by decide +kernel
theorem dX2_step_67 : decode cX2_step 67 = .ok (.lload 4, 2) := by decide +kernel
theorem dX2_step_69 : decode cX2_step 69 = .ok (.lload 6, 2) := by decide +kernel
theorem dX2_step_71 : decode cX2_step 71 = .ok (.aload_n 0, 1) := by decide +kernel
theorem dX2_step_72 : decode cX2_step 72 = .ok (.getfield 25, 3) := by decide +kernel
theorem dX2_step_75 : decode cX2_step 75 = .ok (.iconst 5, 1) := by decide +kernel
theorem dX2_step_76 : decode cX2_step 76 = .ok (.laload, 1) := by decide +kernel
theorem dX2_step_77 : decode cX2_step 77 = .ok (.invokevirtual 74, 3) := by decide +kernel
theorem dX2_step_80 : decode cX2_step 80 = .ok (.aload_n 0, 1) := by decide +kernel
theorem dX2_step_81 : decode cX2_step 81 = .ok (.dup, 1) := by decide +kernel
theorem dX2_step_82 : decode cX2_step 82 = .ok (.getfield 78, 3) := by decide +kernel
theorem dX2_step_85 : decode cX2_step 85 = .ok (.iconst 1, 1) := by decide +kernel
theorem dX2_step_86 : decode cX2_step 86 = .ok (.iadd, 1) := by decide +kernel
theorem dX2_step_87 : decode cX2_step 87 = .ok (.putfield 78, 3) := by decide +kernel
theorem dX2_step_90 : decode cX2_step 90 = .ok (.iload_n 1, 1) := by decide +kernel
theorem dX2_step_91 : decode cX2_step 91 = .ok (.ifCond .ne 15, 3) := by decide +kernel
theorem dX2_step_94 : decode cX2_step 94 = .ok (.aload_n 0, 1) := by decide +kernel
theorem dX2_step_95 : decode cX2_step 95 = .ok (.getfield 39, 3) := by decide +kernel
theorem dX2_step_98 : decode cX2_step 98 = .ok (.aload 8, 2) := by decide +kernel
theorem dX2_step_100 : decode cX2_step 100 = .ok (.getfield 82, 3) := by decide +kernel
theorem dX2_step_103 : decode cX2_step 103 = .ok (.invokevirtual 45, 3) := by decide +kernel
theorem dX2_step_106 : decode cX2_step 106 = .ok (.aload_n 0, 1) := by decide +kernel
theorem dX2_step_107 : decode cX2_step 107 = .ok (.aload 8, 2) := by decide +kernel
theorem dX2_step_109 : decode cX2_step 109 = .ok (.lload_n 2, 1) := by decide +kernel
theorem dX2_step_110 : decode cX2_step 110 = .ok (.invokevirtual 86, 3) := by decide +kernel
theorem dX2_step_113 : decode cX2_step 113 = .ok (.istore 9, 2) := by decide +kernel
theorem dX2_step_115 : decode cX2_step 115 = .ok (.aload 8, 2) := by decide +kernel
theorem dX2_step_117 : decode cX2_step 117 = .ok (.iload 9, 2) := by decide +kernel
theorem dX2_step_119 : decode cX2_step 119 = .ok (.ifCond .eq 13, 3) := by decide +kernel
theorem dX2_step_122 : decode cX2_step 122 = .ok (.aload 8, 2) := by decide +kernel
theorem dX2_step_124 : decode cX2_step 124 = .ok (.getfield 90, 3) := by decide +kernel
theorem dX2_step_127 : decode cX2_step 127 = .ok (.iconst 1, 1) := by decide +kernel
theorem dX2_step_128 : decode cX2_step 128 = .ok (.iadd, 1) := by decide +kernel
theorem dX2_step_129 : decode cX2_step 129 = .ok (.goto 4, 3) := by decide +kernel
theorem dX2_step_132 : decode cX2_step 132 = .ok (.iconst 0, 1) := by decide +kernel
theorem dX2_step_133 : decode cX2_step 133 = .ok (.putfield 90, 3) := by decide +kernel
theorem dX2_step_136 : decode cX2_step 136 = .ok (.aload_n 0, 1) := by decide +kernel
theorem dX2_step_137 : decode cX2_step 137 = .ok (.aload 8, 2) := by decide +kernel
theorem dX2_step_139 : decode cX2_step 139 = .ok (.invokevirtual 93, 3) := by decide +kernel
theorem dX2_step_142 : decode cX2_step 142 = .ok (.ifCond .eq 5, 3) := by decide +kernel
theorem dX2_step_145 : decode cX2_step 145 = .ok (.iconst 2, 1) := by decide +kernel
theorem dX2_step_146 : decode cX2_step 146 = .ok (.ireturn, 1) := by decide +kernel
theorem dX2_step_147 : decode cX2_step 147 = .ok (.iload 9, 2) := by decide +kernel
theorem dX2_step_149 : decode cX2_step 149 = .ok (.ifCond .eq 7, 3) := by decide +kernel
theorem dX2_step_152 : decode cX2_step 152 = .ok (.iconst 1, 1) := by decide +kernel
theorem dX2_step_153 : decode cX2_step 153 = .ok (.goto 4, 3) := by decide +kernel
theorem dX2_step_156 : decode cX2_step 156 = .ok (.iconst 0, 1) := by decide +kernel
theorem dX2_step_157 : decode cX2_step 157 = .ok (.ireturn, 1) := by decide +kernel
set_option maxRecDepth 20000 in
theorem ggX2_charge_X2_cellOf : GoodIn wsX2_charge wsX2_cellOf := goodIn_r _ [5, 6, 13, 14, 15, 16, 17, 18, 19, 20] (by decide +kernel) (by decide +kernel)
set_option maxRecDepth 20000 in
theorem gX2_charge_X2_cellOf : GoodIn wsX2_charge (wsV RX2 63 RX2 yX2_cellOf wsX2_cellOf) := goodIn_app (goodIn_of _ (by decide +kernel)) ggX2_charge_X2_cellOf
theorem dX2_charge_0 : decode cX2_charge 0 = .ok (.aload_n 0, 1) := by decide +kernel
theorem dX2_charge_1 : decode cX2_charge 1 = .ok (.iload_n 1, 1) := by decide +kernel
theorem dX2_charge_2 : decode cX2_charge 2 = .ok (.invokevirtual 63, 3) := by decide +kernel
theorem dX2_charge_5 : decode cX2_charge 5 = .ok (.astore_n 2, 1) := by decide +kernel
theorem dX2_charge_6 : decode cX2_charge 6 = .ok (.aload_n 2, 1) := by decide +kernel
theorem dX2_charge_7 : decode cX2_charge 7 = .ok (.ifnonnull 7, 3) := by decide +kernel
theorem dX2_charge_10 : decode cX2_charge 10 = .ok (.lconst 0, 1) := by decide +kernel
theorem dX2_charge_11 : decode cX2_charge 11 = .ok (.goto 7, 3) := by decide +kernel
theorem dX2_charge_14 : decode cX2_charge 14 = .ok (.aload_n 2, 1) := by decide +kernel
theorem dX2_charge_15 : decode cX2_charge 15 = .ok (.getfield 82, 3) := by decide +kernel
theorem dX2_charge_18 : decode cX2_charge 18 = .ok (.lreturn, 1) := by decide +kernel
set_option maxRecDepth 20000 in
theorem ggX2_share_X2_cellOf : GoodIn wsX2_share wsX2_cellOf := goodIn_r _ [5, 6, 13, 14, 15, 16, 17, 18, 19, 20] (by decide +kernel) (by decide +kernel)
set_option maxRecDepth 20000 in
theorem gX2_share_X2_cellOf : GoodIn wsX2_share (wsV RX2 63 RX2 yX2_cellOf wsX2_cellOf) := goodIn_app (goodIn_of _ (by decide +kernel)) ggX2_share_X2_cellOf
theorem dX2_share_0 : decode cX2_share 0 = .ok (.aload_n 0, 1) := by decide +kernel
theorem dX2_share_1 : decode cX2_share 1 = .ok (.iload_n 1, 1) := by decide +kernel
theorem dX2_share_2 : decode cX2_share 2 = .ok (.invokevirtual 63, 3) := by decide +kernel
theorem dX2_share_5 : decode cX2_share 5 = .ok (.astore_n 2, 1) := by decide +kernel
theorem dX2_share_6 : decode cX2_share 6 = .ok (.aload_n 2, 1) := by decide +kernel
theorem dX2_share_7 : decode cX2_share 7 = .ok (.ifnonnull 7, 3) := by decide +kernel
theorem dX2_share_10 : decode cX2_share 10 = .ok (.dconst 0, 1) := by decide +kernel
theorem dX2_share_11 : decode cX2_share 11 = .ok (.goto 7, 3) := by decide +kernel
theorem dX2_share_14 : decode cX2_share 14 = .ok (.aload_n 2, 1) := by decide +kernel
theorem dX2_share_15 : decode cX2_share 15 = .ok (.getfield 97, 3) := by decide +kernel
theorem dX2_share_18 : decode cX2_share 18 = .ok (.dreturn, 1) := by decide +kernel
set_option maxRecDepth 20000 in
theorem ggX2_whole_X2_cellOf : GoodIn wsX2_whole wsX2_cellOf := goodIn_r _ [8, 9, 17, 18, 19, 20, 21, 22, 23, 24] (by decide +kernel) (by decide +kernel)
set_option maxRecDepth 20000 in
theorem gX2_whole_X2_cellOf : GoodIn wsX2_whole (wsV RX2 63 RX2 yX2_cellOf wsX2_cellOf) := goodIn_app (goodIn_of _ (by decide +kernel)) ggX2_whole_X2_cellOf
set_option maxRecDepth 20000 in
theorem ggX2_whole_X2_greatestCommonDivisor : GoodIn wsX2_whole wsX2_greatestCommonDivisor := goodIn_r _ [12, 13, 14, 15, 16] (by decide +kernel) (by decide +kernel)
set_option maxRecDepth 20000 in
theorem gX2_whole_X2_greatestCommonDivisor : GoodIn wsX2_whole (va_wsS RX2 106 yX2_greatestCommonDivisor wsX2_greatestCommonDivisor) := goodIn_app (goodIn_of _ (by decide +kernel)) ggX2_whole_X2_greatestCommonDivisor
theorem dX2_whole_0 : decode cX2_whole 0 = .ok (.aload_n 0, 1) := by decide +kernel
theorem dX2_whole_1 : decode cX2_whole 1 = .ok (.iload_n 1, 1) := by decide +kernel
theorem dX2_whole_2 : decode cX2_whole 2 = .ok (.invokevirtual 63, 3) := by decide +kernel
theorem dX2_whole_5 : decode cX2_whole 5 = .ok (.astore_n 3, 1) := by decide +kernel
theorem dX2_whole_6 : decode cX2_whole 6 = .ok (.aload_n 3, 1) := by decide +kernel
theorem dX2_whole_7 : decode cX2_whole 7 = .ok (.ifnonnull 5, 3) := by decide +kernel
theorem dX2_whole_10 : decode cX2_whole 10 = .ok (.lconst 0, 1) := by decide +kernel
theorem dX2_whole_11 : decode cX2_whole 11 = .ok (.lreturn, 1) := by decide +kernel
theorem dX2_whole_12 : decode cX2_whole 12 = .ok (.aload_n 0, 1) := by decide +kernel
theorem dX2_whole_13 : decode cX2_whole 13 = .ok (.getfield 25, 3) := by decide +kernel
theorem dX2_whole_16 : decode cX2_whole 16 = .ok (.iconst 5, 1) := by decide +kernel
theorem dX2_whole_17 : decode cX2_whole 17 = .ok (.laload, 1) := by decide +kernel
theorem dX2_whole_18 : decode cX2_whole 18 = .ok (.lstore 4, 2) := by decide +kernel
theorem dX2_whole_20 : decode cX2_whole 20 = .ok (.lload 4, 2) := by decide +kernel
theorem dX2_whole_22 : decode cX2_whole 22 = .ok (.lconst 0, 1) := by decide +kernel
theorem dX2_whole_23 : decode cX2_whole 23 = .ok (.lcmp, 1) := by decide +kernel
theorem dX2_whole_24 : decode cX2_whole 24 = .ok (.ifCond .ne 13, 3) := by decide +kernel
theorem dX2_whole_27 : decode cX2_whole 27 = .ok (.new 101, 3) := by decide +kernel
theorem dX2_whole_30 : decode cX2_whole 30 = .ok (.dup, 1) := by decide +kernel
theorem dX2_whole_31 : decode cX2_whole 31 = .ok (.ldc 103, 2) := by decide +kernel
theorem dX2_whole_33 : decode cX2_whole 33 = .ok (.invokespecial 105, 3) := by decide +kernel
theorem dX2_whole_36 : decode cX2_whole 36 = .ok (.athrow, 1) := by decide +kernel
theorem dX2_whole_37 : decode cX2_whole 37 = .ok (.aload_n 3, 1) := by decide +kernel
theorem dX2_whole_38 : decode cX2_whole 38 = .ok (.getfield 82, 3) := by decide +kernel
theorem dX2_whole_41 : decode cX2_whole 41 = .ok (.lload 4, 2) := by decide +kernel
theorem dX2_whole_43 : decode cX2_whole 43 = .ok (.invokestatic 106, 3) := by decide +kernel
theorem dX2_whole_46 : decode cX2_whole 46 = .ok (.lstore 6, 2) := by decide +kernel
theorem dX2_whole_48 : decode cX2_whole 48 = .ok (.lload 6, 2) := by decide +kernel
theorem dX2_whole_50 : decode cX2_whole 50 = .ok (.lconst 0, 1) := by decide +kernel
theorem dX2_whole_51 : decode cX2_whole 51 = .ok (.lcmp, 1) := by decide +kernel
theorem dX2_whole_52 : decode cX2_whole 52 = .ok (.ifCond .ne 5, 3) := by decide +kernel
theorem dX2_whole_55 : decode cX2_whole 55 = .ok (.lconst 0, 1) := by decide +kernel
theorem dX2_whole_56 : decode cX2_whole 56 = .ok (.lreturn, 1) := by decide +kernel
theorem dX2_whole_57 : decode cX2_whole 57 = .ok (.iload_n 2, 1) := by decide +kernel
theorem dX2_whole_58 : decode cX2_whole 58 = .ok (.ifCond .ne 10, 3) := by decide +kernel
theorem dX2_whole_61 : decode cX2_whole 61 = .ok (.aload_n 3, 1) := by decide +kernel
theorem dX2_whole_62 : decode cX2_whole 62 = .ok (.getfield 82, 3) := by decide +kernel
theorem dX2_whole_65 : decode cX2_whole 65 = .ok (.goto 5, 3) := by decide +kernel
theorem dX2_whole_68 : decode cX2_whole 68 = .ok (.lload 4, 2) := by decide +kernel
theorem dX2_whole_70 : decode cX2_whole 70 = .ok (.lload 6, 2) := by decide +kernel
theorem dX2_whole_72 : decode cX2_whole 72 = .ok (.ldiv, 1) := by decide +kernel
theorem dX2_whole_73 : decode cX2_whole 73 = .ok (.lreturn, 1) := by decide +kernel
set_option maxRecDepth 20000 in
theorem ggX2_contactor_X2_closeNextContactor : GoodIn wsX2_contactor wsX2_closeNextContactor := goodIn_r _ [6, 1, 7, 8, 9, 10, 5, 11, 12, 13, 14, 15, 16, 17, 18, 19, 20, 21, 22, 23, 24, 25, 26] (by decide +kernel) (by decide +kernel)
set_option maxRecDepth 20000 in
theorem gX2_contactor_X2_closeNextContactor : GoodIn wsX2_contactor (wsV RX2 113 RX2 yX2_closeNextContactor wsX2_closeNextContactor) := goodIn_app (goodIn_of _ (by decide +kernel)) ggX2_contactor_X2_closeNextContactor
theorem dX2_contactor_0 : decode cX2_contactor 0 = .ok (.iload_n 1, 1) := by decide +kernel
theorem dX2_contactor_1 : decode cX2_contactor 1 = .ok (.ifCond .ne 13, 3) := by decide +kernel
theorem dX2_contactor_4 : decode cX2_contactor 4 = .ok (.aload_n 0, 1) := by decide +kernel
theorem dX2_contactor_5 : decode cX2_contactor 5 = .ok (.iconst 0, 1) := by decide +kernel
theorem dX2_contactor_6 : decode cX2_contactor 6 = .ok (.putfield 110, 3) := by decide +kernel
theorem dX2_contactor_9 : decode cX2_contactor 9 = .ok (.aload_n 0, 1) := by decide +kernel
theorem dX2_contactor_10 : decode cX2_contactor 10 = .ok (.getfield 110, 3) := by decide +kernel
theorem dX2_contactor_13 : decode cX2_contactor 13 = .ok (.ireturn, 1) := by decide +kernel
theorem dX2_contactor_14 : decode cX2_contactor 14 = .ok (.aload_n 0, 1) := by decide +kernel
theorem dX2_contactor_15 : decode cX2_contactor 15 = .ok (.invokevirtual 113, 3) := by decide +kernel
theorem dX2_contactor_18 : decode cX2_contactor 18 = .ok (.ireturn, 1) := by decide +kernel
set_option maxRecDepth 20000 in
theorem ggX2_bleed_X2_cellOf : GoodIn wsX2_bleed wsX2_cellOf := goodIn_r _ [5, 6, 32, 33, 34, 35, 36, 37, 38, 39] (by decide +kernel) (by decide +kernel)
set_option maxRecDepth 20000 in
theorem gX2_bleed_X2_cellOf : GoodIn wsX2_bleed (wsV RX2 63 RX2 yX2_cellOf wsX2_cellOf) := goodIn_app (goodIn_of _ (by decide +kernel)) ggX2_bleed_X2_cellOf
set_option maxRecDepth 20000 in
theorem ggX2_bleed_X2_mayBleed : GoodIn wsX2_bleed wsX2_mayBleed := goodIn_r _ [10, 11, 12, 13, 14, 15, 4, 16, 17, 6, 18, 19, 20, 21, 26, 27, 28, 29, 30, 31, 32, 33, 34, 35, 36, 37, 38, 39] (by decide +kernel) (by decide +kernel)
set_option maxRecDepth 20000 in
theorem gX2_bleed_X2_mayBleed : GoodIn wsX2_bleed (wsV RX2 121 RX2 yX2_mayBleed wsX2_mayBleed) := goodIn_app (goodIn_of _ (by decide +kernel)) ggX2_bleed_X2_mayBleed
set_option maxRecDepth 20000 in
theorem ggX2_bleed_X2_bleedingCells : GoodIn wsX2_bleed wsX2_bleedingCells := goodIn_r _ [25, 6, 32, 33, 34, 35, 36, 37, 38, 39, 26, 27, 28, 29, 30, 31] (by decide +kernel) (by decide +kernel)
set_option maxRecDepth 20000 in
theorem gX2_bleed_X2_bleedingCells : GoodIn wsX2_bleed (wsV RX2 124 RX2 yX2_bleedingCells wsX2_bleedingCells) := goodIn_app (goodIn_of _ (by decide +kernel)) ggX2_bleed_X2_bleedingCells
theorem dX2_bleed_0 : decode cX2_bleed 0 = .ok (.aload_n 0, 1) := by decide +kernel
theorem dX2_bleed_1 : decode cX2_bleed 1 = .ok (.iload_n 1, 1) := by decide +kernel
theorem dX2_bleed_2 : decode cX2_bleed 2 = .ok (.invokevirtual 63, 3) := by decide +kernel
theorem dX2_bleed_5 : decode cX2_bleed 5 = .ok (.astore_n 2, 1) := by decide +kernel
theorem dX2_bleed_6 : decode cX2_bleed 6 = .ok (.aload_n 2, 1) := by decide +kernel
theorem dX2_bleed_7 : decode cX2_bleed 7 = .ok (.ifnonnull 5, 3) := by decide +kernel
theorem dX2_bleed_10 : decode cX2_bleed 10 = .ok (.iconst (-1), 1) := by decide +kernel
theorem dX2_bleed_11 : decode cX2_bleed 11 = .ok (.ireturn, 1) := by decide +kernel
theorem dX2_bleed_12 : decode cX2_bleed 12 = .ok (.aload_n 2, 1) := by decide +kernel
theorem dX2_bleed_13 : decode cX2_bleed 13 = .ok (.getfield 117, 3) := by decide +kernel
theorem dX2_bleed_16 : decode cX2_bleed 16 = .ok (.ifCond .ne 14, 3) := by decide +kernel
theorem dX2_bleed_19 : decode cX2_bleed 19 = .ok (.aload_n 0, 1) := by decide +kernel
theorem dX2_bleed_20 : decode cX2_bleed 20 = .ok (.aload_n 2, 1) := by decide +kernel
theorem dX2_bleed_21 : decode cX2_bleed 21 = .ok (.invokevirtual 121, 3) := by decide +kernel
theorem dX2_bleed_24 : decode cX2_bleed 24 = .ok (.ifCond .ne 6, 3) := by decide +kernel
theorem dX2_bleed_27 : decode cX2_bleed 27 = .ok (.bipush (-3), 2) := by decide +kernel
theorem dX2_bleed_29 : decode cX2_bleed 29 = .ok (.ireturn, 1) := by decide +kernel
theorem dX2_bleed_30 : decode cX2_bleed 30 = .ok (.aload_n 2, 1) := by decide +kernel
theorem dX2_bleed_31 : decode cX2_bleed 31 = .ok (.aload_n 2, 1) := by decide +kernel
theorem dX2_bleed_32 : decode cX2_bleed 32 = .ok (.getfield 117, 3) := by decide +kernel
theorem dX2_bleed_35 : decode cX2_bleed 35 = .ok (.ifCond .ne 7, 3) := by decide +kernel
theorem dX2_bleed_38 : decode cX2_bleed 38 = .ok (.iconst 1, 1) := by decide +kernel
theorem dX2_bleed_39 : decode cX2_bleed 39 = .ok (.goto 4, 3) := by decide +kernel
theorem dX2_bleed_42 : decode cX2_bleed 42 = .ok (.iconst 0, 1) := by decide +kernel
theorem dX2_bleed_43 : decode cX2_bleed 43 = .ok (.putfield 117, 3) := by decide +kernel
theorem dX2_bleed_46 : decode cX2_bleed 46 = .ok (.aload_n 0, 1) := by decide +kernel
theorem dX2_bleed_47 : decode cX2_bleed 47 = .ok (.invokevirtual 124, 3) := by decide +kernel
theorem dX2_bleed_50 : decode cX2_bleed 50 = .ok (.ireturn, 1) := by decide +kernel
set_option maxRecDepth 20000 in
theorem ggX2_limit_X2_isOutside : GoodIn wsX2_limit wsX2_isOutside := goodIn_r _ [7] (by decide +kernel) (by decide +kernel)
set_option maxRecDepth 20000 in
theorem gX2_limit_X2_isOutside : GoodIn wsX2_limit (va_wsS RX2 53 yX2_isOutside wsX2_isOutside) := goodIn_app (goodIn_of _ (by decide +kernel)) ggX2_limit_X2_isOutside
theorem dX2_limit_0 : decode cX2_limit 0 = .ok (.iload_n 1, 1) := by decide +kernel
theorem dX2_limit_1 : decode cX2_limit 1 = .ok (.ifCond .lt 12, 3) := by decide +kernel
theorem dX2_limit_4 : decode cX2_limit 4 = .ok (.iload_n 1, 1) := by decide +kernel
theorem dX2_limit_5 : decode cX2_limit 5 = .ok (.aload_n 0, 1) := by decide +kernel
theorem dX2_limit_6 : decode cX2_limit 6 = .ok (.getfield 25, 3) := by decide +kernel
theorem dX2_limit_9 : decode cX2_limit 9 = .ok (.arraylength, 1) := by decide +kernel
theorem dX2_limit_10 : decode cX2_limit 10 = .ok (.if_icmp .lt 5, 3) := by decide +kernel
theorem dX2_limit_13 : decode cX2_limit 13 = .ok (.iconst (-1), 1) := by decide +kernel
theorem dX2_limit_14 : decode cX2_limit 14 = .ok (.ireturn, 1) := by decide +kernel
theorem dX2_limit_15 : decode cX2_limit 15 = .ok (.iload_n 1, 1) := by decide +kernel
theorem dX2_limit_16 : decode cX2_limit 16 = .ok (.iconst 5, 1) := by decide +kernel
theorem dX2_limit_17 : decode cX2_limit 17 = .ok (.if_icmp .ne 7, 3) := by decide +kernel
theorem dX2_limit_20 : decode cX2_limit 20 = .ok (.lconst 0, 1) := by decide +kernel
theorem dX2_limit_21 : decode cX2_limit 21 = .ok (.goto 6, 3) := by decide +kernel
theorem dX2_limit_24 : decode cX2_limit 24 = .ok (.ldc2_w 59, 3) := by decide +kernel
theorem dX2_limit_27 : decode cX2_limit 27 = .ok (.lstore 4, 2) := by decide +kernel
theorem dX2_limit_29 : decode cX2_limit 29 = .ok (.lload_n 2, 1) := by decide +kernel
theorem dX2_limit_30 : decode cX2_limit 30 = .ok (.lload 4, 2) := by decide +kernel
theorem dX2_limit_32 : decode cX2_limit 32 = .ok (.ldc2_w 127, 3) := by decide +kernel
theorem dX2_limit_35 : decode cX2_limit 35 = .ok (.invokestatic 53, 3) := by decide +kernel
theorem dX2_limit_38 : decode cX2_limit 38 = .ok (.ifCond .eq 6, 3) := by decide +kernel
theorem dX2_limit_41 : decode cX2_limit 41 = .ok (.bipush (-2), 2) := by decide +kernel
theorem dX2_limit_43 : decode cX2_limit 43 = .ok (.ireturn, 1) := by decide +kernel
theorem dX2_limit_44 : decode cX2_limit 44 = .ok (.aload_n 0, 1) := by decide +kernel
theorem dX2_limit_45 : decode cX2_limit 45 = .ok (.getfield 25, 3) := by decide +kernel
theorem dX2_limit_48 : decode cX2_limit 48 = .ok (.iload_n 1, 1) := by decide +kernel
theorem dX2_limit_49 : decode cX2_limit 49 = .ok (.lload_n 2, 1) := by decide +kernel
theorem dX2_limit_50 : decode cX2_limit 50 = .ok (.lastore, 1) := by decide +kernel
theorem dX2_limit_51 : decode cX2_limit 51 = .ok (.iconst 1, 1) := by decide +kernel
theorem dX2_limit_52 : decode cX2_limit 52 = .ok (.ireturn, 1) := by decide +kernel
theorem dX2_weakest_0 : decode cX2_weakest 0 = .ok (.iconst 0, 1) := by decide +kernel
theorem dX2_weakest_1 : decode cX2_weakest 1 = .ok (.istore_n 1, 1) := by decide +kernel
theorem dX2_weakest_2 : decode cX2_weakest 2 = .ok (.ldc2_w 131, 3) := by decide +kernel
theorem dX2_weakest_5 : decode cX2_weakest 5 = .ok (.lstore_n 2, 1) := by decide +kernel
theorem dX2_weakest_6 : decode cX2_weakest 6 = .ok (.iconst 0, 1) := by decide +kernel
theorem dX2_weakest_7 : decode cX2_weakest 7 = .ok (.istore 4, 2) := by decide +kernel
theorem dX2_weakest_9 : decode cX2_weakest 9 = .ok (.iload 4, 2) := by decide +kernel
theorem dX2_weakest_11 : decode cX2_weakest 11 = .ok (.aload_n 0, 1) := by decide +kernel
theorem dX2_weakest_12 : decode cX2_weakest 12 = .ok (.getfield 11, 3) := by decide +kernel
theorem dX2_weakest_15 : decode cX2_weakest 15 = .ok (.arraylength, 1) := by decide +kernel
theorem dX2_weakest_16 : decode cX2_weakest 16 = .ok (.if_icmp .ge 38, 3) := by decide +kernel
theorem dX2_weakest_19 : decode cX2_weakest 19 = .ok (.aload_n 0, 1) := by decide +kernel
theorem dX2_weakest_20 : decode cX2_weakest 20 = .ok (.getfield 11, 3) := by decide +kernel
theorem dX2_weakest_23 : decode cX2_weakest 23 = .ok (.iload 4, 2) := by decide +kernel
theorem dX2_weakest_25 : decode cX2_weakest 25 = .ok (.aaload, 1) := by decide +kernel
theorem dX2_weakest_26 : decode cX2_weakest 26 = .ok (.getfield 82, 3) := by decide +kernel
theorem dX2_weakest_29 : decode cX2_weakest 29 = .ok (.lload_n 2, 1) := by decide +kernel
theorem dX2_weakest_30 : decode cX2_weakest 30 = .ok (.lcmp, 1) := by decide +kernel
theorem dX2_weakest_31 : decode cX2_weakest 31 = .ok (.ifCond .ge 17, 3) := by decide +kernel
theorem dX2_weakest_34 : decode cX2_weakest 34 = .ok (.aload_n 0, 1) := by decide +kernel
theorem dX2_weakest_35 : decode cX2_weakest 35 = .ok (.getfield 11, 3) := by decide +kernel
theorem dX2_weakest_38 : decode cX2_weakest 38 = .ok (.iload 4, 2) := by decide +kernel
theorem dX2_weakest_40 : decode cX2_weakest 40 = .ok (.aaload, 1) := by decide +kernel
theorem dX2_weakest_41 : decode cX2_weakest 41 = .ok (.getfield 82, 3) := by decide +kernel
theorem dX2_weakest_44 : decode cX2_weakest 44 = .ok (.lstore_n 2, 1) := by decide +kernel
theorem dX2_weakest_45 : decode cX2_weakest 45 = .ok (.iload 4, 2) := by decide +kernel
theorem dX2_weakest_47 : decode cX2_weakest 47 = .ok (.istore_n 1, 1) := by decide +kernel
theorem dX2_weakest_48 : decode cX2_weakest 48 = .ok (.iinc 4 1, 3) := by decide +kernel
theorem dX2_weakest_51 : decode cX2_weakest 51 = .ok (.goto (-42), 3) := by decide +kernel
theorem dX2_weakest_54 : decode cX2_weakest 54 = .ok (.iload_n 1, 1) := by decide +kernel
theorem dX2_weakest_55 : decode cX2_weakest 55 = .ok (.ireturn, 1) := by decide +kernel
set_option maxRecDepth 20000 in
theorem ggX2_insulate_X2_noteFault : GoodIn wsX2_insulate wsX2_noteFault := goodIn_r _ [6, 7, 8, 9, 10, 11, 12, 13, 14, 15, 16, 17] (by decide +kernel) (by decide +kernel)
set_option maxRecDepth 20000 in
theorem gX2_insulate_X2_noteFault : GoodIn wsX2_insulate (wsV RX2 135 RX2 yX2_noteFault wsX2_noteFault) := goodIn_app (goodIn_of _ (by decide +kernel)) ggX2_insulate_X2_noteFault
theorem dX2_insulate_0 : decode cX2_insulate 0 = .ok (.lload_n 1, 1) := by decide +kernel
theorem dX2_insulate_1 : decode cX2_insulate 1 = .ok (.lconst 0, 1) := by decide +kernel
theorem dX2_insulate_2 : decode cX2_insulate 2 = .ok (.lcmp, 1) := by decide +kernel
theorem dX2_insulate_3 : decode cX2_insulate 3 = .ok (.ifCond .ge 6, 3) := by decide +kernel
theorem dX2_insulate_6 : decode cX2_insulate 6 = .ok (.bipush (-2), 2) := by decide +kernel
theorem dX2_insulate_8 : decode cX2_insulate 8 = .ok (.ireturn, 1) := by decide +kernel
theorem dX2_insulate_9 : decode cX2_insulate 9 = .ok (.lload_n 1, 1) := by decide +kernel
theorem dX2_insulate_10 : decode cX2_insulate 10 = .ok (.ldc2_w 133, 3) := by decide +kernel
theorem dX2_insulate_13 : decode cX2_insulate 13 = .ok (.lcmp, 1) := by decide +kernel
theorem dX2_insulate_14 : decode cX2_insulate 14 = .ok (.ifCond .ge 10, 3) := by decide +kernel
theorem dX2_insulate_17 : decode cX2_insulate 17 = .ok (.aload_n 0, 1) := by decide +kernel
theorem dX2_insulate_18 : decode cX2_insulate 18 = .ok (.iconst 5, 1) := by decide +kernel
theorem dX2_insulate_19 : decode cX2_insulate 19 = .ok (.invokevirtual 135, 3) := by decide +kernel
theorem dX2_insulate_22 : decode cX2_insulate 22 = .ok (.iconst 0, 1) := by decide +kernel
theorem dX2_insulate_23 : decode cX2_insulate 23 = .ok (.ireturn, 1) := by decide +kernel
theorem dX2_insulate_24 : decode cX2_insulate 24 = .ok (.iconst 1, 1) := by decide +kernel
theorem dX2_insulate_25 : decode cX2_insulate 25 = .ok (.ireturn, 1) := by decide +kernel
theorem dX2_stuck_0 : decode cX2_stuck 0 = .ok (.iload_n 1, 1) := by decide +kernel
theorem dX2_stuck_1 : decode cX2_stuck 1 = .ok (.ifCond .lt 12, 3) := by decide +kernel
theorem dX2_stuck_4 : decode cX2_stuck 4 = .ok (.iload_n 1, 1) := by decide +kernel
theorem dX2_stuck_5 : decode cX2_stuck 5 = .ok (.aload_n 0, 1) := by decide +kernel
theorem dX2_stuck_6 : decode cX2_stuck 6 = .ok (.getfield 28, 3) := by decide +kernel
theorem dX2_stuck_9 : decode cX2_stuck 9 = .ok (.arraylength, 1) := by decide +kernel
theorem dX2_stuck_10 : decode cX2_stuck 10 = .ok (.if_icmp .lt 5, 3) := by decide +kernel
theorem dX2_stuck_13 : decode cX2_stuck 13 = .ok (.iconst (-1), 1) := by decide +kernel
theorem dX2_stuck_14 : decode cX2_stuck 14 = .ok (.ireturn, 1) := by decide +kernel
theorem dX2_stuck_15 : decode cX2_stuck 15 = .ok (.aload_n 0, 1) := by decide +kernel
theorem dX2_stuck_16 : decode cX2_stuck 16 = .ok (.getfield 28, 3) := by decide +kernel
theorem dX2_stuck_19 : decode cX2_stuck 19 = .ok (.iload_n 1, 1) := by decide +kernel
theorem dX2_stuck_20 : decode cX2_stuck 20 = .ok (.aload_n 0, 1) := by decide +kernel
theorem dX2_stuck_21 : decode cX2_stuck 21 = .ok (.getfield 28, 3) := by decide +kernel
theorem dX2_stuck_24 : decode cX2_stuck 24 = .ok (.iload_n 1, 1) := by decide +kernel
theorem dX2_stuck_25 : decode cX2_stuck 25 = .ok (.baload, 1) := by decide +kernel
theorem dX2_stuck_26 : decode cX2_stuck 26 = .ok (.ifCond .ne 7, 3) := by decide +kernel
theorem dX2_stuck_29 : decode cX2_stuck 29 = .ok (.iconst 1, 1) := by decide +kernel
theorem dX2_stuck_30 : decode cX2_stuck 30 = .ok (.goto 4, 3) := by decide +kernel
theorem dX2_stuck_33 : decode cX2_stuck 33 = .ok (.iconst 0, 1) := by decide +kernel
theorem dX2_stuck_34 : decode cX2_stuck 34 = .ok (.bastore, 1) := by decide +kernel
theorem dX2_stuck_35 : decode cX2_stuck 35 = .ok (.aload_n 0, 1) := by decide +kernel
theorem dX2_stuck_36 : decode cX2_stuck 36 = .ok (.getfield 28, 3) := by decide +kernel
theorem dX2_stuck_39 : decode cX2_stuck 39 = .ok (.iload_n 1, 1) := by decide +kernel
theorem dX2_stuck_40 : decode cX2_stuck 40 = .ok (.baload, 1) := by decide +kernel
theorem dX2_stuck_41 : decode cX2_stuck 41 = .ok (.ifCond .eq 7, 3) := by decide +kernel
theorem dX2_stuck_44 : decode cX2_stuck 44 = .ok (.iconst 1, 1) := by decide +kernel
theorem dX2_stuck_45 : decode cX2_stuck 45 = .ok (.goto 4, 3) := by decide +kernel
theorem dX2_stuck_48 : decode cX2_stuck 48 = .ok (.iconst 0, 1) := by decide +kernel
theorem dX2_stuck_49 : decode cX2_stuck 49 = .ok (.ireturn, 1) := by decide +kernel
theorem dX2_cycle_0 : decode cX2_cycle 0 = .ok (.iload_n 1, 1) := by decide +kernel
theorem dX2_cycle_1 : decode cX2_cycle 1 = .ok (.iconst (-1), 1) := by decide +kernel
theorem dX2_cycle_2 : decode cX2_cycle 2 = .ok (.if_icmp .ne 15, 3) := by decide +kernel
theorem dX2_cycle_5 : decode cX2_cycle 5 = .ok (.iload_n 2, 1) := by decide +kernel
theorem dX2_cycle_6 : decode cX2_cycle 6 = .ok (.ifCond .ne 11, 3) := by decide +kernel
theorem dX2_cycle_9 : decode cX2_cycle 9 = .ok (.aload_n 0, 1) := by decide +kernel
theorem dX2_cycle_10 : decode cX2_cycle 10 = .ok (.getfield 39, 3) := by decide +kernel
theorem dX2_cycle_13 : decode cX2_cycle 13 = .ok (.getfield 139, 3) := by decide +kernel
theorem dX2_cycle_16 : decode cX2_cycle 16 = .ok (.ireturn, 1) := by decide +kernel
theorem dX2_cycle_17 : decode cX2_cycle 17 = .ok (.iload_n 1, 1) := by decide +kernel
theorem dX2_cycle_18 : decode cX2_cycle 18 = .ok (.ifCond .lt 14, 3) := by decide +kernel
theorem dX2_cycle_21 : decode cX2_cycle 21 = .ok (.iload_n 1, 1) := by decide +kernel
theorem dX2_cycle_22 : decode cX2_cycle 22 = .ok (.aload_n 0, 1) := by decide +kernel
theorem dX2_cycle_23 : decode cX2_cycle 23 = .ok (.getfield 39, 3) := by decide +kernel
theorem dX2_cycle_26 : decode cX2_cycle 26 = .ok (.getfield 139, 3) := by decide +kernel
theorem dX2_cycle_29 : decode cX2_cycle 29 = .ok (.if_icmp .lt 5, 3) := by decide +kernel
theorem dX2_cycle_32 : decode cX2_cycle 32 = .ok (.iconst (-1), 1) := by decide +kernel
theorem dX2_cycle_33 : decode cX2_cycle 33 = .ok (.ireturn, 1) := by decide +kernel
theorem dX2_cycle_34 : decode cX2_cycle 34 = .ok (.iload_n 2, 1) := by decide +kernel
theorem dX2_cycle_35 : decode cX2_cycle 35 = .ok (.ifCond .ne 14, 3) := by decide +kernel
theorem dX2_cycle_38 : decode cX2_cycle 38 = .ok (.aload_n 0, 1) := by decide +kernel
theorem dX2_cycle_39 : decode cX2_cycle 39 = .ok (.getfield 39, 3) := by decide +kernel
theorem dX2_cycle_42 : decode cX2_cycle 42 = .ok (.getfield 142, 3) := by decide +kernel
theorem dX2_cycle_45 : decode cX2_cycle 45 = .ok (.iload_n 1, 1) := by decide +kernel
theorem dX2_cycle_46 : decode cX2_cycle 46 = .ok (.laload, 1) := by decide +kernel
theorem dX2_cycle_47 : decode cX2_cycle 47 = .ok (.l2i, 1) := by decide +kernel
theorem dX2_cycle_48 : decode cX2_cycle 48 = .ok (.ireturn, 1) := by decide +kernel
theorem dX2_cycle_49 : decode cX2_cycle 49 = .ok (.iload_n 2, 1) := by decide +kernel
theorem dX2_cycle_50 : decode cX2_cycle 50 = .ok (.iconst 1, 1) := by decide +kernel
theorem dX2_cycle_51 : decode cX2_cycle 51 = .ok (.if_icmp .ne 16, 3) := by decide +kernel
theorem dX2_cycle_54 : decode cX2_cycle 54 = .ok (.aload_n 0, 1) := by decide +kernel
theorem dX2_cycle_55 : decode cX2_cycle 55 = .ok (.getfield 39, 3) := by decide +kernel
theorem dX2_cycle_58 : decode cX2_cycle 58 = .ok (.getfield 145, 3) := by decide +kernel
theorem dX2_cycle_61 : decode cX2_cycle 61 = .ok (.iload_n 1, 1) := by decide +kernel
theorem dX2_cycle_62 : decode cX2_cycle 62 = .ok (.laload, 1) := by decide +kernel
theorem dX2_cycle_63 : decode cX2_cycle 63 = .ok (.l2i, 1) := by decide +kernel
theorem dX2_cycle_64 : decode cX2_cycle 64 = .ok (.goto 5, 3) := by decide +kernel
theorem dX2_cycle_67 : decode cX2_cycle 67 = .ok (.bipush (-2), 2) := by decide +kernel
theorem dX2_cycle_69 : decode cX2_cycle 69 = .ok (.ireturn, 1) := by decide +kernel
set_option maxRecDepth 20000 in
theorem ggX2_cool_X2_greatestWarmth : GoodIn wsX2_cool wsX2_greatestWarmth := goodIn_r _ [8, 9, 10, 11, 12, 13, 14, 15, 16, 17, 18, 19, 20, 21, 22, 23, 24, 25, 26, 27, 28] (by decide +kernel) (by decide +kernel)
set_option maxRecDepth 20000 in
theorem gX2_cool_X2_greatestWarmth : GoodIn wsX2_cool (wsV RX2 148 RX2 yX2_greatestWarmth wsX2_greatestWarmth) := goodIn_app (goodIn_of _ (by decide +kernel)) ggX2_cool_X2_greatestWarmth
theorem dX2_cool_0 : decode cX2_cool 0 = .ok (.aload_n 0, 1) := by decide +kernel
theorem dX2_cool_1 : decode cX2_cool 1 = .ok (.invokevirtual 148, 3) := by decide +kernel
theorem dX2_cool_4 : decode cX2_cool 4 = .ok (.lstore_n 1, 1) := by decide +kernel
theorem dX2_cool_5 : decode cX2_cool 5 = .ok (.lload_n 1, 1) := by decide +kernel
theorem dX2_cool_6 : decode cX2_cool 6 = .ok (.ldc2_w 152, 3) := by decide +kernel
theorem dX2_cool_9 : decode cX2_cool 9 = .ok (.lcmp, 1) := by decide +kernel
theorem dX2_cool_10 : decode cX2_cool 10 = .ok (.ifCond .le 5, 3) := by decide +kernel
theorem dX2_cool_13 : decode cX2_cool 13 = .ok (.iconst 3, 1) := by decide +kernel
theorem dX2_cool_14 : decode cX2_cool 14 = .ok (.ireturn, 1) := by decide +kernel
theorem dX2_cool_15 : decode cX2_cool 15 = .ok (.lload_n 1, 1) := by decide +kernel
theorem dX2_cool_16 : decode cX2_cool 16 = .ok (.ldc2_w 154, 3) := by decide +kernel
theorem dX2_cool_19 : decode cX2_cool 19 = .ok (.lcmp, 1) := by decide +kernel
theorem dX2_cool_20 : decode cX2_cool 20 = .ok (.ifCond .le 5, 3) := by decide +kernel
theorem dX2_cool_23 : decode cX2_cool 23 = .ok (.iconst 2, 1) := by decide +kernel
theorem dX2_cool_24 : decode cX2_cool 24 = .ok (.ireturn, 1) := by decide +kernel
theorem dX2_cool_25 : decode cX2_cool 25 = .ok (.lload_n 1, 1) := by decide +kernel
theorem dX2_cool_26 : decode cX2_cool 26 = .ok (.ldc2_w 156, 3) := by decide +kernel
theorem dX2_cool_29 : decode cX2_cool 29 = .ok (.lcmp, 1) := by decide +kernel
theorem dX2_cool_30 : decode cX2_cool 30 = .ok (.ifCond .le 7, 3) := by decide +kernel
theorem dX2_cool_33 : decode cX2_cool 33 = .ok (.iconst 1, 1) := by decide +kernel
theorem dX2_cool_34 : decode cX2_cool 34 = .ok (.goto 4, 3) := by decide +kernel
theorem dX2_cool_37 : decode cX2_cool 37 = .ok (.iconst 0, 1) := by decide +kernel
theorem dX2_cool_38 : decode cX2_cool 38 = .ok (.ireturn, 1) := by decide +kernel
theorem dX2_fault_0 : decode cX2_fault 0 = .ok (.iload_n 1, 1) := by decide +kernel
theorem dX2_fault_1 : decode cX2_fault 1 = .ok (.ifCond .lt 11, 3) := by decide +kernel
theorem dX2_fault_4 : decode cX2_fault 4 = .ok (.iload_n 1, 1) := by decide +kernel
theorem dX2_fault_5 : decode cX2_fault 5 = .ok (.aload_n 0, 1) := by decide +kernel
theorem dX2_fault_6 : decode cX2_fault 6 = .ok (.getfield 158, 3) := by decide +kernel
theorem dX2_fault_9 : decode cX2_fault 9 = .ok (.if_icmp .lt 7, 3) := by decide +kernel
theorem dX2_fault_12 : decode cX2_fault 12 = .ok (.iconst 0, 1) := by decide +kernel
theorem dX2_fault_13 : decode cX2_fault 13 = .ok (.goto 9, 3) := by decide +kernel
theorem dX2_fault_16 : decode cX2_fault 16 = .ok (.aload_n 0, 1) := by decide +kernel
theorem dX2_fault_17 : decode cX2_fault 17 = .ok (.getfield 32, 3) := by decide +kernel
theorem dX2_fault_20 : decode cX2_fault 20 = .ok (.iload_n 1, 1) := by decide +kernel
theorem dX2_fault_21 : decode cX2_fault 21 = .ok (.iaload, 1) := by decide +kernel
theorem dX2_fault_22 : decode cX2_fault 22 = .ok (.ireturn, 1) := by decide +kernel
theorem dX2_isOutside_0 : decode cX2_isOutside 0 = .ok (.lload_n 0, 1) := by decide +kernel
theorem dX2_isOutside_1 : decode cX2_isOutside 1 = .ok (.lload_n 2, 1) := by decide +kernel
theorem dX2_isOutside_2 : decode cX2_isOutside 2 = .ok (.lcmp, 1) := by decide +kernel
theorem dX2_isOutside_3 : decode cX2_isOutside 3 = .ok (.ifCond .lt 10, 3) := by decide +kernel
theorem dX2_isOutside_6 : decode cX2_isOutside 6 = .ok (.lload_n 0, 1) := by decide +kernel
theorem dX2_isOutside_7 : decode cX2_isOutside 7 = .ok (.lload 4, 2) := by decide +kernel
theorem dX2_isOutside_9 : decode cX2_isOutside 9 = .ok (.lcmp, 1) := by decide +kernel
theorem dX2_isOutside_10 : decode cX2_isOutside 10 = .ok (.ifCond .le 7, 3) := by decide +kernel
theorem dX2_isOutside_13 : decode cX2_isOutside 13 = .ok (.iconst 1, 1) := by decide +kernel
theorem dX2_isOutside_14 : decode cX2_isOutside 14 = .ok (.goto 4, 3) := by decide +kernel
theorem dX2_isOutside_17 : decode cX2_isOutside 17 = .ok (.iconst 0, 1) := by decide +kernel
theorem dX2_isOutside_18 : decode cX2_isOutside 18 = .ok (.ireturn, 1) := by decide +kernel
theorem dX2_cellOf_0 : decode cX2_cellOf 0 = .ok (.iload_n 1, 1) := by decide +kernel
theorem dX2_cellOf_1 : decode cX2_cellOf 1 = .ok (.ifCond .lt 12, 3) := by decide +kernel
theorem dX2_cellOf_4 : decode cX2_cellOf 4 = .ok (.iload_n 1, 1) := by decide +kernel
theorem dX2_cellOf_5 : decode cX2_cellOf 5 = .ok (.aload_n 0, 1) := by decide +kernel
theorem dX2_cellOf_6 : decode cX2_cellOf 6 = .ok (.getfield 11, 3) := by decide +kernel
theorem dX2_cellOf_9 : decode cX2_cellOf 9 = .ok (.arraylength, 1) := by decide +kernel
theorem dX2_cellOf_10 : decode cX2_cellOf 10 = .ok (.if_icmp .lt 7, 3) := by decide +kernel
theorem dX2_cellOf_13 : decode cX2_cellOf 13 = .ok (.aconst_null, 1) := by decide +kernel
theorem dX2_cellOf_14 : decode cX2_cellOf 14 = .ok (.goto 9, 3) := by decide +kernel
theorem dX2_cellOf_17 : decode cX2_cellOf 17 = .ok (.aload_n 0, 1) := by decide +kernel
theorem dX2_cellOf_18 : decode cX2_cellOf 18 = .ok (.getfield 11, 3) := by decide +kernel
theorem dX2_cellOf_21 : decode cX2_cellOf 21 = .ok (.iload_n 1, 1) := by decide +kernel
theorem dX2_cellOf_22 : decode cX2_cellOf 22 = .ok (.aaload, 1) := by decide +kernel
theorem dX2_cellOf_23 : decode cX2_cellOf 23 = .ok (.areturn, 1) := by decide +kernel
set_option maxRecDepth 20000 in
theorem ggX2_isBeyond_X2_isOutside : GoodIn wsX2_isBeyond wsX2_isOutside := goodIn_r _ [9] (by decide +kernel) (by decide +kernel)
set_option maxRecDepth 20000 in
theorem gX2_isBeyond_X2_isOutside : GoodIn wsX2_isBeyond (va_wsS RX2 53 yX2_isOutside wsX2_isOutside) := goodIn_app (goodIn_of _ (by decide +kernel)) ggX2_isBeyond_X2_isOutside
theorem dX2_isBeyond_0 : decode cX2_isBeyond 0 = .ok (.aload_n 1, 1) := by decide +kernel
theorem dX2_isBeyond_1 : decode cX2_isBeyond 1 = .ok (.getfield 161, 3) := by decide +kernel
theorem dX2_isBeyond_4 : decode cX2_isBeyond 4 = .ok (.aload_n 0, 1) := by decide +kernel
theorem dX2_isBeyond_5 : decode cX2_isBeyond 5 = .ok (.getfield 25, 3) := by decide +kernel
theorem dX2_isBeyond_8 : decode cX2_isBeyond 8 = .ok (.iconst 0, 1) := by decide +kernel
theorem dX2_isBeyond_9 : decode cX2_isBeyond 9 = .ok (.laload, 1) := by decide +kernel
theorem dX2_isBeyond_10 : decode cX2_isBeyond 10 = .ok (.aload_n 0, 1) := by decide +kernel
theorem dX2_isBeyond_11 : decode cX2_isBeyond 11 = .ok (.getfield 25, 3) := by decide +kernel
theorem dX2_isBeyond_14 : decode cX2_isBeyond 14 = .ok (.iconst 1, 1) := by decide +kernel
theorem dX2_isBeyond_15 : decode cX2_isBeyond 15 = .ok (.laload, 1) := by decide +kernel
theorem dX2_isBeyond_16 : decode cX2_isBeyond 16 = .ok (.invokestatic 53, 3) := by decide +kernel
theorem dX2_isBeyond_19 : decode cX2_isBeyond 19 = .ok (.ifCond .ne 31, 3) := by decide +kernel
theorem dX2_isBeyond_22 : decode cX2_isBeyond 22 = .ok (.aload_n 1, 1) := by decide +kernel
theorem dX2_isBeyond_23 : decode cX2_isBeyond 23 = .ok (.getfield 164, 3) := by decide +kernel
theorem dX2_isBeyond_26 : decode cX2_isBeyond 26 = .ok (.aload_n 0, 1) := by decide +kernel
theorem dX2_isBeyond_27 : decode cX2_isBeyond 27 = .ok (.getfield 25, 3) := by decide +kernel
theorem dX2_isBeyond_30 : decode cX2_isBeyond 30 = .ok (.iconst 2, 1) := by decide +kernel
theorem dX2_isBeyond_31 : decode cX2_isBeyond 31 = .ok (.laload, 1) := by decide +kernel
theorem dX2_isBeyond_32 : decode cX2_isBeyond 32 = .ok (.lcmp, 1) := by decide +kernel
theorem dX2_isBeyond_33 : decode cX2_isBeyond 33 = .ok (.ifCond .gt 17, 3) := by decide +kernel
theorem dX2_isBeyond_36 : decode cX2_isBeyond 36 = .ok (.lload_n 2, 1) := by decide +kernel
theorem dX2_isBeyond_37 : decode cX2_isBeyond 37 = .ok (.invokestatic 167, 3) := by decide +kernel
theorem dX2_isBeyond_40 : decode cX2_isBeyond 40 = .ok (.aload_n 0, 1) := by decide +kernel
theorem dX2_isBeyond_41 : decode cX2_isBeyond 41 = .ok (.getfield 25, 3) := by decide +kernel
theorem dX2_isBeyond_44 : decode cX2_isBeyond 44 = .ok (.iconst 3, 1) := by decide +kernel
theorem dX2_isBeyond_45 : decode cX2_isBeyond 45 = .ok (.laload, 1) := by decide +kernel
theorem dX2_isBeyond_46 : decode cX2_isBeyond 46 = .ok (.lcmp, 1) := by decide +kernel
theorem dX2_isBeyond_47 : decode cX2_isBeyond 47 = .ok (.ifCond .le 7, 3) := by decide +kernel
theorem dX2_isBeyond_50 : decode cX2_isBeyond 50 = .ok (.iconst 1, 1) := by decide +kernel
theorem dX2_isBeyond_51 : decode cX2_isBeyond 51 = .ok (.goto 4, 3) := by decide +kernel
theorem dX2_isBeyond_54 : decode cX2_isBeyond 54 = .ok (.iconst 0, 1) := by decide +kernel
theorem dX2_isBeyond_55 : decode cX2_isBeyond 55 = .ok (.ireturn, 1) := by decide +kernel
set_option maxRecDepth 20000 in
theorem ggX2_noteFaultsOfStep_X2_isOutside : GoodIn wsX2_noteFaultsOfStep wsX2_isOutside := goodIn_r _ [5] (by decide +kernel) (by decide +kernel)
set_option maxRecDepth 20000 in
theorem gX2_noteFaultsOfStep_X2_isOutside : GoodIn wsX2_noteFaultsOfStep (va_wsS RX2 53 yX2_isOutside wsX2_isOutside) := goodIn_app (goodIn_of _ (by decide +kernel)) ggX2_noteFaultsOfStep_X2_isOutside
set_option maxRecDepth 20000 in
theorem ggX2_noteFaultsOfStep_X2_noteFault : GoodIn wsX2_noteFaultsOfStep wsX2_noteFault := goodIn_r _ [9, 10, 11, 12, 19, 20, 21, 22, 23, 24, 25, 26] (by decide +kernel) (by decide +kernel)
set_option maxRecDepth 20000 in
theorem gX2_noteFaultsOfStep_X2_noteFault : GoodIn wsX2_noteFaultsOfStep (wsV RX2 135 RX2 yX2_noteFault wsX2_noteFault) := goodIn_app (goodIn_of _ (by decide +kernel)) ggX2_noteFaultsOfStep_X2_noteFault
theorem dX2_noteFaultsOfStep_0 : decode cX2_noteFaultsOfStep 0 = .ok (.aload_n 1, 1) := by decide +kernel
theorem dX2_noteFaultsOfStep_1 : decode cX2_noteFaultsOfStep 1 = .ok (.getfield 90, 3) := by decide +kernel
theorem dX2_noteFaultsOfStep_4 : decode cX2_noteFaultsOfStep 4 = .ok (.ifCond .le 16, 3) := by decide +kernel
theorem dX2_noteFaultsOfStep_7 : decode cX2_noteFaultsOfStep 7 = .ok (.aload_n 1, 1) := by decide +kernel
theorem dX2_noteFaultsOfStep_8 : decode cX2_noteFaultsOfStep 8 = .ok (.getfield 90, 3) := by decide +kernel
theorem dX2_noteFaultsOfStep_11 : decode cX2_noteFaultsOfStep 11 = .ok (.iconst 2, 1) := by decide +kernel
theorem dX2_noteFaultsOfStep_12 : decode cX2_noteFaultsOfStep 12 = .ok (.irem, 1) := by decide +kernel
theorem dX2_noteFaultsOfStep_13 : decode cX2_noteFaultsOfStep 13 = .ok (.ifCond .ne 7, 3) := by decide +kernel
theorem dX2_noteFaultsOfStep_16 : decode cX2_noteFaultsOfStep 16 = .ok (.iconst 1, 1) := by decide +kernel
theorem dX2_noteFaultsOfStep_17 : decode cX2_noteFaultsOfStep 17 = .ok (.goto 4, 3) := by decide +kernel
theorem dX2_noteFaultsOfStep_20 : decode cX2_noteFaultsOfStep 20 = .ok (.iconst 0, 1) := by decide +kernel
theorem dX2_noteFaultsOfStep_21 : decode cX2_noteFaultsOfStep 21 = .ok (.istore_n 2, 1) := by decide +kernel
theorem dX2_noteFaultsOfStep_22 : decode cX2_noteFaultsOfStep 22 = .ok (.aload_n 1, 1) := by decide +kernel
theorem dX2_noteFaultsOfStep_23 : decode cX2_noteFaultsOfStep 23 = .ok (.getfield 82, 3) := by decide +kernel
theorem dX2_noteFaultsOfStep_26 : decode cX2_noteFaultsOfStep 26 = .ok (.lconst 0, 1) := by decide +kernel
theorem dX2_noteFaultsOfStep_27 : decode cX2_noteFaultsOfStep 27 = .ok (.aload_n 0, 1) := by decide +kernel
theorem dX2_noteFaultsOfStep_28 : decode cX2_noteFaultsOfStep 28 = .ok (.getfield 25, 3) := by decide +kernel
theorem dX2_noteFaultsOfStep_31 : decode cX2_noteFaultsOfStep 31 = .ok (.iconst 5, 1) := by decide +kernel
theorem dX2_noteFaultsOfStep_32 : decode cX2_noteFaultsOfStep 32 = .ok (.laload, 1) := by decide +kernel
theorem dX2_noteFaultsOfStep_33 : decode cX2_noteFaultsOfStep 33 = .ok (.invokestatic 53, 3) := by decide +kernel
theorem dX2_noteFaultsOfStep_36 : decode cX2_noteFaultsOfStep 36 = .ok (.istore_n 3, 1) := by decide +kernel
theorem dX2_noteFaultsOfStep_37 : decode cX2_noteFaultsOfStep 37 = .ok (.iload_n 2, 1) := by decide +kernel
theorem dX2_noteFaultsOfStep_38 : decode cX2_noteFaultsOfStep 38 = .ok (.ifCond .eq 8, 3) := by decide +kernel
theorem dX2_noteFaultsOfStep_41 : decode cX2_noteFaultsOfStep 41 = .ok (.aload_n 0, 1) := by decide +kernel
theorem dX2_noteFaultsOfStep_42 : decode cX2_noteFaultsOfStep 42 = .ok (.iconst 1, 1) := by decide +kernel
theorem dX2_noteFaultsOfStep_43 : decode cX2_noteFaultsOfStep 43 = .ok (.invokevirtual 135, 3) := by decide +kernel
theorem dX2_noteFaultsOfStep_46 : decode cX2_noteFaultsOfStep 46 = .ok (.iload_n 3, 1) := by decide +kernel
theorem dX2_noteFaultsOfStep_47 : decode cX2_noteFaultsOfStep 47 = .ok (.ifCond .eq 8, 3) := by decide +kernel
theorem dX2_noteFaultsOfStep_50 : decode cX2_noteFaultsOfStep 50 = .ok (.aload_n 0, 1) := by decide +kernel
theorem dX2_noteFaultsOfStep_51 : decode cX2_noteFaultsOfStep 51 = .ok (.iconst 2, 1) := by decide +kernel
theorem dX2_noteFaultsOfStep_52 : decode cX2_noteFaultsOfStep 52 = .ok (.invokevirtual 135, 3) := by decide +kernel
theorem dX2_noteFaultsOfStep_55 : decode cX2_noteFaultsOfStep 55 = .ok (.iload_n 2, 1) := by decide +kernel
theorem dX2_noteFaultsOfStep_56 : decode cX2_noteFaultsOfStep 56 = .ok (.ifCond .ne 7, 3) := by decide +kernel
theorem dX2_noteFaultsOfStep_59 : decode cX2_noteFaultsOfStep 59 = .ok (.iload_n 3, 1) := by decide +kernel
theorem dX2_noteFaultsOfStep_60 : decode cX2_noteFaultsOfStep 60 = .ok (.ifCond .eq 7, 3) := by decide +kernel
theorem dX2_noteFaultsOfStep_63 : decode cX2_noteFaultsOfStep 63 = .ok (.iconst 1, 1) := by decide +kernel
theorem dX2_noteFaultsOfStep_64 : decode cX2_noteFaultsOfStep 64 = .ok (.goto 4, 3) := by decide +kernel
theorem dX2_noteFaultsOfStep_67 : decode cX2_noteFaultsOfStep 67 = .ok (.iconst 0, 1) := by decide +kernel
theorem dX2_noteFaultsOfStep_68 : decode cX2_noteFaultsOfStep 68 = .ok (.ireturn, 1) := by decide +kernel
theorem dX2_noteFault_0 : decode cX2_noteFault 0 = .ok (.aload_n 0, 1) := by decide +kernel
theorem dX2_noteFault_1 : decode cX2_noteFault 1 = .ok (.iconst 0, 1) := by decide +kernel
theorem dX2_noteFault_2 : decode cX2_noteFault 2 = .ok (.putfield 110, 3) := by decide +kernel
theorem dX2_noteFault_5 : decode cX2_noteFault 5 = .ok (.aload_n 0, 1) := by decide +kernel
theorem dX2_noteFault_6 : decode cX2_noteFault 6 = .ok (.getfield 158, 3) := by decide +kernel
theorem dX2_noteFault_9 : decode cX2_noteFault 9 = .ok (.aload_n 0, 1) := by decide +kernel
theorem dX2_noteFault_10 : decode cX2_noteFault 10 = .ok (.getfield 32, 3) := by decide +kernel
theorem dX2_noteFault_13 : decode cX2_noteFault 13 = .ok (.arraylength, 1) := by decide +kernel
theorem dX2_noteFault_14 : decode cX2_noteFault 14 = .ok (.if_icmp .ge 23, 3) := by decide +kernel
theorem dX2_noteFault_17 : decode cX2_noteFault 17 = .ok (.aload_n 0, 1) := by decide +kernel
theorem dX2_noteFault_18 : decode cX2_noteFault 18 = .ok (.getfield 32, 3) := by decide +kernel
theorem dX2_noteFault_21 : decode cX2_noteFault 21 = .ok (.aload_n 0, 1) := by decide +kernel
theorem dX2_noteFault_22 : decode cX2_noteFault 22 = .ok (.getfield 158, 3) := by decide +kernel
theorem dX2_noteFault_25 : decode cX2_noteFault 25 = .ok (.iload_n 1, 1) := by decide +kernel
theorem dX2_noteFault_26 : decode cX2_noteFault 26 = .ok (.iastore, 1) := by decide +kernel
theorem dX2_noteFault_27 : decode cX2_noteFault 27 = .ok (.aload_n 0, 1) := by decide +kernel
theorem dX2_noteFault_28 : decode cX2_noteFault 28 = .ok (.dup, 1) := by decide +kernel
theorem dX2_noteFault_29 : decode cX2_noteFault 29 = .ok (.getfield 158, 3) := by decide +kernel
theorem dX2_noteFault_32 : decode cX2_noteFault 32 = .ok (.iconst 1, 1) := by decide +kernel
theorem dX2_noteFault_33 : decode cX2_noteFault 33 = .ok (.iadd, 1) := by decide +kernel
theorem dX2_noteFault_34 : decode cX2_noteFault 34 = .ok (.putfield 158, 3) := by decide +kernel
theorem dX2_noteFault_37 : decode cX2_noteFault 37 = .ok (.return_, 1) := by decide +kernel
set_option maxRecDepth 20000 in
theorem ggX2_closeNextContactor_X2_noteFault : GoodIn wsX2_closeNextContactor wsX2_noteFault := goodIn_r _ [7, 1, 8, 9, 15, 16, 17, 18, 19, 20, 21, 22] (by decide +kernel) (by decide +kernel)
set_option maxRecDepth 20000 in
theorem gX2_closeNextContactor_X2_noteFault : GoodIn wsX2_closeNextContactor (wsV RX2 135 RX2 yX2_noteFault wsX2_noteFault) := goodIn_app (goodIn_of _ (by decide +kernel)) ggX2_closeNextContactor_X2_noteFault
set_option maxRecDepth 20000 in
theorem ggX2_closeNextContactor_X2_isStuck : GoodIn wsX2_closeNextContactor wsX2_isStuck := goodIn_r _ [13, 14, 15, 16, 17, 18, 19, 20, 21, 22] (by decide +kernel) (by decide +kernel)
set_option maxRecDepth 20000 in
theorem gX2_closeNextContactor_X2_isStuck : GoodIn wsX2_closeNextContactor (wsV RX2 173 RX2 yX2_isStuck wsX2_isStuck) := goodIn_app (goodIn_of _ (by decide +kernel)) ggX2_closeNextContactor_X2_isStuck
theorem dX2_closeNextContactor_0 : decode cX2_closeNextContactor 0 = .ok (.aload_n 0, 1) := by decide +kernel
theorem dX2_closeNextContactor_1 : decode cX2_closeNextContactor 1 = .ok (.getfield 110, 3) := by decide +kernel
theorem dX2_closeNextContactor_4 : decode cX2_closeNextContactor 4 = .ok (.iconst 3, 1) := by decide +kernel
theorem dX2_closeNextContactor_5 : decode cX2_closeNextContactor 5 = .ok (.if_icmp .eq 19, 3) := by decide +kernel
theorem dX2_closeNextContactor_8 : decode cX2_closeNextContactor 8 = .ok (.aload_n 0, 1) := by decide +kernel
theorem dX2_closeNextContactor_9 : decode cX2_closeNextContactor 9 = .ok (.getfield 110, 3) := by decide +kernel
theorem dX2_closeNextContactor_12 : decode cX2_closeNextContactor 12 = .ok (.iconst 2, 1) := by decide +kernel
theorem dX2_closeNextContactor_13 : decode cX2_closeNextContactor 13 = .ok (.if_icmp .ne 14, 3) := by decide +kernel
theorem dX2_closeNextContactor_16 : decode cX2_closeNextContactor 16 = .ok (.aload_n 0, 1) := by decide +kernel
theorem dX2_closeNextContactor_17 : decode cX2_closeNextContactor 17 = .ok (.getfield 78, 3) := by decide +kernel
theorem dX2_closeNextContactor_20 : decode cX2_closeNextContactor 20 = .ok (.iconst 3, 1) := by decide +kernel
theorem dX2_closeNextContactor_21 : decode cX2_closeNextContactor 21 = .ok (.if_icmp .ge 6, 3) := by decide +kernel
theorem dX2_closeNextContactor_24 : decode cX2_closeNextContactor 24 = .ok (.bipush (-3), 2) := by decide +kernel
theorem dX2_closeNextContactor_26 : decode cX2_closeNextContactor 26 = .ok (.ireturn, 1) := by decide +kernel
theorem dX2_closeNextContactor_27 : decode cX2_closeNextContactor 27 = .ok (.aload_n 0, 1) := by decide +kernel
theorem dX2_closeNextContactor_28 : decode cX2_closeNextContactor 28 = .ok (.getfield 110, 3) := by decide +kernel
theorem dX2_closeNextContactor_31 : decode cX2_closeNextContactor 31 = .ok (.iconst 2, 1) := by decide +kernel
theorem dX2_closeNextContactor_32 : decode cX2_closeNextContactor 32 = .ok (.if_icmp .ne 20, 3) := by decide +kernel
theorem dX2_closeNextContactor_35 : decode cX2_closeNextContactor 35 = .ok (.aload_n 0, 1) := by decide +kernel
theorem dX2_closeNextContactor_36 : decode cX2_closeNextContactor 36 = .ok (.getfield 78, 3) := by decide +kernel
theorem dX2_closeNextContactor_39 : decode cX2_closeNextContactor 39 = .ok (.bipush 20, 2) := by decide +kernel
theorem dX2_closeNextContactor_41 : decode cX2_closeNextContactor 41 = .ok (.if_icmp .lt 11, 3) := by decide +kernel
theorem dX2_closeNextContactor_44 : decode cX2_closeNextContactor 44 = .ok (.aload_n 0, 1) := by decide +kernel
theorem dX2_closeNextContactor_45 : decode cX2_closeNextContactor 45 = .ok (.iconst 3, 1) := by decide +kernel
theorem dX2_closeNextContactor_46 : decode cX2_closeNextContactor 46 = .ok (.invokevirtual 135, 3) := by decide +kernel
theorem dX2_closeNextContactor_49 : decode cX2_closeNextContactor 49 = .ok (.goto 37, 3) := by decide +kernel
theorem dX2_closeNextContactor_52 : decode cX2_closeNextContactor 52 = .ok (.aload_n 0, 1) := by decide +kernel
theorem dX2_closeNextContactor_53 : decode cX2_closeNextContactor 53 = .ok (.aload_n 0, 1) := by decide +kernel
theorem dX2_closeNextContactor_54 : decode cX2_closeNextContactor 54 = .ok (.getfield 110, 3) := by decide +kernel
theorem dX2_closeNextContactor_57 : decode cX2_closeNextContactor 57 = .ok (.invokevirtual 173, 3) := by decide +kernel
theorem dX2_closeNextContactor_60 : decode cX2_closeNextContactor 60 = .ok (.ifCond .eq 11, 3) := by decide +kernel
theorem dX2_closeNextContactor_63 : decode cX2_closeNextContactor 63 = .ok (.aload_n 0, 1) := by decide +kernel
theorem dX2_closeNextContactor_64 : decode cX2_closeNextContactor 64 = .ok (.iconst 4, 1) := by decide +kernel
theorem dX2_closeNextContactor_65 : decode cX2_closeNextContactor 65 = .ok (.invokevirtual 135, 3) := by decide +kernel
theorem dX2_closeNextContactor_68 : decode cX2_closeNextContactor 68 = .ok (.goto 18, 3) := by decide +kernel
theorem dX2_closeNextContactor_71 : decode cX2_closeNextContactor 71 = .ok (.aload_n 0, 1) := by decide +kernel
theorem dX2_closeNextContactor_72 : decode cX2_closeNextContactor 72 = .ok (.dup, 1) := by decide +kernel
theorem dX2_closeNextContactor_73 : decode cX2_closeNextContactor 73 = .ok (.getfield 110, 3) := by decide +kernel
theorem dX2_closeNextContactor_76 : decode cX2_closeNextContactor 76 = .ok (.iconst 1, 1) := by decide +kernel
theorem dX2_closeNextContactor_77 : decode cX2_closeNextContactor 77 = .ok (.iadd, 1) := by decide +kernel
theorem dX2_closeNextContactor_78 : decode cX2_closeNextContactor 78 = .ok (.putfield 110, 3) := by decide +kernel
theorem dX2_closeNextContactor_81 : decode cX2_closeNextContactor 81 = .ok (.aload_n 0, 1) := by decide +kernel
theorem dX2_closeNextContactor_82 : decode cX2_closeNextContactor 82 = .ok (.iconst 0, 1) := by decide +kernel
theorem dX2_closeNextContactor_83 : decode cX2_closeNextContactor 83 = .ok (.putfield 78, 3) := by decide +kernel
theorem dX2_closeNextContactor_86 : decode cX2_closeNextContactor 86 = .ok (.aload_n 0, 1) := by decide +kernel
theorem dX2_closeNextContactor_87 : decode cX2_closeNextContactor 87 = .ok (.getfield 110, 3) := by decide +kernel
theorem dX2_closeNextContactor_90 : decode cX2_closeNextContactor 90 = .ok (.ireturn, 1) := by decide +kernel
theorem dX2_isStuck_0 : decode cX2_isStuck 0 = .ok (.iload_n 1, 1) := by decide +kernel
theorem dX2_isStuck_1 : decode cX2_isStuck 1 = .ok (.ifCond .lt 25, 3) := by decide +kernel
theorem dX2_isStuck_4 : decode cX2_isStuck 4 = .ok (.iload_n 1, 1) := by decide +kernel
theorem dX2_isStuck_5 : decode cX2_isStuck 5 = .ok (.aload_n 0, 1) := by decide +kernel
theorem dX2_isStuck_6 : decode cX2_isStuck 6 = .ok (.getfield 28, 3) := by decide +kernel
theorem dX2_isStuck_9 : decode cX2_isStuck 9 = .ok (.arraylength, 1) := by decide +kernel
theorem dX2_isStuck_10 : decode cX2_isStuck 10 = .ok (.if_icmp .ge 16, 3) := by decide +kernel
theorem dX2_isStuck_13 : decode cX2_isStuck 13 = .ok (.aload_n 0, 1) := by decide +kernel
theorem dX2_isStuck_14 : decode cX2_isStuck 14 = .ok (.getfield 28, 3) := by decide +kernel
theorem dX2_isStuck_17 : decode cX2_isStuck 17 = .ok (.iload_n 1, 1) := by decide +kernel
theorem dX2_isStuck_18 : decode cX2_isStuck 18 = .ok (.baload, 1) := by decide +kernel
theorem dX2_isStuck_19 : decode cX2_isStuck 19 = .ok (.ifCond .eq 7, 3) := by decide +kernel
theorem dX2_isStuck_22 : decode cX2_isStuck 22 = .ok (.iconst 1, 1) := by decide +kernel
theorem dX2_isStuck_23 : decode cX2_isStuck 23 = .ok (.goto 4, 3) := by decide +kernel
theorem dX2_isStuck_26 : decode cX2_isStuck 26 = .ok (.iconst 0, 1) := by decide +kernel
theorem dX2_isStuck_27 : decode cX2_isStuck 27 = .ok (.ireturn, 1) := by decide +kernel
set_option maxRecDepth 20000 in
theorem ggX2_mayBleed_X2_leastVoltage : GoodIn wsX2_mayBleed wsX2_leastVoltage := goodIn_r _ [7, 8, 9, 10, 11, 12, 13, 20, 21, 22, 23, 24, 25, 26, 27, 14, 15, 16, 17, 18, 19] (by decide +kernel) (by decide +kernel)
set_option maxRecDepth 20000 in
theorem gX2_mayBleed_X2_leastVoltage : GoodIn wsX2_mayBleed (wsV RX2 177 RX2 yX2_leastVoltage wsX2_leastVoltage) := goodIn_app (goodIn_of _ (by decide +kernel)) ggX2_mayBleed_X2_leastVoltage
theorem dX2_mayBleed_0 : decode cX2_mayBleed 0 = .ok (.aload_n 1, 1) := by decide +kernel
theorem dX2_mayBleed_1 : decode cX2_mayBleed 1 = .ok (.getfield 82, 3) := by decide +kernel
theorem dX2_mayBleed_4 : decode cX2_mayBleed 4 = .ok (.aload_n 0, 1) := by decide +kernel
theorem dX2_mayBleed_5 : decode cX2_mayBleed 5 = .ok (.getfield 25, 3) := by decide +kernel
theorem dX2_mayBleed_8 : decode cX2_mayBleed 8 = .ok (.iconst 4, 1) := by decide +kernel
theorem dX2_mayBleed_9 : decode cX2_mayBleed 9 = .ok (.laload, 1) := by decide +kernel
theorem dX2_mayBleed_10 : decode cX2_mayBleed 10 = .ok (.lcmp, 1) := by decide +kernel
theorem dX2_mayBleed_11 : decode cX2_mayBleed 11 = .ok (.ifCond .lt 23, 3) := by decide +kernel
theorem dX2_mayBleed_14 : decode cX2_mayBleed 14 = .ok (.aload_n 1, 1) := by decide +kernel
theorem dX2_mayBleed_15 : decode cX2_mayBleed 15 = .ok (.getfield 161, 3) := by decide +kernel
theorem dX2_mayBleed_18 : decode cX2_mayBleed 18 = .ok (.aload_n 0, 1) := by decide +kernel
theorem dX2_mayBleed_19 : decode cX2_mayBleed 19 = .ok (.invokevirtual 177, 3) := by decide +kernel
theorem dX2_mayBleed_22 : decode cX2_mayBleed 22 = .ok (.ldc2_w 180, 3) := by decide +kernel
theorem dX2_mayBleed_25 : decode cX2_mayBleed 25 = .ok (.ladd, 1) := by decide +kernel
theorem dX2_mayBleed_26 : decode cX2_mayBleed 26 = .ok (.lcmp, 1) := by decide +kernel
theorem dX2_mayBleed_27 : decode cX2_mayBleed 27 = .ok (.ifCond .lt 7, 3) := by decide +kernel
theorem dX2_mayBleed_30 : decode cX2_mayBleed 30 = .ok (.iconst 1, 1) := by decide +kernel
theorem dX2_mayBleed_31 : decode cX2_mayBleed 31 = .ok (.goto 4, 3) := by decide +kernel
theorem dX2_mayBleed_34 : decode cX2_mayBleed 34 = .ok (.iconst 0, 1) := by decide +kernel
theorem dX2_mayBleed_35 : decode cX2_mayBleed 35 = .ok (.ireturn, 1) := by decide +kernel
theorem dX2_leastVoltage_0 : decode cX2_leastVoltage 0 = .ok (.ldc2_w 131, 3) := by decide +kernel
theorem dX2_leastVoltage_3 : decode cX2_leastVoltage 3 = .ok (.lstore_n 1, 1) := by decide +kernel
theorem dX2_leastVoltage_4 : decode cX2_leastVoltage 4 = .ok (.aload_n 0, 1) := by decide +kernel
theorem dX2_leastVoltage_5 : decode cX2_leastVoltage 5 = .ok (.getfield 11, 3) := by decide +kernel
theorem dX2_leastVoltage_8 : decode cX2_leastVoltage 8 = .ok (.astore_n 3, 1) := by decide +kernel
theorem dX2_leastVoltage_9 : decode cX2_leastVoltage 9 = .ok (.aload_n 3, 1) := by decide +kernel
theorem dX2_leastVoltage_10 : decode cX2_leastVoltage 10 = .ok (.arraylength, 1) := by decide +kernel
theorem dX2_leastVoltage_11 : decode cX2_leastVoltage 11 = .ok (.istore 4, 2) := by decide +kernel
theorem dX2_leastVoltage_13 : decode cX2_leastVoltage 13 = .ok (.iconst 0, 1) := by decide +kernel
theorem dX2_leastVoltage_14 : decode cX2_leastVoltage 14 = .ok (.istore 5, 2) := by decide +kernel
theorem dX2_leastVoltage_16 : decode cX2_leastVoltage 16 = .ok (.iload 5, 2) := by decide +kernel
theorem dX2_leastVoltage_18 : decode cX2_leastVoltage 18 = .ok (.iload 4, 2) := by decide +kernel
theorem dX2_leastVoltage_20 : decode cX2_leastVoltage 20 = .ok (.if_icmp .ge 25, 3) := by decide +kernel
theorem dX2_leastVoltage_23 : decode cX2_leastVoltage 23 = .ok (.aload_n 3, 1) := by decide +kernel
theorem dX2_leastVoltage_24 : decode cX2_leastVoltage 24 = .ok (.iload 5, 2) := by decide +kernel
theorem dX2_leastVoltage_26 : decode cX2_leastVoltage 26 = .ok (.aaload, 1) := by decide +kernel
theorem dX2_leastVoltage_27 : decode cX2_leastVoltage 27 = .ok (.astore 6, 2) := by decide +kernel
theorem dX2_leastVoltage_29 : decode cX2_leastVoltage 29 = .ok (.lload_n 1, 1) := by decide +kernel
theorem dX2_leastVoltage_30 : decode cX2_leastVoltage 30 = .ok (.aload 6, 2) := by decide +kernel
theorem dX2_leastVoltage_32 : decode cX2_leastVoltage 32 = .ok (.getfield 161, 3) := by decide +kernel
theorem dX2_leastVoltage_35 : decode cX2_leastVoltage 35 = .ok (.invokestatic 182, 3) := by decide +kernel
theorem dX2_leastVoltage_38 : decode cX2_leastVoltage 38 = .ok (.lstore_n 1, 1) := by decide +kernel
theorem dX2_leastVoltage_39 : decode cX2_leastVoltage 39 = .ok (.iinc 5 1, 3) := by decide +kernel
theorem dX2_leastVoltage_42 : decode cX2_leastVoltage 42 = .ok (.goto (-26), 3) := by decide +kernel
theorem dX2_leastVoltage_45 : decode cX2_leastVoltage 45 = .ok (.lload_n 1, 1) := by decide +kernel
theorem dX2_leastVoltage_46 : decode cX2_leastVoltage 46 = .ok (.lreturn, 1) := by decide +kernel
theorem dX2_greatestWarmth_0 : decode cX2_greatestWarmth 0 = .ok (.ldc2_w 185, 3) := by decide +kernel
theorem dX2_greatestWarmth_3 : decode cX2_greatestWarmth 3 = .ok (.lstore_n 1, 1) := by decide +kernel
theorem dX2_greatestWarmth_4 : decode cX2_greatestWarmth 4 = .ok (.aload_n 0, 1) := by decide +kernel
theorem dX2_greatestWarmth_5 : decode cX2_greatestWarmth 5 = .ok (.getfield 11, 3) := by decide +kernel
theorem dX2_greatestWarmth_8 : decode cX2_greatestWarmth 8 = .ok (.astore_n 3, 1) := by decide +kernel
theorem dX2_greatestWarmth_9 : decode cX2_greatestWarmth 9 = .ok (.aload_n 3, 1) := by decide +kernel
theorem dX2_greatestWarmth_10 : decode cX2_greatestWarmth 10 = .ok (.arraylength, 1) := by decide +kernel
theorem dX2_greatestWarmth_11 : decode cX2_greatestWarmth 11 = .ok (.istore 4, 2) := by decide +kernel
theorem dX2_greatestWarmth_13 : decode cX2_greatestWarmth 13 = .ok (.iconst 0, 1) := by decide +kernel
theorem dX2_greatestWarmth_14 : decode cX2_greatestWarmth 14 = .ok (.istore 5, 2) := by decide +kernel
theorem dX2_greatestWarmth_16 : decode cX2_greatestWarmth 16 = .ok (.iload 5, 2) := by decide +kernel
theorem dX2_greatestWarmth_18 : decode cX2_greatestWarmth 18 = .ok (.iload 4, 2) := by decide +kernel
theorem dX2_greatestWarmth_20 : decode cX2_greatestWarmth 20 = .ok (.if_icmp .ge 25, 3) := by decide +kernel
theorem dX2_greatestWarmth_23 : decode cX2_greatestWarmth 23 = .ok (.aload_n 3, 1) := by decide +kernel
theorem dX2_greatestWarmth_24 : decode cX2_greatestWarmth 24 = .ok (.iload 5, 2) := by decide +kernel
theorem dX2_greatestWarmth_26 : decode cX2_greatestWarmth 26 = .ok (.aaload, 1) := by decide +kernel
theorem dX2_greatestWarmth_27 : decode cX2_greatestWarmth 27 = .ok (.astore 6, 2) := by decide +kernel
theorem dX2_greatestWarmth_29 : decode cX2_greatestWarmth 29 = .ok (.lload_n 1, 1) := by decide +kernel
theorem dX2_greatestWarmth_30 : decode cX2_greatestWarmth 30 = .ok (.aload 6, 2) := by decide +kernel
theorem dX2_greatestWarmth_32 : decode cX2_greatestWarmth 32 = .ok (.getfield 164, 3) := by decide +kernel
theorem dX2_greatestWarmth_35 : decode cX2_greatestWarmth 35 = .ok (.invokestatic 187, 3) := by decide +kernel
theorem dX2_greatestWarmth_38 : decode cX2_greatestWarmth 38 = .ok (.lstore_n 1, 1) := by decide +kernel
theorem dX2_greatestWarmth_39 : decode cX2_greatestWarmth 39 = .ok (.iinc 5 1, 3) := by decide +kernel
theorem dX2_greatestWarmth_42 : decode cX2_greatestWarmth 42 = .ok (.goto (-26), 3) := by decide +kernel
theorem dX2_greatestWarmth_45 : decode cX2_greatestWarmth 45 = .ok (.lload_n 1, 1) := by decide +kernel
theorem dX2_greatestWarmth_46 : decode cX2_greatestWarmth 46 = .ok (.lreturn, 1) := by decide +kernel
theorem dX2_bleedingCells_0 : decode cX2_bleedingCells 0 = .ok (.iconst 0, 1) := by decide +kernel
theorem dX2_bleedingCells_1 : decode cX2_bleedingCells 1 = .ok (.istore_n 1, 1) := by decide +kernel
theorem dX2_bleedingCells_2 : decode cX2_bleedingCells 2 = .ok (.aload_n 0, 1) := by decide +kernel
theorem dX2_bleedingCells_3 : decode cX2_bleedingCells 3 = .ok (.getfield 11, 3) := by decide +kernel
theorem dX2_bleedingCells_6 : decode cX2_bleedingCells 6 = .ok (.astore_n 2, 1) := by decide +kernel
theorem dX2_bleedingCells_7 : decode cX2_bleedingCells 7 = .ok (.aload_n 2, 1) := by decide +kernel
theorem dX2_bleedingCells_8 : decode cX2_bleedingCells 8 = .ok (.arraylength, 1) := by decide +kernel
theorem dX2_bleedingCells_9 : decode cX2_bleedingCells 9 = .ok (.istore_n 3, 1) := by decide +kernel
theorem dX2_bleedingCells_10 : decode cX2_bleedingCells 10 = .ok (.iconst 0, 1) := by decide +kernel
theorem dX2_bleedingCells_11 : decode cX2_bleedingCells 11 = .ok (.istore 4, 2) := by decide +kernel
theorem dX2_bleedingCells_13 : decode cX2_bleedingCells 13 = .ok (.iload 4, 2) := by decide +kernel
theorem dX2_bleedingCells_15 : decode cX2_bleedingCells 15 = .ok (.iload_n 3, 1) := by decide +kernel
theorem dX2_bleedingCells_16 : decode cX2_bleedingCells 16 = .ok (.if_icmp .ge 26, 3) := by decide +kernel
theorem dX2_bleedingCells_19 : decode cX2_bleedingCells 19 = .ok (.aload_n 2, 1) := by decide +kernel
theorem dX2_bleedingCells_20 : decode cX2_bleedingCells 20 = .ok (.iload 4, 2) := by decide +kernel
theorem dX2_bleedingCells_22 : decode cX2_bleedingCells 22 = .ok (.aaload, 1) := by decide +kernel
theorem dX2_bleedingCells_23 : decode cX2_bleedingCells 23 = .ok (.astore 5, 2) := by decide +kernel
theorem dX2_bleedingCells_25 : decode cX2_bleedingCells 25 = .ok (.aload 5, 2) := by decide +kernel
theorem dX2_bleedingCells_27 : decode cX2_bleedingCells 27 = .ok (.getfield 117, 3) := by decide +kernel
theorem dX2_bleedingCells_30 : decode cX2_bleedingCells 30 = .ok (.ifCond .eq 6, 3) := by decide +kernel
theorem dX2_bleedingCells_33 : decode cX2_bleedingCells 33 = .ok (.iinc 1 1, 3) := by decide +kernel
theorem dX2_bleedingCells_36 : decode cX2_bleedingCells 36 = .ok (.iinc 4 1, 3) := by decide +kernel
theorem dX2_bleedingCells_39 : decode cX2_bleedingCells 39 = .ok (.goto (-26), 3) := by decide +kernel
theorem dX2_bleedingCells_42 : decode cX2_bleedingCells 42 = .ok (.iload_n 1, 1) := by decide +kernel
theorem dX2_bleedingCells_43 : decode cX2_bleedingCells 43 = .ok (.ireturn, 1) := by decide +kernel
theorem dX2_greatestCommonDivisor_0 : decode cX2_greatestCommonDivisor 0 = .ok (.lload_n 0, 1) := by decide +kernel
theorem dX2_greatestCommonDivisor_1 : decode cX2_greatestCommonDivisor 1 = .ok (.lstore 4, 2) := by decide +kernel
theorem dX2_greatestCommonDivisor_3 : decode cX2_greatestCommonDivisor 3 = .ok (.lload_n 2, 1) := by decide +kernel
theorem dX2_greatestCommonDivisor_4 : decode cX2_greatestCommonDivisor 4 = .ok (.lstore 6, 2) := by decide +kernel
theorem dX2_greatestCommonDivisor_6 : decode cX2_greatestCommonDivisor 6 = .ok (.iconst 0, 1) := by decide +kernel
theorem dX2_greatestCommonDivisor_7 : decode cX2_greatestCommonDivisor 7 = .ok (.istore 8, 2) := by decide +kernel
theorem dX2_greatestCommonDivisor_9 : decode cX2_greatestCommonDivisor 9 = .ok (.iload 8, 2) := by decide +kernel
theorem dX2_greatestCommonDivisor_11 : decode cX2_greatestCommonDivisor 11 = .ok (.sipush 1000, 3) := by decide +kernel
theorem dX2_greatestCommonDivisor_14 : decode cX2_greatestCommonDivisor 14 = .ok (.if_icmp .ge 31, 3) := by decide +kernel
theorem dX2_greatestCommonDivisor_17 : decode cX2_greatestCommonDivisor 17 = .ok (.lload 6, 2) := by decide +kernel
theorem dX2_greatestCommonDivisor_19 : decode cX2_greatestCommonDivisor 19 = .ok (.lconst 0, 1) := by decide +kernel
theorem dX2_greatestCommonDivisor_20 : decode cX2_greatestCommonDivisor 20 = .ok (.lcmp, 1) := by decide +kernel
theorem dX2_greatestCommonDivisor_21 : decode cX2_greatestCommonDivisor 21 = .ok (.ifCond .eq 24, 3) := by decide +kernel
theorem dX2_greatestCommonDivisor_24 : decode cX2_greatestCommonDivisor 24 = .ok (.lload 4, 2) := by decide +kernel
theorem dX2_greatestCommonDivisor_26 : decode cX2_greatestCommonDivisor 26 = .ok (.lload 6, 2) := by decide +kernel
theorem dX2_greatestCommonDivisor_28 : decode cX2_greatestCommonDivisor 28 = .ok (.lrem, 1) := by decide +kernel
theorem dX2_greatestCommonDivisor_29 : decode cX2_greatestCommonDivisor 29 = .ok (.lstore 9, 2) := by decide +kernel
theorem dX2_greatestCommonDivisor_31 : decode cX2_greatestCommonDivisor 31 = .ok (.lload 6, 2) := by decide +kernel
theorem dX2_greatestCommonDivisor_33 : decode cX2_greatestCommonDivisor 33 = .ok (.lstore 4, 2) := by decide +kernel
theorem dX2_greatestCommonDivisor_35 : decode cX2_greatestCommonDivisor 35 = .ok (.lload 9, 2) := by decide +kernel
theorem dX2_greatestCommonDivisor_37 : decode cX2_greatestCommonDivisor 37 = .ok (.lstore 6, 2) := by decide +kernel
theorem dX2_greatestCommonDivisor_39 : decode cX2_greatestCommonDivisor 39 = .ok (.iinc 8 1, 3) := by decide +kernel
theorem dX2_greatestCommonDivisor_42 : decode cX2_greatestCommonDivisor 42 = .ok (.goto (-33), 3) := by decide +kernel
theorem dX2_greatestCommonDivisor_45 : decode cX2_greatestCommonDivisor 45 = .ok (.lload 4, 2) := by decide +kernel
theorem dX2_greatestCommonDivisor_47 : decode cX2_greatestCommonDivisor 47 = .ok (.invokestatic 167, 3) := by decide +kernel
theorem dX2_greatestCommonDivisor_50 : decode cX2_greatestCommonDivisor 50 = .ok (.lreturn, 1) := by decide +kernel
theorem dJx00060_init_a7421_0 : decode cJx00060_init_a7421 0 = .ok (.aload_n 0, 1) := by decide +kernel
theorem dJx00060_init_a7421_1 : decode cJx00060_init_a7421 1 = .ok (.aload_n 1, 1) := by decide +kernel
theorem dJx00060_init_a7421_2 : decode cJx00060_init_a7421 2 = .ok (.invokespecial 7, 3) := by decide +kernel
theorem dJx00060_init_a7421_5 : decode cJx00060_init_a7421 5 = .ok (.return_, 1) := by decide +kernel
theorem dJ9_abs_067f4_0 : decode cJ9_abs_067f4 0 = .ok (.lload_n 0, 1) := by decide +kernel
theorem dJ9_abs_067f4_1 : decode cJ9_abs_067f4 1 = .ok (.lconst 0, 1) := by decide +kernel
theorem dJ9_abs_067f4_2 : decode cJ9_abs_067f4 2 = .ok (.lcmp, 1) := by decide +kernel
theorem dJ9_abs_067f4_3 : decode cJ9_abs_067f4 3 = .ok (.ifCond .ge 8, 3) := by decide +kernel
theorem dJ9_abs_067f4_6 : decode cJ9_abs_067f4 6 = .ok (.lload_n 0, 1) := by decide +kernel
theorem dJ9_abs_067f4_7 : decode cJ9_abs_067f4 7 = .ok (.lneg, 1) := by decide +kernel
theorem dJ9_abs_067f4_8 : decode cJ9_abs_067f4 8 = .ok (.goto 4, 3) := by decide +kernel
theorem dJ9_abs_067f4_11 : decode cJ9_abs_067f4 11 = .ok (.lload_n 0, 1) := by decide +kernel
theorem dJ9_abs_067f4_12 : decode cJ9_abs_067f4 12 = .ok (.lreturn, 1) := by decide +kernel
theorem dJ9_max_f86c9_0 : decode cJ9_max_f86c9 0 = .ok (.lload_n 0, 1) := by decide +kernel
theorem dJ9_max_f86c9_1 : decode cJ9_max_f86c9 1 = .ok (.lload_n 2, 1) := by decide +kernel
theorem dJ9_max_f86c9_2 : decode cJ9_max_f86c9 2 = .ok (.lcmp, 1) := by decide +kernel
theorem dJ9_max_f86c9_3 : decode cJ9_max_f86c9 3 = .ok (.ifCond .lt 7, 3) := by decide +kernel
theorem dJ9_max_f86c9_6 : decode cJ9_max_f86c9 6 = .ok (.lload_n 0, 1) := by decide +kernel
theorem dJ9_max_f86c9_7 : decode cJ9_max_f86c9 7 = .ok (.goto 4, 3) := by decide +kernel
theorem dJ9_max_f86c9_10 : decode cJ9_max_f86c9 10 = .ok (.lload_n 2, 1) := by decide +kernel
theorem dJ9_max_f86c9_11 : decode cJ9_max_f86c9 11 = .ok (.lreturn, 1) := by decide +kernel
theorem dJ9_min_f86c9_0 : decode cJ9_min_f86c9 0 = .ok (.lload_n 0, 1) := by decide +kernel
theorem dJ9_min_f86c9_1 : decode cJ9_min_f86c9 1 = .ok (.lload_n 2, 1) := by decide +kernel
theorem dJ9_min_f86c9_2 : decode cJ9_min_f86c9 2 = .ok (.lcmp, 1) := by decide +kernel
theorem dJ9_min_f86c9_3 : decode cJ9_min_f86c9 3 = .ok (.ifCond .gt 7, 3) := by decide +kernel
theorem dJ9_min_f86c9_6 : decode cJ9_min_f86c9 6 = .ok (.lload_n 0, 1) := by decide +kernel
theorem dJ9_min_f86c9_7 : decode cJ9_min_f86c9 7 = .ok (.goto 4, 3) := by decide +kernel
theorem dJ9_min_f86c9_10 : decode cJ9_min_f86c9 10 = .ok (.lload_n 2, 1) := by decide +kernel
theorem dJ9_min_f86c9_11 : decode cJ9_min_f86c9 11 = .ok (.lreturn, 1) := by decide +kernel
end
section
theorem dX3_init_0 : decode cX3_init 0 = .ok (.aload_n 0, 1) := by decide +kernel
theorem dX3_init_1 : decode cX3_init 1 = .ok (.invokespecial 1, 3) := by decide +kernel
theorem dX3_init_4 : decode cX3_init 4 = .ok (.aload_n 0, 1) := by decide +kernel
theorem dX3_init_5 : decode cX3_init 5 = .ok (.bipush 24, 2) := by decide +kernel
theorem dX3_init_7 : decode cX3_init 7 = .ok (.newarray .long, 2) := by decide +kernel
theorem dX3_init_9 : decode cX3_init 9 = .ok (.putfield 7, 3) := by decide +kernel
theorem dX3_init_12 : decode cX3_init 12 = .ok (.aload_n 0, 1) := by decide +kernel
theorem dX3_init_13 : decode cX3_init 13 = .ok (.bipush 24, 2) := by decide +kernel
theorem dX3_init_15 : decode cX3_init 15 = .ok (.newarray .double, 2) := by decide +kernel
theorem dX3_init_17 : decode cX3_init 17 = .ok (.putfield 13, 3) := by decide +kernel
theorem dX3_init_20 : decode cX3_init 20 = .ok (.aload_n 0, 1) := by decide +kernel
theorem dX3_init_21 : decode cX3_init 21 = .ok (.bipush 24, 2) := by decide +kernel
theorem dX3_init_23 : decode cX3_init 23 = .ok (.newarray .long, 2) := by decide +kernel
theorem dX3_init_25 : decode cX3_init 25 = .ok (.putfield 17, 3) := by decide +kernel
theorem dX3_init_28 : decode cX3_init 28 = .ok (.aload_n 0, 1) := by decide +kernel
theorem dX3_init_29 : decode cX3_init 29 = .ok (.bipush 24, 2) := by decide +kernel
theorem dX3_init_31 : decode cX3_init 31 = .ok (.newarray .long, 2) := by decide +kernel
theorem dX3_init_33 : decode cX3_init 33 = .ok (.putfield 20, 3) := by decide +kernel
theorem dX3_init_36 : decode cX3_init 36 = .ok (.aload_n 0, 1) := by decide +kernel
theorem dX3_init_37 : decode cX3_init 37 = .ok (.bipush 24, 2) := by decide +kernel
theorem dX3_init_39 : decode cX3_init 39 = .ok (.newarray .int, 2) := by decide +kernel
theorem dX3_init_41 : decode cX3_init 41 = .ok (.putfield 23, 3) := by decide +kernel
theorem dX3_init_44 : decode cX3_init 44 = .ok (.aload_n 0, 1) := by decide +kernel
theorem dX3_init_45 : decode cX3_init 45 = .ok (.bipush 24, 2) := by decide +kernel
theorem dX3_init_47 : decode cX3_init 47 = .ok (.newarray .boolean, 2) := by decide +kernel
theorem dX3_init_49 : decode cX3_init 49 = .ok (.putfield 27, 3) := by decide +kernel
theorem dX3_init_52 : decode cX3_init 52 = .ok (.aload_n 0, 1) := by decide +kernel
theorem dX3_init_53 : decode cX3_init 53 = .ok (.bipush 6, 2) := by decide +kernel
theorem dX3_init_55 : decode cX3_init 55 = .ok (.newarray .long, 2) := by decide +kernel
theorem dX3_init_57 : decode cX3_init 57 = .ok (.dup, 1) := by decide +kernel
theorem dX3_init_58 : decode cX3_init 58 = .ok (.iconst 0, 1) := by decide +kernel
theorem dX3_init_59 : decode cX3_init 59 = .ok (.ldc2_w 31, 3) := by decide +kernel
theorem dX3_init_62 : decode cX3_init 62 = .ok (.lastore, 1) := by decide +kernel
theorem dX3_init_63 : decode cX3_init 63 = .ok (.dup, 1) := by decide +kernel
theorem dX3_init_64 : decode cX3_init 64 = .ok (.iconst 1, 1) := by decide +kernel
theorem dX3_init_65 : decode cX3_init 65 = .ok (.ldc2_w 33, 3) := by decide +kernel
theorem dX3_init_68 : decode cX3_init 68 = .ok (.lastore, 1) := by decide +kernel
theorem dX3_init_69 : decode cX3_init 69 = .ok (.dup, 1) := by decide +kernel
theorem dX3_init_70 : decode cX3_init 70 = .ok (.iconst 2, 1) := by decide +kernel
theorem dX3_init_71 : decode cX3_init 71 = .ok (.ldc2_w 35, 3) := by decide +kernel
theorem dX3_init_74 : decode cX3_init 74 = .ok (.lastore, 1) := by decide +kernel
theorem dX3_init_75 : decode cX3_init 75 = .ok (.dup, 1) := by decide +kernel
theorem dX3_init_76 : decode cX3_init 76 = .ok (.iconst 3, 1) := by decide +kernel
theorem dX3_init_77 : decode cX3_init 77 = .ok (.ldc2_w 37, 3) := by decide +kernel
theorem dX3_init_80 : decode cX3_init 80 = .ok (.lastore, 1) := by decide +kernel
theorem dX3_init_81 : decode cX3_init 81 = .ok (.dup, 1) := by decide +kernel
theorem dX3_init_82 : decode cX3_init 82 = .ok (.iconst 4, 1) := by decide +kernel
theorem dX3_init_83 : decode cX3_init 83 = .ok (.ldc2_w 39, 3) := by decide +kernel
theorem dX3_init_86 : decode cX3_init 86 = .ok (.lastore, 1) := by decide +kernel
theorem dX3_init_87 : decode cX3_init 87 = .ok (.dup, 1) := by decide +kernel
theorem dX3_init_88 : decode cX3_init 88 = .ok (.iconst 5, 1) := by decide +kernel
theorem dX3_init_89 : decode cX3_init 89 = .ok (.ldc2_w 41, 3) := by decide +kernel
theorem dX3_init_92 : decode cX3_init 92 = .ok (.lastore, 1) := by decide +kernel
theorem dX3_init_93 : decode cX3_init 93 = .ok (.putfield 43, 3) := by decide +kernel
theorem dX3_init_96 : decode cX3_init 96 = .ok (.aload_n 0, 1) := by decide +kernel
theorem dX3_init_97 : decode cX3_init 97 = .ok (.iconst 3, 1) := by decide +kernel
theorem dX3_init_98 : decode cX3_init 98 = .ok (.newarray .boolean, 2) := by decide +kernel
theorem dX3_init_100 : decode cX3_init 100 = .ok (.putfield 46, 3) := by decide +kernel
theorem dX3_init_103 : decode cX3_init 103 = .ok (.aload_n 0, 1) := by decide +kernel
theorem dX3_init_104 : decode cX3_init 104 = .ok (.sipush 2048, 3) := by decide +kernel
theorem dX3_init_107 : decode cX3_init 107 = .ok (.newarray .int, 2) := by decide +kernel
theorem dX3_init_109 : decode cX3_init 109 = .ok (.putfield 49, 3) := by decide +kernel
theorem dX3_init_112 : decode cX3_init 112 = .ok (.aload_n 0, 1) := by decide +kernel
theorem dX3_init_113 : decode cX3_init 113 = .ok (.sipush 502, 3) := by decide +kernel
theorem dX3_init_116 : decode cX3_init 116 = .ok (.newarray .long, 2) := by decide +kernel
theorem dX3_init_118 : decode cX3_init 118 = .ok (.putfield 52, 3) := by decide +kernel
theorem dX3_init_121 : decode cX3_init 121 = .ok (.aload_n 0, 1) := by decide +kernel
theorem dX3_init_122 : decode cX3_init 122 = .ok (.sipush 1024, 3) := by decide +kernel
theorem dX3_init_125 : decode cX3_init 125 = .ok (.newarray .int, 2) := by decide +kernel
theorem dX3_init_127 : decode cX3_init 127 = .ok (.putfield 55, 3) := by decide +kernel
theorem dX3_init_130 : decode cX3_init 130 = .ok (.aload_n 0, 1) := by decide +kernel
theorem dX3_init_131 : decode cX3_init 131 = .ok (.sipush 1024, 3) := by decide +kernel
theorem dX3_init_134 : decode cX3_init 134 = .ok (.newarray .int, 2) := by decide +kernel
theorem dX3_init_136 : decode cX3_init 136 = .ok (.putfield 58, 3) := by decide +kernel
theorem dX3_init_139 : decode cX3_init 139 = .ok (.aload_n 0, 1) := by decide +kernel
theorem dX3_init_140 : decode cX3_init 140 = .ok (.iload_n 1, 1) := by decide +kernel
theorem dX3_init_141 : decode cX3_init 141 = .ok (.iconst 1, 1) := by decide +kernel
theorem dX3_init_142 : decode cX3_init 142 = .ok (.if_icmp .lt 13, 3) := by decide +kernel
theorem dX3_init_145 : decode cX3_init 145 = .ok (.iload_n 1, 1) := by decide +kernel
theorem dX3_init_146 : decode cX3_init 146 = .ok (.bipush 24, 2) := by decide +kernel
theorem dX3_init_148 : decode cX3_init 148 = .ok (.if_icmp .gt 7, 3) := by decide +kernel
theorem dX3_init_151 : decode cX3_init 151 = .ok (.iload_n 1, 1) := by decide +kernel
theorem dX3_init_152 : decode cX3_init 152 = .ok (.goto 5, 3) := by decide +kernel
theorem dX3_init_155 : decode cX3_init 155 = .ok (.bipush 8, 2) := by decide +kernel
theorem dX3_init_157 : decode cX3_init 157 = .ok (.putfield 61, 3) := by decide +kernel
theorem dX3_init_160 : decode cX3_init 160 = .ok (.iconst 0, 1) := by decide +kernel
theorem dX3_init_161 : decode cX3_init 161 = .ok (.istore_n 2, 1) := by decide +kernel
theorem dX3_init_162 : decode cX3_init 162 = .ok (.iload_n 2, 1) := by decide +kernel
theorem dX3_init_163 : decode cX3_init 163 = .ok (.bipush 24, 2) := by decide +kernel
theorem dX3_init_165 : decode cX3_init 165 = .ok (.if_icmp .ge 45, 3) := by decide +kernel
theorem dX3_init_168 : decode cX3_init 168 = .ok (.aload_n 0, 1) := by decide +kernel
theorem dX3_init_169 : decode cX3_init 169 = .ok (.getfield 7, 3) := by decide +kernel
theorem dX3_init_172 : decode cX3_init 172 = .ok (.iload_n 2, 1) := by decide +kernel
theorem dX3_init_173 : decode cX3_init 173 = .ok (.ldc2_w 65, 3) := by decide +kernel
theorem dX3_init_176 : decode cX3_init 176 = .ok (.lastore, 1) := by decide +kernel
theorem dX3_init_177 : decode cX3_init 177 = .ok (.aload_n 0, 1) := by decide +kernel
theorem dX3_init_178 : decode cX3_init 178 = .ok (.getfield 13, 3) := by decide +kernel
theorem dX3_init_181 : decode cX3_init 181 = .ok (.iload_n 2, 1) := by decide +kernel
theorem dX3_init_182 : decode cX3_init 182 = .ok (.ldc2_w 67, 3) := by decide +kernel
theorem dX3_init_185 : decode cX3_init 185 = .ok (.dastore, 1) := by decide +kernel
theorem dX3_init_186 : decode cX3_init 186 = .ok (.aload_n 0, 1) := by decide +kernel
theorem dX3_init_187 : decode cX3_init 187 = .ok (.getfield 17, 3) := by decide +kernel
theorem dX3_init_190 : decode cX3_init 190 = .ok (.iload_n 2, 1) := by decide +kernel
theorem dX3_init_191 : decode cX3_init 191 = .ok (.ldc2_w 69, 3) := by decide +kernel
theorem dX3_init_194 : decode cX3_init 194 = .ok (.lastore, 1) := by decide +kernel
theorem dX3_init_195 : decode cX3_init 195 = .ok (.aload_n 0, 1) := by decide +kernel
theorem dX3_init_196 : decode cX3_init 196 = .ok (.getfield 20, 3) := by decide +kernel
theorem dX3_init_199 : decode cX3_init 199 = .ok (.iload_n 2, 1) := by decide +kernel
theorem dX3_init_200 : decode cX3_init 200 = .ok (.ldc2_w 71, 3) := by decide +kernel
theorem dX3_init_203 : decode cX3_init 203 = .ok (.lastore, 1) := by decide +kernel
theorem dX3_init_204 : decode cX3_init 204 = .ok (.iinc 2 1, 3) := by decide +kernel
theorem dX3_init_207 : decode cX3_init 207 = .ok (.goto (-45), 3) := by decide +kernel
theorem dX3_init_210 : decode cX3_init 210 = .ok (.return_, 1) := by decide +kernel
theorem dX3_thrown_0 : decode cX3_thrown 0 = .ok (.aload_n 0, 1) := by decide +kernel
theorem dX3_thrown_1 : decode cX3_thrown 1 = .ok (.getfield 73, 3) := by decide +kernel
theorem dX3_thrown_4 : decode cX3_thrown 4 = .ok (.ireturn, 1) := by decide +kernel
theorem dX3_noCell_0 : decode cX3_noCell 0 = .ok (.iload_n 1, 1) := by decide +kernel
theorem dX3_noCell_1 : decode cX3_noCell 1 = .ok (.ifCond .lt 11, 3) := by decide +kernel
theorem dX3_noCell_4 : decode cX3_noCell 4 = .ok (.iload_n 1, 1) := by decide +kernel
theorem dX3_noCell_5 : decode cX3_noCell 5 = .ok (.aload_n 0, 1) := by decide +kernel
theorem dX3_noCell_6 : decode cX3_noCell 6 = .ok (.getfield 61, 3) := by decide +kernel
theorem dX3_noCell_9 : decode cX3_noCell 9 = .ok (.if_icmp .lt 7, 3) := by decide +kernel
theorem dX3_noCell_12 : decode cX3_noCell 12 = .ok (.iconst 1, 1) := by decide +kernel
theorem dX3_noCell_13 : decode cX3_noCell 13 = .ok (.goto 4, 3) := by decide +kernel
theorem dX3_noCell_16 : decode cX3_noCell 16 = .ok (.iconst 0, 1) := by decide +kernel
theorem dX3_noCell_17 : decode cX3_noCell 17 = .ok (.ireturn, 1) := by decide +kernel
theorem dX3_fails_0 : decode cX3_fails 0 = .ok (.aload_n 0, 1) := by decide +kernel
theorem dX3_fails_1 : decode cX3_fails 1 = .ok (.getfield 49, 3) := by decide +kernel
theorem dX3_fails_4 : decode cX3_fails 4 = .ok (.aload_n 0, 1) := by decide +kernel
theorem dX3_fails_5 : decode cX3_fails 5 = .ok (.getfield 76, 3) := by decide +kernel
theorem dX3_fails_8 : decode cX3_fails 8 = .ok (.iload_n 1, 1) := by decide +kernel
theorem dX3_fails_9 : decode cX3_fails 9 = .ok (.iastore, 1) := by decide +kernel
theorem dX3_fails_10 : decode cX3_fails 10 = .ok (.aload_n 0, 1) := by decide +kernel
theorem dX3_fails_11 : decode cX3_fails 11 = .ok (.dup, 1) := by decide +kernel
theorem dX3_fails_12 : decode cX3_fails 12 = .ok (.getfield 76, 3) := by decide +kernel
theorem dX3_fails_15 : decode cX3_fails 15 = .ok (.iconst 1, 1) := by decide +kernel
theorem dX3_fails_16 : decode cX3_fails 16 = .ok (.iadd, 1) := by decide +kernel
theorem dX3_fails_17 : decode cX3_fails 17 = .ok (.putfield 76, 3) := by decide +kernel
theorem dX3_fails_20 : decode cX3_fails 20 = .ok (.aload_n 0, 1) := by decide +kernel
theorem dX3_fails_21 : decode cX3_fails 21 = .ok (.iconst 0, 1) := by decide +kernel
theorem dX3_fails_22 : decode cX3_fails 22 = .ok (.putfield 79, 3) := by decide +kernel
theorem dX3_fails_25 : decode cX3_fails 25 = .ok (.return_, 1) := by decide +kernel
theorem dX3_within_0 : decode cX3_within 0 = .ok (.dload_n 0, 1) := by decide +kernel
theorem dX3_within_1 : decode cX3_within 1 = .ok (.dconst 0, 1) := by decide +kernel
theorem dX3_within_2 : decode cX3_within 2 = .ok (.dcmp .g, 1) := by decide +kernel
theorem dX3_within_3 : decode cX3_within 3 = .ok (.ifCond .ge 7, 3) := by decide +kernel
theorem dX3_within_6 : decode cX3_within 6 = .ok (.dconst 0, 1) := by decide +kernel
theorem dX3_within_7 : decode cX3_within 7 = .ok (.goto 14, 3) := by decide +kernel
theorem dX3_within_10 : decode cX3_within 10 = .ok (.dload_n 0, 1) := by decide +kernel
theorem dX3_within_11 : decode cX3_within 11 = .ok (.dconst 1, 1) := by decide +kernel
theorem dX3_within_12 : decode cX3_within 12 = .ok (.dcmp .l, 1) := by decide +kernel
theorem dX3_within_13 : decode cX3_within 13 = .ok (.ifCond .le 7, 3) := by decide +kernel
theorem dX3_within_16 : decode cX3_within 16 = .ok (.dconst 1, 1) := by decide +kernel
theorem dX3_within_17 : decode cX3_within 17 = .ok (.goto 4, 3) := by decide +kernel
theorem dX3_within_20 : decode cX3_within 20 = .ok (.dload_n 0, 1) := by decide +kernel
theorem dX3_within_21 : decode cX3_within 21 = .ok (.dreturn, 1) := by decide +kernel
theorem dX3_size_0 : decode cX3_size 0 = .ok (.lload_n 0, 1) := by decide +kernel
theorem dX3_size_1 : decode cX3_size 1 = .ok (.lconst 0, 1) := by decide +kernel
theorem dX3_size_2 : decode cX3_size 2 = .ok (.lcmp, 1) := by decide +kernel
theorem dX3_size_3 : decode cX3_size 3 = .ok (.ifCond .ge 8, 3) := by decide +kernel
theorem dX3_size_6 : decode cX3_size 6 = .ok (.lload_n 0, 1) := by decide +kernel
theorem dX3_size_7 : decode cX3_size 7 = .ok (.lneg, 1) := by decide +kernel
theorem dX3_size_8 : decode cX3_size 8 = .ok (.goto 4, 3) := by decide +kernel
theorem dX3_size_11 : decode cX3_size 11 = .ok (.lload_n 0, 1) := by decide +kernel
theorem dX3_size_12 : decode cX3_size 12 = .ok (.lreturn, 1) := by decide +kernel
theorem dX3_goesOn_0 : decode cX3_goesOn 0 = .ok (.aload_n 0, 1) := by decide +kernel
theorem dX3_goesOn_1 : decode cX3_goesOn 1 = .ok (.getfield 82, 3) := by decide +kernel
theorem dX3_goesOn_4 : decode cX3_goesOn 4 = .ok (.ifCond .ne 5, 3) := by decide +kernel
theorem dX3_goesOn_7 : decode cX3_goesOn 7 = .ok (.iconst 0, 1) := by decide +kernel
theorem dX3_goesOn_8 : decode cX3_goesOn 8 = .ok (.ireturn, 1) := by decide +kernel
theorem dX3_goesOn_9 : decode cX3_goesOn 9 = .ok (.aload_n 0, 1) := by decide +kernel
theorem dX3_goesOn_10 : decode cX3_goesOn 10 = .ok (.getfield 52, 3) := by decide +kernel
theorem dX3_goesOn_13 : decode cX3_goesOn 13 = .ok (.aload_n 0, 1) := by decide +kernel
theorem dX3_goesOn_14 : decode cX3_goesOn 14 = .ok (.getfield 82, 3) := by decide +kernel
theorem dX3_goesOn_17 : decode cX3_goesOn 17 = .ok (.iconst 1, 1) := by decide +kernel
theorem dX3_goesOn_18 : decode cX3_goesOn 18 = .ok (.isub, 1) := by decide +kernel
theorem dX3_goesOn_19 : decode cX3_goesOn 19 = .ok (.laload, 1) := by decide +kernel
theorem dX3_goesOn_20 : decode cX3_goesOn 20 = .ok (.lstore_n 3, 1) := by decide +kernel
theorem dX3_goesOn_21 : decode cX3_goesOn 21 = .ok (.lload_n 1, 1) := by decide +kernel
theorem dX3_goesOn_22 : decode cX3_goesOn 22 = .ok (.lload_n 3, 1) := by decide +kernel
theorem dX3_goesOn_23 : decode cX3_goesOn 23 = .ok (.lcmp, 1) := by decide +kernel
theorem dX3_goesOn_24 : decode cX3_goesOn 24 = .ok (.ifCond .ne 5, 3) := by decide +kernel
theorem dX3_goesOn_27 : decode cX3_goesOn 27 = .ok (.iconst 1, 1) := by decide +kernel
theorem dX3_goesOn_28 : decode cX3_goesOn 28 = .ok (.ireturn, 1) := by decide +kernel
theorem dX3_goesOn_29 : decode cX3_goesOn 29 = .ok (.aload_n 0, 1) := by decide +kernel
theorem dX3_goesOn_30 : decode cX3_goesOn 30 = .ok (.getfield 82, 3) := by decide +kernel
theorem dX3_goesOn_33 : decode cX3_goesOn 33 = .ok (.iconst 1, 1) := by decide +kernel
theorem dX3_goesOn_34 : decode cX3_goesOn 34 = .ok (.if_icmp .ne 5, 3) := by decide +kernel
theorem dX3_goesOn_37 : decode cX3_goesOn 37 = .ok (.iconst 0, 1) := by decide +kernel
theorem dX3_goesOn_38 : decode cX3_goesOn 38 = .ok (.ireturn, 1) := by decide +kernel
theorem dX3_goesOn_39 : decode cX3_goesOn 39 = .ok (.lload_n 3, 1) := by decide +kernel
theorem dX3_goesOn_40 : decode cX3_goesOn 40 = .ok (.aload_n 0, 1) := by decide +kernel
theorem dX3_goesOn_41 : decode cX3_goesOn 41 = .ok (.getfield 52, 3) := by decide +kernel
theorem dX3_goesOn_44 : decode cX3_goesOn 44 = .ok (.aload_n 0, 1) := by decide +kernel
theorem dX3_goesOn_45 : decode cX3_goesOn 45 = .ok (.getfield 82, 3) := by decide +kernel
theorem dX3_goesOn_48 : decode cX3_goesOn 48 = .ok (.iconst 2, 1) := by decide +kernel
theorem dX3_goesOn_49 : decode cX3_goesOn 49 = .ok (.isub, 1) := by decide +kernel
theorem dX3_goesOn_50 : decode cX3_goesOn 50 = .ok (.laload, 1) := by decide +kernel
theorem dX3_goesOn_51 : decode cX3_goesOn 51 = .ok (.lcmp, 1) := by decide +kernel
theorem dX3_goesOn_52 : decode cX3_goesOn 52 = .ok (.ifCond .le 7, 3) := by decide +kernel
theorem dX3_goesOn_55 : decode cX3_goesOn 55 = .ok (.iconst 1, 1) := by decide +kernel
theorem dX3_goesOn_56 : decode cX3_goesOn 56 = .ok (.goto 4, 3) := by decide +kernel
theorem dX3_goesOn_59 : decode cX3_goesOn 59 = .ok (.iconst 0, 1) := by decide +kernel
theorem dX3_goesOn_60 : decode cX3_goesOn 60 = .ok (.lload_n 1, 1) := by decide +kernel
theorem dX3_goesOn_61 : decode cX3_goesOn 61 = .ok (.lload_n 3, 1) := by decide +kernel
theorem dX3_goesOn_62 : decode cX3_goesOn 62 = .ok (.lcmp, 1) := by decide +kernel
theorem dX3_goesOn_63 : decode cX3_goesOn 63 = .ok (.ifCond .le 7, 3) := by decide +kernel
theorem dX3_goesOn_66 : decode cX3_goesOn 66 = .ok (.iconst 1, 1) := by decide +kernel
theorem dX3_goesOn_67 : decode cX3_goesOn 67 = .ok (.goto 4, 3) := by decide +kernel
theorem dX3_goesOn_70 : decode cX3_goesOn 70 = .ok (.iconst 0, 1) := by decide +kernel
theorem dX3_goesOn_71 : decode cX3_goesOn 71 = .ok (.if_icmp .ne 7, 3) := by decide +kernel
theorem dX3_goesOn_74 : decode cX3_goesOn 74 = .ok (.iconst 1, 1) := by decide +kernel
theorem dX3_goesOn_75 : decode cX3_goesOn 75 = .ok (.goto 4, 3) := by decide +kernel
theorem dX3_goesOn_78 : decode cX3_goesOn 78 = .ok (.iconst 0, 1) := by decide +kernel
theorem dX3_goesOn_79 : decode cX3_goesOn 79 = .ok (.ireturn, 1) := by decide +kernel
set_option maxRecDepth 20000 in
theorem ggX3_point_X3_goesOn : GoodIn wsX3_point wsX3_goesOn := goodIn_r _ [10, 2, 1, 14, 15, 16, 17, 18, 19, 20, 21, 22, 23, 24, 25, 26, 27, 28, 29, 30, 31, 32, 33] (by decide +kernel) (by decide +kernel)
set_option maxRecDepth 20000 in
theorem gX3_point_X3_goesOn : GoodIn wsX3_point (wsV RX3 85 RX3 yX3_goesOn wsX3_goesOn) := goodIn_app (goodIn_of _ (by decide +kernel)) ggX3_point_X3_goesOn
set_option maxRecDepth 20000 in
theorem ggX3_point_X3_size : GoodIn wsX3_point wsX3_size := goodIn_r _ [13] (by decide +kernel) (by decide +kernel)
set_option maxRecDepth 20000 in
theorem gX3_point_X3_size : GoodIn wsX3_point (va_wsS RX3 89 yX3_size wsX3_size) := goodIn_app (goodIn_of _ (by decide +kernel)) ggX3_point_X3_size
theorem dX3_point_0 : decode cX3_point 0 = .ok (.aload_n 0, 1) := by decide +kernel
theorem dX3_point_1 : decode cX3_point 1 = .ok (.lload_n 1, 1) := by decide +kernel
theorem dX3_point_2 : decode cX3_point 2 = .ok (.invokevirtual 85, 3) := by decide +kernel
theorem dX3_point_5 : decode cX3_point 5 = .ok (.ifCond .eq 18, 3) := by decide +kernel
theorem dX3_point_8 : decode cX3_point 8 = .ok (.aload_n 0, 1) := by decide +kernel
theorem dX3_point_9 : decode cX3_point 9 = .ok (.getfield 52, 3) := by decide +kernel
theorem dX3_point_12 : decode cX3_point 12 = .ok (.aload_n 0, 1) := by decide +kernel
theorem dX3_point_13 : decode cX3_point 13 = .ok (.getfield 82, 3) := by decide +kernel
theorem dX3_point_16 : decode cX3_point 16 = .ok (.iconst 1, 1) := by decide +kernel
theorem dX3_point_17 : decode cX3_point 17 = .ok (.isub, 1) := by decide +kernel
theorem dX3_point_18 : decode cX3_point 18 = .ok (.lload_n 1, 1) := by decide +kernel
theorem dX3_point_19 : decode cX3_point 19 = .ok (.lastore, 1) := by decide +kernel
theorem dX3_point_20 : decode cX3_point 20 = .ok (.goto 33, 3) := by decide +kernel
theorem dX3_point_23 : decode cX3_point 23 = .ok (.aload_n 0, 1) := by decide +kernel
theorem dX3_point_24 : decode cX3_point 24 = .ok (.getfield 82, 3) := by decide +kernel
theorem dX3_point_27 : decode cX3_point 27 = .ok (.sipush 500, 3) := by decide +kernel
theorem dX3_point_30 : decode cX3_point 30 = .ok (.if_icmp .ge 23, 3) := by decide +kernel
theorem dX3_point_33 : decode cX3_point 33 = .ok (.aload_n 0, 1) := by decide +kernel
theorem dX3_point_34 : decode cX3_point 34 = .ok (.getfield 52, 3) := by decide +kernel
theorem dX3_point_37 : decode cX3_point 37 = .ok (.aload_n 0, 1) := by decide +kernel
theorem dX3_point_38 : decode cX3_point 38 = .ok (.getfield 82, 3) := by decide +kernel
theorem dX3_point_41 : decode cX3_point 41 = .ok (.lload_n 1, 1) := by decide +kernel
theorem dX3_point_42 : decode cX3_point 42 = .ok (.lastore, 1) := by decide +kernel
theorem dX3_point_43 : decode cX3_point 43 = .ok (.aload_n 0, 1) := by decide +kernel
theorem dX3_point_44 : decode cX3_point 44 = .ok (.dup, 1) := by decide +kernel
theorem dX3_point_45 : decode cX3_point 45 = .ok (.getfield 82, 3) := by decide +kernel
theorem dX3_point_48 : decode cX3_point 48 = .ok (.iconst 1, 1) := by decide +kernel
theorem dX3_point_49 : decode cX3_point 49 = .ok (.iadd, 1) := by decide +kernel
theorem dX3_point_50 : decode cX3_point 50 = .ok (.putfield 82, 3) := by decide +kernel
theorem dX3_point_53 : decode cX3_point 53 = .ok (.iconst 1, 1) := by decide +kernel
theorem dX3_point_54 : decode cX3_point 54 = .ok (.istore_n 3, 1) := by decide +kernel
theorem dX3_point_55 : decode cX3_point 55 = .ok (.iload_n 3, 1) := by decide +kernel
theorem dX3_point_56 : decode cX3_point 56 = .ok (.ifCond .eq 192, 3) := by decide +kernel
theorem dX3_point_59 : decode cX3_point 59 = .ok (.aload_n 0, 1) := by decide +kernel
theorem dX3_point_60 : decode cX3_point 60 = .ok (.getfield 82, 3) := by decide +kernel
theorem dX3_point_63 : decode cX3_point 63 = .ok (.iconst 3, 1) := by decide +kernel
theorem dX3_point_64 : decode cX3_point 64 = .ok (.if_icmp .le 184, 3) := by decide +kernel
theorem dX3_point_67 : decode cX3_point 67 = .ok (.aload_n 0, 1) := by decide +kernel
theorem dX3_point_68 : decode cX3_point 68 = .ok (.getfield 52, 3) := by decide +kernel
theorem dX3_point_71 : decode cX3_point 71 = .ok (.aload_n 0, 1) := by decide +kernel
theorem dX3_point_72 : decode cX3_point 72 = .ok (.getfield 82, 3) := by decide +kernel
theorem dX3_point_75 : decode cX3_point 75 = .ok (.iconst 4, 1) := by decide +kernel
theorem dX3_point_76 : decode cX3_point 76 = .ok (.isub, 1) := by decide +kernel
theorem dX3_point_77 : decode cX3_point 77 = .ok (.laload, 1) := by decide +kernel
theorem dX3_point_78 : decode cX3_point 78 = .ok (.lstore 4, 2) := by decide +kernel
theorem dX3_point_80 : decode cX3_point 80 = .ok (.aload_n 0, 1) := by decide +kernel
theorem dX3_point_81 : decode cX3_point 81 = .ok (.getfield 52, 3) := by decide +kernel
theorem dX3_point_84 : decode cX3_point 84 = .ok (.aload_n 0, 1) := by decide +kernel
theorem dX3_point_85 : decode cX3_point 85 = .ok (.getfield 82, 3) := by decide +kernel
theorem dX3_point_88 : decode cX3_point 88 = .ok (.iconst 3, 1) := by decide +kernel
theorem dX3_point_89 : decode cX3_point 89 = .ok (.isub, 1) := by decide +kernel
theorem dX3_point_90 : decode cX3_point 90 = .ok (.laload, 1) := by decide +kernel
theorem dX3_point_91 : decode cX3_point 91 = .ok (.lstore 6, 2) := by decide +kernel
theorem dX3_point_93 : decode cX3_point 93 = .ok (.aload_n 0, 1) := by decide +kernel
theorem dX3_point_94 : decode cX3_point 94 = .ok (.getfield 52, 3) := by decide +kernel
theorem dX3_point_97 : decode cX3_point 97 = .ok (.aload_n 0, 1) := by decide +kernel
theorem dX3_point_98 : decode cX3_point 98 = .ok (.getfield 82, 3) := by decide +kernel
theorem dX3_point_101 : decode cX3_point 101 = .ok (.iconst 2, 1) := by decide +kernel
theorem dX3_point_102 : decode cX3_point 102 = .ok (.isub, 1) := by decide +kernel
theorem dX3_point_103 : decode cX3_point 103 = .ok (.laload, 1) := by decide +kernel
theorem dX3_point_104 : decode cX3_point 104 = .ok (.lstore 8, 2) := by decide +kernel
theorem dX3_point_106 : decode cX3_point 106 = .ok (.aload_n 0, 1) := by decide +kernel
theorem dX3_point_107 : decode cX3_point 107 = .ok (.getfield 52, 3) := by decide +kernel
theorem dX3_point_110 : decode cX3_point 110 = .ok (.aload_n 0, 1) := by decide +kernel
theorem dX3_point_111 : decode cX3_point 111 = .ok (.getfield 82, 3) := by decide +kernel
theorem dX3_point_114 : decode cX3_point 114 = .ok (.iconst 1, 1) := by decide +kernel
theorem dX3_point_115 : decode cX3_point 115 = .ok (.isub, 1) := by decide +kernel
theorem dX3_point_116 : decode cX3_point 116 = .ok (.laload, 1) := by decide +kernel
theorem dX3_point_117 : decode cX3_point 117 = .ok (.lstore 10, 2) := by decide +kernel
theorem dX3_point_119 : decode cX3_point 119 = .ok (.lload 6, 2) := by decide +kernel
theorem dX3_point_121 : decode cX3_point 121 = .ok (.lload 8, 2) := by decide +kernel
theorem dX3_point_123 : decode cX3_point 123 = .ok (.lsub, 1) := by decide +kernel
theorem dX3_point_124 : decode cX3_point 124 = .ok (.invokestatic 89, 3) := by decide +kernel
theorem dX3_point_127 : decode cX3_point 127 = .ok (.lload 4, 2) := by decide +kernel
theorem dX3_point_129 : decode cX3_point 129 = .ok (.lload 6, 2) := by decide +kernel
theorem dX3_point_131 : decode cX3_point 131 = .ok (.lsub, 1) := by decide +kernel
theorem dX3_point_132 : decode cX3_point 132 = .ok (.invokestatic 89, 3) := by decide +kernel
theorem dX3_point_135 : decode cX3_point 135 = .ok (.lcmp, 1) := by decide +kernel
theorem dX3_point_136 : decode cX3_point 136 = .ok (.ifCond .gt 27, 3) := by decide +kernel
theorem dX3_point_139 : decode cX3_point 139 = .ok (.lload 6, 2) := by decide +kernel
theorem dX3_point_141 : decode cX3_point 141 = .ok (.lload 8, 2) := by decide +kernel
theorem dX3_point_143 : decode cX3_point 143 = .ok (.lsub, 1) := by decide +kernel
theorem dX3_point_144 : decode cX3_point 144 = .ok (.invokestatic 89, 3) := by decide +kernel
theorem dX3_point_147 : decode cX3_point 147 = .ok (.lload 8, 2) := by decide +kernel
theorem dX3_point_149 : decode cX3_point 149 = .ok (.lload 10, 2) := by decide +kernel
theorem dX3_point_151 : decode cX3_point 151 = .ok (.lsub, 1) := by decide +kernel
theorem dX3_point_152 : decode cX3_point 152 = .ok (.invokestatic 89, 3) := by decide +kernel
theorem dX3_point_155 : decode cX3_point 155 = .ok (.lcmp, 1) := by decide +kernel
theorem dX3_point_156 : decode cX3_point 156 = .ok (.ifCond .gt 7, 3) := by decide +kernel
theorem dX3_point_159 : decode cX3_point 159 = .ok (.iconst 1, 1) := by decide +kernel
theorem dX3_point_160 : decode cX3_point 160 = .ok (.goto 4, 3) := by decide +kernel
theorem dX3_point_163 : decode cX3_point 163 = .ok (.iconst 0, 1) := by decide +kernel
theorem dX3_point_164 : decode cX3_point 164 = .ok (.istore_n 3, 1) := by decide +kernel
theorem dX3_point_165 : decode cX3_point 165 = .ok (.iload_n 3, 1) := by decide +kernel
theorem dX3_point_166 : decode cX3_point 166 = .ok (.ifCond .eq 79, 3) := by decide +kernel
theorem dX3_point_169 : decode cX3_point 169 = .ok (.aload_n 0, 1) := by decide +kernel
theorem dX3_point_170 : decode cX3_point 170 = .ok (.getfield 55, 3) := by decide +kernel
theorem dX3_point_173 : decode cX3_point 173 = .ok (.aload_n 0, 1) := by decide +kernel
theorem dX3_point_174 : decode cX3_point 174 = .ok (.getfield 93, 3) := by decide +kernel
theorem dX3_point_177 : decode cX3_point 177 = .ok (.lload 6, 2) := by decide +kernel
theorem dX3_point_179 : decode cX3_point 179 = .ok (.lload 8, 2) := by decide +kernel
theorem dX3_point_181 : decode cX3_point 181 = .ok (.lsub, 1) := by decide +kernel
theorem dX3_point_182 : decode cX3_point 182 = .ok (.invokestatic 89, 3) := by decide +kernel
theorem dX3_point_185 : decode cX3_point 185 = .ok (.l2i, 1) := by decide +kernel
theorem dX3_point_186 : decode cX3_point 186 = .ok (.iastore, 1) := by decide +kernel
theorem dX3_point_187 : decode cX3_point 187 = .ok (.aload_n 0, 1) := by decide +kernel
theorem dX3_point_188 : decode cX3_point 188 = .ok (.getfield 58, 3) := by decide +kernel
theorem dX3_point_191 : decode cX3_point 191 = .ok (.aload_n 0, 1) := by decide +kernel
theorem dX3_point_192 : decode cX3_point 192 = .ok (.getfield 93, 3) := by decide +kernel
theorem dX3_point_195 : decode cX3_point 195 = .ok (.lload 6, 2) := by decide +kernel
theorem dX3_point_197 : decode cX3_point 197 = .ok (.lload 8, 2) := by decide +kernel
theorem dX3_point_199 : decode cX3_point 199 = .ok (.lcmp, 1) := by decide +kernel
theorem dX3_point_200 : decode cX3_point 200 = .ok (.ifCond .ge 8, 3) := by decide +kernel
theorem dX3_point_203 : decode cX3_point 203 = .ok (.lload 6, 2) := by decide +kernel
theorem dX3_point_205 : decode cX3_point 205 = .ok (.goto 5, 3) := by decide +kernel
theorem dX3_point_208 : decode cX3_point 208 = .ok (.lload 8, 2) := by decide +kernel
theorem dX3_point_210 : decode cX3_point 210 = .ok (.l2i, 1) := by decide +kernel
theorem dX3_point_211 : decode cX3_point 211 = .ok (.iastore, 1) := by decide +kernel
theorem dX3_point_212 : decode cX3_point 212 = .ok (.aload_n 0, 1) := by decide +kernel
theorem dX3_point_213 : decode cX3_point 213 = .ok (.dup, 1) := by decide +kernel
theorem dX3_point_214 : decode cX3_point 214 = .ok (.getfield 93, 3) := by decide +kernel
theorem dX3_point_217 : decode cX3_point 217 = .ok (.iconst 1, 1) := by decide +kernel
theorem dX3_point_218 : decode cX3_point 218 = .ok (.iadd, 1) := by decide +kernel
theorem dX3_point_219 : decode cX3_point 219 = .ok (.putfield 93, 3) := by decide +kernel
theorem dX3_point_222 : decode cX3_point 222 = .ok (.aload_n 0, 1) := by decide +kernel
theorem dX3_point_223 : decode cX3_point 223 = .ok (.getfield 52, 3) := by decide +kernel
theorem dX3_point_226 : decode cX3_point 226 = .ok (.aload_n 0, 1) := by decide +kernel
theorem dX3_point_227 : decode cX3_point 227 = .ok (.getfield 82, 3) := by decide +kernel
theorem dX3_point_230 : decode cX3_point 230 = .ok (.iconst 3, 1) := by decide +kernel
theorem dX3_point_231 : decode cX3_point 231 = .ok (.isub, 1) := by decide +kernel
theorem dX3_point_232 : decode cX3_point 232 = .ok (.lload 10, 2) := by decide +kernel
theorem dX3_point_234 : decode cX3_point 234 = .ok (.lastore, 1) := by decide +kernel
theorem dX3_point_235 : decode cX3_point 235 = .ok (.aload_n 0, 1) := by decide +kernel
theorem dX3_point_236 : decode cX3_point 236 = .ok (.aload_n 0, 1) := by decide +kernel
theorem dX3_point_237 : decode cX3_point 237 = .ok (.getfield 82, 3) := by decide +kernel
theorem dX3_point_240 : decode cX3_point 240 = .ok (.iconst 2, 1) := by decide +kernel
theorem dX3_point_241 : decode cX3_point 241 = .ok (.isub, 1) := by decide +kernel
theorem dX3_point_242 : decode cX3_point 242 = .ok (.putfield 82, 3) := by decide +kernel
theorem dX3_point_245 : decode cX3_point 245 = .ok (.goto (-190), 3) := by decide +kernel
theorem dX3_point_248 : decode cX3_point 248 = .ok (.return_, 1) := by decide +kernel
set_option maxRecDepth 20000 in
theorem ggX3_step_X3_noCell : GoodIn wsX3_step wsX3_noCell := goodIn_r _ [25, 26, 51, 52, 53, 54, 55, 56, 57, 58, 59, 60, 61, 62, 63, 64, 65, 66, 67, 68, 69, 70] (by decide +kernel) (by decide +kernel)
set_option maxRecDepth 20000 in
theorem gX3_step_X3_noCell : GoodIn wsX3_step (wsV RX3 104 RX3 yX3_noCell wsX3_noCell) := goodIn_app (goodIn_of _ (by decide +kernel)) ggX3_step_X3_noCell
set_option maxRecDepth 20000 in
theorem ggX3_step_X3_point : GoodIn wsX3_step wsX3_point := goodIn_r _ [30, 31, 7, 32, 33, 34, 35, 36, 37, 24, 38, 39, 40, 41, 51, 52, 53, 54, 55, 56, 57, 58, 59, 60, 61, 62, 63, 64, 65, 66, 67, 68, 69, 70] (by decide +kernel) (by decide +kernel)
set_option maxRecDepth 20000 in
theorem gX3_step_X3_point : GoodIn wsX3_step (wsV RX3 108 RX3 yX3_point wsX3_point) := goodIn_app (goodIn_of _ (by decide +kernel)) ggX3_step_X3_point
set_option maxRecDepth 20000 in
theorem ggX3_step_X3_within : GoodIn wsX3_step wsX3_within := goodIn_r _ [44] (by decide +kernel) (by decide +kernel)
set_option maxRecDepth 20000 in
theorem gX3_step_X3_within : GoodIn wsX3_step (va_wsS RX3 117 yX3_within wsX3_within) := goodIn_app (goodIn_of _ (by decide +kernel)) ggX3_step_X3_within
set_option maxRecDepth 20000 in
theorem ggX3_step_X3_size : GoodIn wsX3_step wsX3_size := goodIn_r _ [41] (by decide +kernel) (by decide +kernel)
set_option maxRecDepth 20000 in
theorem gX3_step_X3_size : GoodIn wsX3_step (va_wsS RX3 89 yX3_size wsX3_size) := goodIn_app (goodIn_of _ (by decide +kernel)) ggX3_step_X3_size
set_option maxRecDepth 20000 in
theorem ggX3_step_X3_fails : GoodIn wsX3_step wsX3_fails := goodIn_r _ [48, 49, 20, 50, 51, 52, 53, 54, 55, 56, 57, 58, 59, 60, 61, 62, 63, 64, 65, 66, 67, 68, 69, 70] (by decide +kernel) (by decide +kernel)
set_option maxRecDepth 20000 in
theorem gX3_step_X3_fails : GoodIn wsX3_step (wsV RX3 127 RX3 yX3_fails wsX3_fails) := goodIn_app (goodIn_of _ (by decide +kernel)) ggX3_step_X3_fails
theorem dX3_step_0 : decode cX3_step 0 = .ok (.aload_n 0, 1) := by decide +kernel
theorem dX3_step_1 : decode cX3_step 1 = .ok (.iconst 0, 1) := by decide +kernel
theorem dX3_step_2 : decode cX3_step 2 = .ok (.putfield 73, 3) := by decide +kernel
theorem dX3_step_5 : decode cX3_step 5 = .ok (.lload_n 2, 1) := by decide +kernel
theorem dX3_step_6 : decode cX3_step 6 = .ok (.ldc2_w 96, 3) := by decide +kernel
theorem dX3_step_9 : decode cX3_step 9 = .ok (.lcmp, 1) := by decide +kernel
theorem dX3_step_10 : decode cX3_step 10 = .ok (.ifCond .lt 45, 3) := by decide +kernel
theorem dX3_step_13 : decode cX3_step 13 = .ok (.lload_n 2, 1) := by decide +kernel
theorem dX3_step_14 : decode cX3_step 14 = .ok (.ldc2_w 41, 3) := by decide +kernel
theorem dX3_step_17 : decode cX3_step 17 = .ok (.lcmp, 1) := by decide +kernel
theorem dX3_step_18 : decode cX3_step 18 = .ok (.ifCond .gt 37, 3) := by decide +kernel
theorem dX3_step_21 : decode cX3_step 21 = .ok (.lload 4, 2) := by decide +kernel
theorem dX3_step_23 : decode cX3_step 23 = .ok (.lconst 0, 1) := by decide +kernel
theorem dX3_step_24 : decode cX3_step 24 = .ok (.lcmp, 1) := by decide +kernel
theorem dX3_step_25 : decode cX3_step 25 = .ok (.ifCond .lt 30, 3) := by decide +kernel
theorem dX3_step_28 : decode cX3_step 28 = .ok (.lload 4, 2) := by decide +kernel
theorem dX3_step_30 : decode cX3_step 30 = .ok (.ldc2_w 98, 3) := by decide +kernel
theorem dX3_step_33 : decode cX3_step 33 = .ok (.lcmp, 1) := by decide +kernel
theorem dX3_step_34 : decode cX3_step 34 = .ok (.ifCond .gt 21, 3) := by decide +kernel
theorem dX3_step_37 : decode cX3_step 37 = .ok (.lload 6, 2) := by decide +kernel
theorem dX3_step_39 : decode cX3_step 39 = .ok (.ldc2_w 100, 3) := by decide +kernel
theorem dX3_step_42 : decode cX3_step 42 = .ok (.lcmp, 1) := by decide +kernel
theorem dX3_step_43 : decode cX3_step 43 = .ok (.ifCond .lt 12, 3) := by decide +kernel
theorem dX3_step_46 : decode cX3_step 46 = .ok (.lload 6, 2) := by decide +kernel
theorem dX3_step_48 : decode cX3_step 48 = .ok (.ldc2_w 102, 3) := by decide +kernel
theorem dX3_step_51 : decode cX3_step 51 = .ok (.lcmp, 1) := by decide +kernel
theorem dX3_step_52 : decode cX3_step 52 = .ok (.ifCond .le 6, 3) := by decide +kernel
theorem dX3_step_55 : decode cX3_step 55 = .ok (.bipush (-2), 2) := by decide +kernel
theorem dX3_step_57 : decode cX3_step 57 = .ok (.ireturn, 1) := by decide +kernel
theorem dX3_step_58 : decode cX3_step 58 = .ok (.aload_n 0, 1) := by decide +kernel
theorem dX3_step_59 : decode cX3_step 59 = .ok (.aload_n 0, 1) := by decide +kernel
theorem dX3_step_60 : decode cX3_step 60 = .ok (.iload_n 1, 1) := by decide +kernel
theorem dX3_step_61 : decode cX3_step 61 = .ok (.invokevirtual 104, 3) := by decide +kernel
theorem dX3_step_64 : decode cX3_step 64 = .ok (.ifCond .eq 7, 3) := by decide +kernel
theorem dX3_step_67 : decode cX3_step 67 = .ok (.iconst 1, 1) := by decide +kernel
theorem dX3_step_68 : decode cX3_step 68 = .ok (.goto 4, 3) := by decide +kernel
theorem dX3_step_71 : decode cX3_step 71 = .ok (.iconst 0, 1) := by decide +kernel
theorem dX3_step_72 : decode cX3_step 72 = .ok (.putfield 73, 3) := by decide +kernel
theorem dX3_step_75 : decode cX3_step 75 = .ok (.aload_n 0, 1) := by decide +kernel
theorem dX3_step_76 : decode cX3_step 76 = .ok (.getfield 73, 3) := by decide +kernel
theorem dX3_step_79 : decode cX3_step 79 = .ok (.ifCond .le 5, 3) := by decide +kernel
theorem dX3_step_82 : decode cX3_step 82 = .ok (.iconst 0, 1) := by decide +kernel
theorem dX3_step_83 : decode cX3_step 83 = .ok (.ireturn, 1) := by decide +kernel
theorem dX3_step_84 : decode cX3_step 84 = .ok (.iload_n 1, 1) := by decide +kernel
theorem dX3_step_85 : decode cX3_step 85 = .ok (.ifCond .ne 20, 3) := by decide +kernel
theorem dX3_step_88 : decode cX3_step 88 = .ok (.aload_n 0, 1) := by decide +kernel
theorem dX3_step_89 : decode cX3_step 89 = .ok (.getfield 82, 3) := by decide +kernel
theorem dX3_step_92 : decode cX3_step 92 = .ok (.ifCond .ne 13, 3) := by decide +kernel
theorem dX3_step_95 : decode cX3_step 95 = .ok (.aload_n 0, 1) := by decide +kernel
theorem dX3_step_96 : decode cX3_step 96 = .ok (.aload_n 0, 1) := by decide +kernel
theorem dX3_step_97 : decode cX3_step 97 = .ok (.getfield 7, 3) := by decide +kernel
theorem dX3_step_100 : decode cX3_step 100 = .ok (.iconst 0, 1) := by decide +kernel
theorem dX3_step_101 : decode cX3_step 101 = .ok (.laload, 1) := by decide +kernel
theorem dX3_step_102 : decode cX3_step 102 = .ok (.invokevirtual 108, 3) := by decide +kernel
theorem dX3_step_105 : decode cX3_step 105 = .ok (.aload_n 0, 1) := by decide +kernel
theorem dX3_step_106 : decode cX3_step 106 = .ok (.dup, 1) := by decide +kernel
theorem dX3_step_107 : decode cX3_step 107 = .ok (.getfield 112, 3) := by decide +kernel
theorem dX3_step_110 : decode cX3_step 110 = .ok (.iconst 1, 1) := by decide +kernel
theorem dX3_step_111 : decode cX3_step 111 = .ok (.iadd, 1) := by decide +kernel
theorem dX3_step_112 : decode cX3_step 112 = .ok (.putfield 112, 3) := by decide +kernel
theorem dX3_step_115 : decode cX3_step 115 = .ok (.aload_n 0, 1) := by decide +kernel
theorem dX3_step_116 : decode cX3_step 116 = .ok (.getfield 17, 3) := by decide +kernel
theorem dX3_step_119 : decode cX3_step 119 = .ok (.iload_n 1, 1) := by decide +kernel
theorem dX3_step_120 : decode cX3_step 120 = .ok (.lload 4, 2) := by decide +kernel
theorem dX3_step_122 : decode cX3_step 122 = .ok (.lastore, 1) := by decide +kernel
theorem dX3_step_123 : decode cX3_step 123 = .ok (.aload_n 0, 1) := by decide +kernel
theorem dX3_step_124 : decode cX3_step 124 = .ok (.getfield 20, 3) := by decide +kernel
theorem dX3_step_127 : decode cX3_step 127 = .ok (.iload_n 1, 1) := by decide +kernel
theorem dX3_step_128 : decode cX3_step 128 = .ok (.lload 6, 2) := by decide +kernel
theorem dX3_step_130 : decode cX3_step 130 = .ok (.lastore, 1) := by decide +kernel
theorem dX3_step_131 : decode cX3_step 131 = .ok (.aload_n 0, 1) := by decide +kernel
theorem dX3_step_132 : decode cX3_step 132 = .ok (.getfield 7, 3) := by decide +kernel
theorem dX3_step_135 : decode cX3_step 135 = .ok (.iload_n 1, 1) := by decide +kernel
theorem dX3_step_136 : decode cX3_step 136 = .ok (.aload_n 0, 1) := by decide +kernel
theorem dX3_step_137 : decode cX3_step 137 = .ok (.getfield 7, 3) := by decide +kernel
theorem dX3_step_140 : decode cX3_step 140 = .ok (.iload_n 1, 1) := by decide +kernel
theorem dX3_step_141 : decode cX3_step 141 = .ok (.laload, 1) := by decide +kernel
theorem dX3_step_142 : decode cX3_step 142 = .ok (.lload_n 2, 1) := by decide +kernel
theorem dX3_step_143 : decode cX3_step 143 = .ok (.ladd, 1) := by decide +kernel
theorem dX3_step_144 : decode cX3_step 144 = .ok (.aload_n 0, 1) := by decide +kernel
theorem dX3_step_145 : decode cX3_step 145 = .ok (.getfield 27, 3) := by decide +kernel
theorem dX3_step_148 : decode cX3_step 148 = .ok (.iload_n 1, 1) := by decide +kernel
theorem dX3_step_149 : decode cX3_step 149 = .ok (.baload, 1) := by decide +kernel
theorem dX3_step_150 : decode cX3_step 150 = .ok (.ifCond .eq 9, 3) := by decide +kernel
theorem dX3_step_153 : decode cX3_step 153 = .ok (.ldc2_w 115, 3) := by decide +kernel
theorem dX3_step_156 : decode cX3_step 156 = .ok (.goto 4, 3) := by decide +kernel
theorem dX3_step_159 : decode cX3_step 159 = .ok (.lconst 0, 1) := by decide +kernel
theorem dX3_step_160 : decode cX3_step 160 = .ok (.lsub, 1) := by decide +kernel
theorem dX3_step_161 : decode cX3_step 161 = .ok (.lastore, 1) := by decide +kernel
theorem dX3_step_162 : decode cX3_step 162 = .ok (.aload_n 0, 1) := by decide +kernel
theorem dX3_step_163 : decode cX3_step 163 = .ok (.getfield 43, 3) := by decide +kernel
theorem dX3_step_166 : decode cX3_step 166 = .ok (.iconst 5, 1) := by decide +kernel
theorem dX3_step_167 : decode cX3_step 167 = .ok (.laload, 1) := by decide +kernel
theorem dX3_step_168 : decode cX3_step 168 = .ok (.lstore 8, 2) := by decide +kernel
theorem dX3_step_170 : decode cX3_step 170 = .ok (.lload 8, 2) := by decide +kernel
theorem dX3_step_172 : decode cX3_step 172 = .ok (.lconst 0, 1) := by decide +kernel
theorem dX3_step_173 : decode cX3_step 173 = .ok (.lcmp, 1) := by decide +kernel
theorem dX3_step_174 : decode cX3_step 174 = .ok (.ifCond .ne 12, 3) := by decide +kernel
theorem dX3_step_177 : decode cX3_step 177 = .ok (.aload_n 0, 1) := by decide +kernel
theorem dX3_step_178 : decode cX3_step 178 = .ok (.getfield 13, 3) := by decide +kernel
theorem dX3_step_181 : decode cX3_step 181 = .ok (.iload_n 1, 1) := by decide +kernel
theorem dX3_step_182 : decode cX3_step 182 = .ok (.daload, 1) := by decide +kernel
theorem dX3_step_183 : decode cX3_step 183 = .ok (.goto 16, 3) := by decide +kernel
theorem dX3_step_186 : decode cX3_step 186 = .ok (.aload_n 0, 1) := by decide +kernel
theorem dX3_step_187 : decode cX3_step 187 = .ok (.getfield 13, 3) := by decide +kernel
theorem dX3_step_190 : decode cX3_step 190 = .ok (.iload_n 1, 1) := by decide +kernel
theorem dX3_step_191 : decode cX3_step 191 = .ok (.daload, 1) := by decide +kernel
theorem dX3_step_192 : decode cX3_step 192 = .ok (.lload_n 2, 1) := by decide +kernel
theorem dX3_step_193 : decode cX3_step 193 = .ok (.l2d, 1) := by decide +kernel
theorem dX3_step_194 : decode cX3_step 194 = .ok (.lload 8, 2) := by decide +kernel
theorem dX3_step_196 : decode cX3_step 196 = .ok (.l2d, 1) := by decide +kernel
theorem dX3_step_197 : decode cX3_step 197 = .ok (.ddiv, 1) := by decide +kernel
theorem dX3_step_198 : decode cX3_step 198 = .ok (.dadd, 1) := by decide +kernel
theorem dX3_step_199 : decode cX3_step 199 = .ok (.invokestatic 117, 3) := by decide +kernel
theorem dX3_step_202 : decode cX3_step 202 = .ok (.dstore 10, 2) := by decide +kernel
theorem dX3_step_204 : decode cX3_step 204 = .ok (.lload 4, 2) := by decide +kernel
theorem dX3_step_206 : decode cX3_step 206 = .ok (.ldc2_w 121, 3) := by decide +kernel
theorem dX3_step_209 : decode cX3_step 209 = .ok (.lsub, 1) := by decide +kernel
theorem dX3_step_210 : decode cX3_step 210 = .ok (.l2d, 1) := by decide +kernel
theorem dX3_step_211 : decode cX3_step 211 = .ok (.ldc2_w 123, 3) := by decide +kernel
theorem dX3_step_214 : decode cX3_step 214 = .ok (.ddiv, 1) := by decide +kernel
theorem dX3_step_215 : decode cX3_step 215 = .ok (.invokestatic 117, 3) := by decide +kernel
theorem dX3_step_218 : decode cX3_step 218 = .ok (.dstore 12, 2) := by decide +kernel
theorem dX3_step_220 : decode cX3_step 220 = .ok (.aload_n 0, 1) := by decide +kernel
theorem dX3_step_221 : decode cX3_step 221 = .ok (.getfield 13, 3) := by decide +kernel
theorem dX3_step_224 : decode cX3_step 224 = .ok (.iload_n 1, 1) := by decide +kernel
theorem dX3_step_225 : decode cX3_step 225 = .ok (.dload 10, 2) := by decide +kernel
theorem dX3_step_227 : decode cX3_step 227 = .ok (.ldc2_w 125, 3) := by decide +kernel
theorem dX3_step_230 : decode cX3_step 230 = .ok (.dload 12, 2) := by decide +kernel
theorem dX3_step_232 : decode cX3_step 232 = .ok (.dload 10, 2) := by decide +kernel
theorem dX3_step_234 : decode cX3_step 234 = .ok (.dsub, 1) := by decide +kernel
theorem dX3_step_235 : decode cX3_step 235 = .ok (.dmul, 1) := by decide +kernel
theorem dX3_step_236 : decode cX3_step 236 = .ok (.dadd, 1) := by decide +kernel
theorem dX3_step_237 : decode cX3_step 237 = .ok (.dastore, 1) := by decide +kernel
theorem dX3_step_238 : decode cX3_step 238 = .ok (.lload 4, 2) := by decide +kernel
theorem dX3_step_240 : decode cX3_step 240 = .ok (.aload_n 0, 1) := by decide +kernel
theorem dX3_step_241 : decode cX3_step 241 = .ok (.getfield 43, 3) := by decide +kernel
theorem dX3_step_244 : decode cX3_step 244 = .ok (.iconst 0, 1) := by decide +kernel
theorem dX3_step_245 : decode cX3_step 245 = .ok (.laload, 1) := by decide +kernel
theorem dX3_step_246 : decode cX3_step 246 = .ok (.lcmp, 1) := by decide +kernel
theorem dX3_step_247 : decode cX3_step 247 = .ok (.ifCond .lt 41, 3) := by decide +kernel
theorem dX3_step_250 : decode cX3_step 250 = .ok (.lload 4, 2) := by decide +kernel
theorem dX3_step_252 : decode cX3_step 252 = .ok (.aload_n 0, 1) := by decide +kernel
theorem dX3_step_253 : decode cX3_step 253 = .ok (.getfield 43, 3) := by decide +kernel
theorem dX3_step_256 : decode cX3_step 256 = .ok (.iconst 1, 1) := by decide +kernel
theorem dX3_step_257 : decode cX3_step 257 = .ok (.laload, 1) := by decide +kernel
theorem dX3_step_258 : decode cX3_step 258 = .ok (.lcmp, 1) := by decide +kernel
theorem dX3_step_259 : decode cX3_step 259 = .ok (.ifCond .gt 29, 3) := by decide +kernel
theorem dX3_step_262 : decode cX3_step 262 = .ok (.lload 6, 2) := by decide +kernel
theorem dX3_step_264 : decode cX3_step 264 = .ok (.aload_n 0, 1) := by decide +kernel
theorem dX3_step_265 : decode cX3_step 265 = .ok (.getfield 43, 3) := by decide +kernel
theorem dX3_step_268 : decode cX3_step 268 = .ok (.iconst 2, 1) := by decide +kernel
theorem dX3_step_269 : decode cX3_step 269 = .ok (.laload, 1) := by decide +kernel
theorem dX3_step_270 : decode cX3_step 270 = .ok (.lcmp, 1) := by decide +kernel
theorem dX3_step_271 : decode cX3_step 271 = .ok (.ifCond .gt 17, 3) := by decide +kernel
theorem dX3_step_274 : decode cX3_step 274 = .ok (.lload_n 2, 1) := by decide +kernel
theorem dX3_step_275 : decode cX3_step 275 = .ok (.invokestatic 89, 3) := by decide +kernel
theorem dX3_step_278 : decode cX3_step 278 = .ok (.aload_n 0, 1) := by decide +kernel
theorem dX3_step_279 : decode cX3_step 279 = .ok (.getfield 43, 3) := by decide +kernel
theorem dX3_step_282 : decode cX3_step 282 = .ok (.iconst 3, 1) := by decide +kernel
theorem dX3_step_283 : decode cX3_step 283 = .ok (.laload, 1) := by decide +kernel
theorem dX3_step_284 : decode cX3_step 284 = .ok (.lcmp, 1) := by decide +kernel
theorem dX3_step_285 : decode cX3_step 285 = .ok (.ifCond .le 7, 3) := by decide +kernel
theorem dX3_step_288 : decode cX3_step 288 = .ok (.iconst 1, 1) := by decide +kernel
theorem dX3_step_289 : decode cX3_step 289 = .ok (.goto 4, 3) := by decide +kernel
theorem dX3_step_292 : decode cX3_step 292 = .ok (.iconst 0, 1) := by decide +kernel
theorem dX3_step_293 : decode cX3_step 293 = .ok (.istore 14, 2) := by decide +kernel
theorem dX3_step_295 : decode cX3_step 295 = .ok (.aload_n 0, 1) := by decide +kernel
theorem dX3_step_296 : decode cX3_step 296 = .ok (.getfield 23, 3) := by decide +kernel
theorem dX3_step_299 : decode cX3_step 299 = .ok (.iload_n 1, 1) := by decide +kernel
theorem dX3_step_300 : decode cX3_step 300 = .ok (.iload 14, 2) := by decide +kernel
theorem dX3_step_302 : decode cX3_step 302 = .ok (.ifCond .eq 14, 3) := by decide +kernel
theorem dX3_step_305 : decode cX3_step 305 = .ok (.aload_n 0, 1) := by decide +kernel
theorem dX3_step_306 : decode cX3_step 306 = .ok (.getfield 23, 3) := by decide +kernel
theorem dX3_step_309 : decode cX3_step 309 = .ok (.iload_n 1, 1) := by decide +kernel
theorem dX3_step_310 : decode cX3_step 310 = .ok (.iaload, 1) := by decide +kernel
theorem dX3_step_311 : decode cX3_step 311 = .ok (.iconst 1, 1) := by decide +kernel
theorem dX3_step_312 : decode cX3_step 312 = .ok (.iadd, 1) := by decide +kernel
theorem dX3_step_313 : decode cX3_step 313 = .ok (.goto 4, 3) := by decide +kernel
theorem dX3_step_316 : decode cX3_step 316 = .ok (.iconst 0, 1) := by decide +kernel
theorem dX3_step_317 : decode cX3_step 317 = .ok (.iastore, 1) := by decide +kernel
theorem dX3_step_318 : decode cX3_step 318 = .ok (.aload_n 0, 1) := by decide +kernel
theorem dX3_step_319 : decode cX3_step 319 = .ok (.getfield 76, 3) := by decide +kernel
theorem dX3_step_322 : decode cX3_step 322 = .ok (.istore 15, 2) := by decide +kernel
theorem dX3_step_324 : decode cX3_step 324 = .ok (.iload 14, 2) := by decide +kernel
theorem dX3_step_326 : decode cX3_step 326 = .ok (.ifCond .eq 19, 3) := by decide +kernel
theorem dX3_step_329 : decode cX3_step 329 = .ok (.aload_n 0, 1) := by decide +kernel
theorem dX3_step_330 : decode cX3_step 330 = .ok (.getfield 23, 3) := by decide +kernel
theorem dX3_step_333 : decode cX3_step 333 = .ok (.iload_n 1, 1) := by decide +kernel
theorem dX3_step_334 : decode cX3_step 334 = .ok (.iaload, 1) := by decide +kernel
theorem dX3_step_335 : decode cX3_step 335 = .ok (.iconst 2, 1) := by decide +kernel
theorem dX3_step_336 : decode cX3_step 336 = .ok (.irem, 1) := by decide +kernel
theorem dX3_step_337 : decode cX3_step 337 = .ok (.ifCond .ne 8, 3) := by decide +kernel
theorem dX3_step_340 : decode cX3_step 340 = .ok (.aload_n 0, 1) := by decide +kernel
theorem dX3_step_341 : decode cX3_step 341 = .ok (.iconst 1, 1) := by decide +kernel
theorem dX3_step_342 : decode cX3_step 342 = .ok (.invokevirtual 127, 3) := by decide +kernel
theorem dX3_step_345 : decode cX3_step 345 = .ok (.aload_n 0, 1) := by decide +kernel
theorem dX3_step_346 : decode cX3_step 346 = .ok (.getfield 7, 3) := by decide +kernel
theorem dX3_step_349 : decode cX3_step 349 = .ok (.iload_n 1, 1) := by decide +kernel
theorem dX3_step_350 : decode cX3_step 350 = .ok (.laload, 1) := by decide +kernel
theorem dX3_step_351 : decode cX3_step 351 = .ok (.lconst 0, 1) := by decide +kernel
theorem dX3_step_352 : decode cX3_step 352 = .ok (.lcmp, 1) := by decide +kernel
theorem dX3_step_353 : decode cX3_step 353 = .ok (.ifCond .lt 15, 3) := by decide +kernel
theorem dX3_step_356 : decode cX3_step 356 = .ok (.aload_n 0, 1) := by decide +kernel
theorem dX3_step_357 : decode cX3_step 357 = .ok (.getfield 7, 3) := by decide +kernel
theorem dX3_step_360 : decode cX3_step 360 = .ok (.iload_n 1, 1) := by decide +kernel
theorem dX3_step_361 : decode cX3_step 361 = .ok (.laload, 1) := by decide +kernel
theorem dX3_step_362 : decode cX3_step 362 = .ok (.lload 8, 2) := by decide +kernel
theorem dX3_step_364 : decode cX3_step 364 = .ok (.lcmp, 1) := by decide +kernel
theorem dX3_step_365 : decode cX3_step 365 = .ok (.ifCond .le 8, 3) := by decide +kernel
theorem dX3_step_368 : decode cX3_step 368 = .ok (.aload_n 0, 1) := by decide +kernel
theorem dX3_step_369 : decode cX3_step 369 = .ok (.iconst 2, 1) := by decide +kernel
theorem dX3_step_370 : decode cX3_step 370 = .ok (.invokevirtual 127, 3) := by decide +kernel
theorem dX3_step_373 : decode cX3_step 373 = .ok (.iload_n 1, 1) := by decide +kernel
theorem dX3_step_374 : decode cX3_step 374 = .ok (.ifCond .ne 13, 3) := by decide +kernel
theorem dX3_step_377 : decode cX3_step 377 = .ok (.aload_n 0, 1) := by decide +kernel
theorem dX3_step_378 : decode cX3_step 378 = .ok (.aload_n 0, 1) := by decide +kernel
theorem dX3_step_379 : decode cX3_step 379 = .ok (.getfield 7, 3) := by decide +kernel
theorem dX3_step_382 : decode cX3_step 382 = .ok (.iconst 0, 1) := by decide +kernel
theorem dX3_step_383 : decode cX3_step 383 = .ok (.laload, 1) := by decide +kernel
theorem dX3_step_384 : decode cX3_step 384 = .ok (.invokevirtual 108, 3) := by decide +kernel
theorem dX3_step_387 : decode cX3_step 387 = .ok (.aload_n 0, 1) := by decide +kernel
theorem dX3_step_388 : decode cX3_step 388 = .ok (.getfield 76, 3) := by decide +kernel
theorem dX3_step_391 : decode cX3_step 391 = .ok (.iload 15, 2) := by decide +kernel
theorem dX3_step_393 : decode cX3_step 393 = .ok (.if_icmp .le 7, 3) := by decide +kernel
theorem dX3_step_396 : decode cX3_step 396 = .ok (.iconst 2, 1) := by decide +kernel
theorem dX3_step_397 : decode cX3_step 397 = .ok (.goto 13, 3) := by decide +kernel
theorem dX3_step_400 : decode cX3_step 400 = .ok (.iload 14, 2) := by decide +kernel
theorem dX3_step_402 : decode cX3_step 402 = .ok (.ifCond .eq 7, 3) := by decide +kernel
theorem dX3_step_405 : decode cX3_step 405 = .ok (.iconst 1, 1) := by decide +kernel
theorem dX3_step_406 : decode cX3_step 406 = .ok (.goto 4, 3) := by decide +kernel
theorem dX3_step_409 : decode cX3_step 409 = .ok (.iconst 0, 1) := by decide +kernel
theorem dX3_step_410 : decode cX3_step 410 = .ok (.ireturn, 1) := by decide +kernel
set_option maxRecDepth 20000 in
theorem ggX3_charge_X3_noCell : GoodIn wsX3_charge wsX3_noCell := goodIn_r _ [7, 8, 9, 10, 11, 12, 13, 14, 15, 16, 17, 18, 19, 20, 21, 22, 23, 24, 25, 26, 27, 28] (by decide +kernel) (by decide +kernel)
set_option maxRecDepth 20000 in
theorem gX3_charge_X3_noCell : GoodIn wsX3_charge (wsV RX3 104 RX3 yX3_noCell wsX3_noCell) := goodIn_app (goodIn_of _ (by decide +kernel)) ggX3_charge_X3_noCell
theorem dX3_charge_0 : decode cX3_charge 0 = .ok (.aload_n 0, 1) := by decide +kernel
theorem dX3_charge_1 : decode cX3_charge 1 = .ok (.iconst 0, 1) := by decide +kernel
theorem dX3_charge_2 : decode cX3_charge 2 = .ok (.putfield 73, 3) := by decide +kernel
theorem dX3_charge_5 : decode cX3_charge 5 = .ok (.aload_n 0, 1) := by decide +kernel
theorem dX3_charge_6 : decode cX3_charge 6 = .ok (.iload_n 1, 1) := by decide +kernel
theorem dX3_charge_7 : decode cX3_charge 7 = .ok (.invokevirtual 104, 3) := by decide +kernel
theorem dX3_charge_10 : decode cX3_charge 10 = .ok (.ifCond .eq 7, 3) := by decide +kernel
theorem dX3_charge_13 : decode cX3_charge 13 = .ok (.lconst 0, 1) := by decide +kernel
theorem dX3_charge_14 : decode cX3_charge 14 = .ok (.goto 9, 3) := by decide +kernel
theorem dX3_charge_17 : decode cX3_charge 17 = .ok (.aload_n 0, 1) := by decide +kernel
theorem dX3_charge_18 : decode cX3_charge 18 = .ok (.getfield 7, 3) := by decide +kernel
theorem dX3_charge_21 : decode cX3_charge 21 = .ok (.iload_n 1, 1) := by decide +kernel
theorem dX3_charge_22 : decode cX3_charge 22 = .ok (.laload, 1) := by decide +kernel
theorem dX3_charge_23 : decode cX3_charge 23 = .ok (.lreturn, 1) := by decide +kernel
set_option maxRecDepth 20000 in
theorem ggX3_share_X3_noCell : GoodIn wsX3_share wsX3_noCell := goodIn_r _ [7, 8, 9, 10, 11, 12, 13, 14, 15, 16, 17, 18, 19, 20, 21, 22, 23, 24, 25, 26, 27, 28] (by decide +kernel) (by decide +kernel)
set_option maxRecDepth 20000 in
theorem gX3_share_X3_noCell : GoodIn wsX3_share (wsV RX3 104 RX3 yX3_noCell wsX3_noCell) := goodIn_app (goodIn_of _ (by decide +kernel)) ggX3_share_X3_noCell
theorem dX3_share_0 : decode cX3_share 0 = .ok (.aload_n 0, 1) := by decide +kernel
theorem dX3_share_1 : decode cX3_share 1 = .ok (.iconst 0, 1) := by decide +kernel
theorem dX3_share_2 : decode cX3_share 2 = .ok (.putfield 73, 3) := by decide +kernel
theorem dX3_share_5 : decode cX3_share 5 = .ok (.aload_n 0, 1) := by decide +kernel
theorem dX3_share_6 : decode cX3_share 6 = .ok (.iload_n 1, 1) := by decide +kernel
theorem dX3_share_7 : decode cX3_share 7 = .ok (.invokevirtual 104, 3) := by decide +kernel
theorem dX3_share_10 : decode cX3_share 10 = .ok (.ifCond .eq 7, 3) := by decide +kernel
theorem dX3_share_13 : decode cX3_share 13 = .ok (.dconst 0, 1) := by decide +kernel
theorem dX3_share_14 : decode cX3_share 14 = .ok (.goto 9, 3) := by decide +kernel
theorem dX3_share_17 : decode cX3_share 17 = .ok (.aload_n 0, 1) := by decide +kernel
theorem dX3_share_18 : decode cX3_share 18 = .ok (.getfield 13, 3) := by decide +kernel
theorem dX3_share_21 : decode cX3_share 21 = .ok (.iload_n 1, 1) := by decide +kernel
theorem dX3_share_22 : decode cX3_share 22 = .ok (.daload, 1) := by decide +kernel
theorem dX3_share_23 : decode cX3_share 23 = .ok (.dreturn, 1) := by decide +kernel
set_option maxRecDepth 20000 in
theorem ggX3_whole_X3_noCell : GoodIn wsX3_whole wsX3_noCell := goodIn_r _ [8, 9, 13, 14, 15, 16, 17, 18, 19, 20, 21, 22, 23, 24, 25, 26, 27, 28, 29, 30, 31, 32] (by decide +kernel) (by decide +kernel)
set_option maxRecDepth 20000 in
theorem gX3_whole_X3_noCell : GoodIn wsX3_whole (wsV RX3 104 RX3 yX3_noCell wsX3_noCell) := goodIn_app (goodIn_of _ (by decide +kernel)) ggX3_whole_X3_noCell
set_option maxRecDepth 20000 in
theorem ggX3_whole_X3_size : GoodIn wsX3_whole wsX3_size := goodIn_r _ [12] (by decide +kernel) (by decide +kernel)
set_option maxRecDepth 20000 in
theorem gX3_whole_X3_size : GoodIn wsX3_whole (va_wsS RX3 89 yX3_size wsX3_size) := goodIn_app (goodIn_of _ (by decide +kernel)) ggX3_whole_X3_size
theorem dX3_whole_0 : decode cX3_whole 0 = .ok (.aload_n 0, 1) := by decide +kernel
theorem dX3_whole_1 : decode cX3_whole 1 = .ok (.iconst 0, 1) := by decide +kernel
theorem dX3_whole_2 : decode cX3_whole 2 = .ok (.putfield 73, 3) := by decide +kernel
theorem dX3_whole_5 : decode cX3_whole 5 = .ok (.aload_n 0, 1) := by decide +kernel
theorem dX3_whole_6 : decode cX3_whole 6 = .ok (.iload_n 1, 1) := by decide +kernel
theorem dX3_whole_7 : decode cX3_whole 7 = .ok (.invokevirtual 104, 3) := by decide +kernel
theorem dX3_whole_10 : decode cX3_whole 10 = .ok (.ifCond .eq 5, 3) := by decide +kernel
theorem dX3_whole_13 : decode cX3_whole 13 = .ok (.lconst 0, 1) := by decide +kernel
theorem dX3_whole_14 : decode cX3_whole 14 = .ok (.lreturn, 1) := by decide +kernel
theorem dX3_whole_15 : decode cX3_whole 15 = .ok (.aload_n 0, 1) := by decide +kernel
theorem dX3_whole_16 : decode cX3_whole 16 = .ok (.aload_n 0, 1) := by decide +kernel
theorem dX3_whole_17 : decode cX3_whole 17 = .ok (.getfield 43, 3) := by decide +kernel
theorem dX3_whole_20 : decode cX3_whole 20 = .ok (.iconst 5, 1) := by decide +kernel
theorem dX3_whole_21 : decode cX3_whole 21 = .ok (.laload, 1) := by decide +kernel
theorem dX3_whole_22 : decode cX3_whole 22 = .ok (.lconst 0, 1) := by decide +kernel
theorem dX3_whole_23 : decode cX3_whole 23 = .ok (.lcmp, 1) := by decide +kernel
theorem dX3_whole_24 : decode cX3_whole 24 = .ok (.ifCond .ne 7, 3) := by decide +kernel
theorem dX3_whole_27 : decode cX3_whole 27 = .ok (.iconst 1, 1) := by decide +kernel
theorem dX3_whole_28 : decode cX3_whole 28 = .ok (.goto 4, 3) := by decide +kernel
theorem dX3_whole_31 : decode cX3_whole 31 = .ok (.iconst 0, 1) := by decide +kernel
theorem dX3_whole_32 : decode cX3_whole 32 = .ok (.putfield 73, 3) := by decide +kernel
theorem dX3_whole_35 : decode cX3_whole 35 = .ok (.aload_n 0, 1) := by decide +kernel
theorem dX3_whole_36 : decode cX3_whole 36 = .ok (.getfield 73, 3) := by decide +kernel
theorem dX3_whole_39 : decode cX3_whole 39 = .ok (.ifCond .le 5, 3) := by decide +kernel
theorem dX3_whole_42 : decode cX3_whole 42 = .ok (.lconst 0, 1) := by decide +kernel
theorem dX3_whole_43 : decode cX3_whole 43 = .ok (.lreturn, 1) := by decide +kernel
theorem dX3_whole_44 : decode cX3_whole 44 = .ok (.aload_n 0, 1) := by decide +kernel
theorem dX3_whole_45 : decode cX3_whole 45 = .ok (.getfield 7, 3) := by decide +kernel
theorem dX3_whole_48 : decode cX3_whole 48 = .ok (.iload_n 1, 1) := by decide +kernel
theorem dX3_whole_49 : decode cX3_whole 49 = .ok (.laload, 1) := by decide +kernel
theorem dX3_whole_50 : decode cX3_whole 50 = .ok (.invokestatic 89, 3) := by decide +kernel
theorem dX3_whole_53 : decode cX3_whole 53 = .ok (.lstore_n 3, 1) := by decide +kernel
theorem dX3_whole_54 : decode cX3_whole 54 = .ok (.aload_n 0, 1) := by decide +kernel
theorem dX3_whole_55 : decode cX3_whole 55 = .ok (.getfield 43, 3) := by decide +kernel
theorem dX3_whole_58 : decode cX3_whole 58 = .ok (.iconst 5, 1) := by decide +kernel
theorem dX3_whole_59 : decode cX3_whole 59 = .ok (.laload, 1) := by decide +kernel
theorem dX3_whole_60 : decode cX3_whole 60 = .ok (.lstore 5, 2) := by decide +kernel
theorem dX3_whole_62 : decode cX3_whole 62 = .ok (.lload 5, 2) := by decide +kernel
theorem dX3_whole_64 : decode cX3_whole 64 = .ok (.lconst 0, 1) := by decide +kernel
theorem dX3_whole_65 : decode cX3_whole 65 = .ok (.lcmp, 1) := by decide +kernel
theorem dX3_whole_66 : decode cX3_whole 66 = .ok (.ifCond .eq 19, 3) := by decide +kernel
theorem dX3_whole_69 : decode cX3_whole 69 = .ok (.lload_n 3, 1) := by decide +kernel
theorem dX3_whole_70 : decode cX3_whole 70 = .ok (.lload 5, 2) := by decide +kernel
theorem dX3_whole_72 : decode cX3_whole 72 = .ok (.lrem, 1) := by decide +kernel
theorem dX3_whole_73 : decode cX3_whole 73 = .ok (.lstore 7, 2) := by decide +kernel
theorem dX3_whole_75 : decode cX3_whole 75 = .ok (.lload 5, 2) := by decide +kernel
theorem dX3_whole_77 : decode cX3_whole 77 = .ok (.lstore_n 3, 1) := by decide +kernel
theorem dX3_whole_78 : decode cX3_whole 78 = .ok (.lload 7, 2) := by decide +kernel
theorem dX3_whole_80 : decode cX3_whole 80 = .ok (.lstore 5, 2) := by decide +kernel
theorem dX3_whole_82 : decode cX3_whole 82 = .ok (.goto (-20), 3) := by decide +kernel
theorem dX3_whole_85 : decode cX3_whole 85 = .ok (.iload_n 2, 1) := by decide +kernel
theorem dX3_whole_86 : decode cX3_whole 86 = .ok (.ifCond .ne 14, 3) := by decide +kernel
theorem dX3_whole_89 : decode cX3_whole 89 = .ok (.aload_n 0, 1) := by decide +kernel
theorem dX3_whole_90 : decode cX3_whole 90 = .ok (.getfield 7, 3) := by decide +kernel
theorem dX3_whole_93 : decode cX3_whole 93 = .ok (.iload_n 1, 1) := by decide +kernel
theorem dX3_whole_94 : decode cX3_whole 94 = .ok (.laload, 1) := by decide +kernel
theorem dX3_whole_95 : decode cX3_whole 95 = .ok (.lload_n 3, 1) := by decide +kernel
theorem dX3_whole_96 : decode cX3_whole 96 = .ok (.ldiv, 1) := by decide +kernel
theorem dX3_whole_97 : decode cX3_whole 97 = .ok (.goto 11, 3) := by decide +kernel
theorem dX3_whole_100 : decode cX3_whole 100 = .ok (.aload_n 0, 1) := by decide +kernel
theorem dX3_whole_101 : decode cX3_whole 101 = .ok (.getfield 43, 3) := by decide +kernel
theorem dX3_whole_104 : decode cX3_whole 104 = .ok (.iconst 5, 1) := by decide +kernel
theorem dX3_whole_105 : decode cX3_whole 105 = .ok (.laload, 1) := by decide +kernel
theorem dX3_whole_106 : decode cX3_whole 106 = .ok (.lload_n 3, 1) := by decide +kernel
theorem dX3_whole_107 : decode cX3_whole 107 = .ok (.ldiv, 1) := by decide +kernel
theorem dX3_whole_108 : decode cX3_whole 108 = .ok (.lreturn, 1) := by decide +kernel
set_option maxRecDepth 20000 in
theorem ggX3_contactor_X3_fails : GoodIn wsX3_contactor wsX3_fails := goodIn_r _ [10, 11, 12, 2, 13, 14, 15, 16, 17, 18, 19, 20, 21, 22, 23, 24, 25, 26, 27, 28, 29, 30, 31, 32] (by decide +kernel) (by decide +kernel)
set_option maxRecDepth 20000 in
theorem gX3_contactor_X3_fails : GoodIn wsX3_contactor (wsV RX3 127 RX3 yX3_fails wsX3_fails) := goodIn_app (goodIn_of _ (by decide +kernel)) ggX3_contactor_X3_fails
theorem dX3_contactor_0 : decode cX3_contactor 0 = .ok (.aload_n 0, 1) := by decide +kernel
theorem dX3_contactor_1 : decode cX3_contactor 1 = .ok (.iconst 0, 1) := by decide +kernel
theorem dX3_contactor_2 : decode cX3_contactor 2 = .ok (.putfield 73, 3) := by decide +kernel
theorem dX3_contactor_5 : decode cX3_contactor 5 = .ok (.iload_n 1, 1) := by decide +kernel
theorem dX3_contactor_6 : decode cX3_contactor 6 = .ok (.ifCond .ne 10, 3) := by decide +kernel
theorem dX3_contactor_9 : decode cX3_contactor 9 = .ok (.aload_n 0, 1) := by decide +kernel
theorem dX3_contactor_10 : decode cX3_contactor 10 = .ok (.iconst 0, 1) := by decide +kernel
theorem dX3_contactor_11 : decode cX3_contactor 11 = .ok (.putfield 79, 3) := by decide +kernel
theorem dX3_contactor_14 : decode cX3_contactor 14 = .ok (.iconst 0, 1) := by decide +kernel
theorem dX3_contactor_15 : decode cX3_contactor 15 = .ok (.ireturn, 1) := by decide +kernel
theorem dX3_contactor_16 : decode cX3_contactor 16 = .ok (.aload_n 0, 1) := by decide +kernel
theorem dX3_contactor_17 : decode cX3_contactor 17 = .ok (.getfield 79, 3) := by decide +kernel
theorem dX3_contactor_20 : decode cX3_contactor 20 = .ok (.iconst 3, 1) := by decide +kernel
theorem dX3_contactor_21 : decode cX3_contactor 21 = .ok (.if_icmp .eq 24, 3) := by decide +kernel
theorem dX3_contactor_24 : decode cX3_contactor 24 = .ok (.aload_n 0, 1) := by decide +kernel
theorem dX3_contactor_25 : decode cX3_contactor 25 = .ok (.getfield 79, 3) := by decide +kernel
theorem dX3_contactor_28 : decode cX3_contactor 28 = .ok (.iconst 2, 1) := by decide +kernel
theorem dX3_contactor_29 : decode cX3_contactor 29 = .ok (.if_icmp .ne 19, 3) := by decide +kernel
theorem dX3_contactor_32 : decode cX3_contactor 32 = .ok (.aload_n 0, 1) := by decide +kernel
theorem dX3_contactor_33 : decode cX3_contactor 33 = .ok (.getfield 112, 3) := by decide +kernel
theorem dX3_contactor_36 : decode cX3_contactor 36 = .ok (.aload_n 0, 1) := by decide +kernel
theorem dX3_contactor_37 : decode cX3_contactor 37 = .ok (.getfield 131, 3) := by decide +kernel
theorem dX3_contactor_40 : decode cX3_contactor 40 = .ok (.isub, 1) := by decide +kernel
theorem dX3_contactor_41 : decode cX3_contactor 41 = .ok (.iconst 3, 1) := by decide +kernel
theorem dX3_contactor_42 : decode cX3_contactor 42 = .ok (.if_icmp .ge 6, 3) := by decide +kernel
theorem dX3_contactor_45 : decode cX3_contactor 45 = .ok (.bipush (-3), 2) := by decide +kernel
theorem dX3_contactor_47 : decode cX3_contactor 47 = .ok (.ireturn, 1) := by decide +kernel
theorem dX3_contactor_48 : decode cX3_contactor 48 = .ok (.aload_n 0, 1) := by decide +kernel
theorem dX3_contactor_49 : decode cX3_contactor 49 = .ok (.getfield 79, 3) := by decide +kernel
theorem dX3_contactor_52 : decode cX3_contactor 52 = .ok (.iconst 2, 1) := by decide +kernel
theorem dX3_contactor_53 : decode cX3_contactor 53 = .ok (.if_icmp .ne 25, 3) := by decide +kernel
theorem dX3_contactor_56 : decode cX3_contactor 56 = .ok (.aload_n 0, 1) := by decide +kernel
theorem dX3_contactor_57 : decode cX3_contactor 57 = .ok (.getfield 112, 3) := by decide +kernel
theorem dX3_contactor_60 : decode cX3_contactor 60 = .ok (.aload_n 0, 1) := by decide +kernel
theorem dX3_contactor_61 : decode cX3_contactor 61 = .ok (.getfield 131, 3) := by decide +kernel
theorem dX3_contactor_64 : decode cX3_contactor 64 = .ok (.isub, 1) := by decide +kernel
theorem dX3_contactor_65 : decode cX3_contactor 65 = .ok (.bipush 20, 2) := by decide +kernel
theorem dX3_contactor_67 : decode cX3_contactor 67 = .ok (.if_icmp .lt 11, 3) := by decide +kernel
theorem dX3_contactor_70 : decode cX3_contactor 70 = .ok (.aload_n 0, 1) := by decide +kernel
theorem dX3_contactor_71 : decode cX3_contactor 71 = .ok (.iconst 3, 1) := by decide +kernel
theorem dX3_contactor_72 : decode cX3_contactor 72 = .ok (.invokevirtual 127, 3) := by decide +kernel
theorem dX3_contactor_75 : decode cX3_contactor 75 = .ok (.goto 56, 3) := by decide +kernel
theorem dX3_contactor_78 : decode cX3_contactor 78 = .ok (.aload_n 0, 1) := by decide +kernel
theorem dX3_contactor_79 : decode cX3_contactor 79 = .ok (.getfield 46, 3) := by decide +kernel
theorem dX3_contactor_82 : decode cX3_contactor 82 = .ok (.aload_n 0, 1) := by decide +kernel
theorem dX3_contactor_83 : decode cX3_contactor 83 = .ok (.getfield 79, 3) := by decide +kernel
theorem dX3_contactor_86 : decode cX3_contactor 86 = .ok (.baload, 1) := by decide +kernel
theorem dX3_contactor_87 : decode cX3_contactor 87 = .ok (.ifCond .eq 11, 3) := by decide +kernel
theorem dX3_contactor_90 : decode cX3_contactor 90 = .ok (.aload_n 0, 1) := by decide +kernel
theorem dX3_contactor_91 : decode cX3_contactor 91 = .ok (.iconst 4, 1) := by decide +kernel
theorem dX3_contactor_92 : decode cX3_contactor 92 = .ok (.invokevirtual 127, 3) := by decide +kernel
theorem dX3_contactor_95 : decode cX3_contactor 95 = .ok (.goto 36, 3) := by decide +kernel
theorem dX3_contactor_98 : decode cX3_contactor 98 = .ok (.aload_n 0, 1) := by decide +kernel
theorem dX3_contactor_99 : decode cX3_contactor 99 = .ok (.dup, 1) := by decide +kernel
theorem dX3_contactor_100 : decode cX3_contactor 100 = .ok (.getfield 79, 3) := by decide +kernel
theorem dX3_contactor_103 : decode cX3_contactor 103 = .ok (.iconst 1, 1) := by decide +kernel
theorem dX3_contactor_104 : decode cX3_contactor 104 = .ok (.iadd, 1) := by decide +kernel
theorem dX3_contactor_105 : decode cX3_contactor 105 = .ok (.putfield 79, 3) := by decide +kernel
theorem dX3_contactor_108 : decode cX3_contactor 108 = .ok (.aload_n 0, 1) := by decide +kernel
theorem dX3_contactor_109 : decode cX3_contactor 109 = .ok (.aload_n 0, 1) := by decide +kernel
theorem dX3_contactor_110 : decode cX3_contactor 110 = .ok (.getfield 79, 3) := by decide +kernel
theorem dX3_contactor_113 : decode cX3_contactor 113 = .ok (.iconst 2, 1) := by decide +kernel
theorem dX3_contactor_114 : decode cX3_contactor 114 = .ok (.if_icmp .ne 10, 3) := by decide +kernel
theorem dX3_contactor_117 : decode cX3_contactor 117 = .ok (.aload_n 0, 1) := by decide +kernel
theorem dX3_contactor_118 : decode cX3_contactor 118 = .ok (.getfield 112, 3) := by decide +kernel
theorem dX3_contactor_121 : decode cX3_contactor 121 = .ok (.goto 7, 3) := by decide +kernel
theorem dX3_contactor_124 : decode cX3_contactor 124 = .ok (.aload_n 0, 1) := by decide +kernel
theorem dX3_contactor_125 : decode cX3_contactor 125 = .ok (.getfield 131, 3) := by decide +kernel
theorem dX3_contactor_128 : decode cX3_contactor 128 = .ok (.putfield 131, 3) := by decide +kernel
theorem dX3_contactor_131 : decode cX3_contactor 131 = .ok (.aload_n 0, 1) := by decide +kernel
theorem dX3_contactor_132 : decode cX3_contactor 132 = .ok (.getfield 79, 3) := by decide +kernel
theorem dX3_contactor_135 : decode cX3_contactor 135 = .ok (.ireturn, 1) := by decide +kernel
theorem dX3_leastVolt_0 : decode cX3_leastVolt 0 = .ok (.aload_n 0, 1) := by decide +kernel
theorem dX3_leastVolt_1 : decode cX3_leastVolt 1 = .ok (.getfield 17, 3) := by decide +kernel
theorem dX3_leastVolt_4 : decode cX3_leastVolt 4 = .ok (.iconst 0, 1) := by decide +kernel
theorem dX3_leastVolt_5 : decode cX3_leastVolt 5 = .ok (.laload, 1) := by decide +kernel
theorem dX3_leastVolt_6 : decode cX3_leastVolt 6 = .ok (.lstore_n 1, 1) := by decide +kernel
theorem dX3_leastVolt_7 : decode cX3_leastVolt 7 = .ok (.iconst 1, 1) := by decide +kernel
theorem dX3_leastVolt_8 : decode cX3_leastVolt 8 = .ok (.istore_n 3, 1) := by decide +kernel
theorem dX3_leastVolt_9 : decode cX3_leastVolt 9 = .ok (.iload_n 3, 1) := by decide +kernel
theorem dX3_leastVolt_10 : decode cX3_leastVolt 10 = .ok (.aload_n 0, 1) := by decide +kernel
theorem dX3_leastVolt_11 : decode cX3_leastVolt 11 = .ok (.getfield 61, 3) := by decide +kernel
theorem dX3_leastVolt_14 : decode cX3_leastVolt 14 = .ok (.if_icmp .ge 31, 3) := by decide +kernel
theorem dX3_leastVolt_17 : decode cX3_leastVolt 17 = .ok (.aload_n 0, 1) := by decide +kernel
theorem dX3_leastVolt_18 : decode cX3_leastVolt 18 = .ok (.getfield 17, 3) := by decide +kernel
theorem dX3_leastVolt_21 : decode cX3_leastVolt 21 = .ok (.iload_n 3, 1) := by decide +kernel
theorem dX3_leastVolt_22 : decode cX3_leastVolt 22 = .ok (.laload, 1) := by decide +kernel
theorem dX3_leastVolt_23 : decode cX3_leastVolt 23 = .ok (.lload_n 1, 1) := by decide +kernel
theorem dX3_leastVolt_24 : decode cX3_leastVolt 24 = .ok (.lcmp, 1) := by decide +kernel
theorem dX3_leastVolt_25 : decode cX3_leastVolt 25 = .ok (.ifCond .ge 12, 3) := by decide +kernel
theorem dX3_leastVolt_28 : decode cX3_leastVolt 28 = .ok (.aload_n 0, 1) := by decide +kernel
theorem dX3_leastVolt_29 : decode cX3_leastVolt 29 = .ok (.getfield 17, 3) := by decide +kernel
theorem dX3_leastVolt_32 : decode cX3_leastVolt 32 = .ok (.iload_n 3, 1) := by decide +kernel
theorem dX3_leastVolt_33 : decode cX3_leastVolt 33 = .ok (.laload, 1) := by decide +kernel
theorem dX3_leastVolt_34 : decode cX3_leastVolt 34 = .ok (.goto 4, 3) := by decide +kernel
theorem dX3_leastVolt_37 : decode cX3_leastVolt 37 = .ok (.lload_n 1, 1) := by decide +kernel
theorem dX3_leastVolt_38 : decode cX3_leastVolt 38 = .ok (.lstore_n 1, 1) := by decide +kernel
theorem dX3_leastVolt_39 : decode cX3_leastVolt 39 = .ok (.iinc 3 1, 3) := by decide +kernel
theorem dX3_leastVolt_42 : decode cX3_leastVolt 42 = .ok (.goto (-33), 3) := by decide +kernel
theorem dX3_leastVolt_45 : decode cX3_leastVolt 45 = .ok (.lload_n 1, 1) := by decide +kernel
theorem dX3_leastVolt_46 : decode cX3_leastVolt 46 = .ok (.lreturn, 1) := by decide +kernel
set_option maxRecDepth 20000 in
theorem ggX3_bleed_X3_noCell : GoodIn wsX3_bleed wsX3_noCell := goodIn_r _ [12, 7, 17, 18, 19, 20, 21, 22, 23, 24, 25, 26, 27, 28, 29, 30, 31, 32, 33, 34, 35, 36] (by decide +kernel) (by decide +kernel)
set_option maxRecDepth 20000 in
theorem gX3_bleed_X3_noCell : GoodIn wsX3_bleed (wsV RX3 104 RX3 yX3_noCell wsX3_noCell) := goodIn_app (goodIn_of _ (by decide +kernel)) ggX3_bleed_X3_noCell
set_option maxRecDepth 20000 in
theorem ggX3_bleed_X3_leastVolt : GoodIn wsX3_bleed wsX3_leastVolt := goodIn_r _ [16, 5, 7, 17, 18, 19, 20, 21, 22, 23, 24, 25, 26, 27, 28, 29, 30, 31, 32, 33, 34, 35, 36] (by decide +kernel) (by decide +kernel)
set_option maxRecDepth 20000 in
theorem gX3_bleed_X3_leastVolt : GoodIn wsX3_bleed (wsV RX3 134 RX3 yX3_leastVolt wsX3_leastVolt) := goodIn_app (goodIn_of _ (by decide +kernel)) ggX3_bleed_X3_leastVolt
theorem dX3_bleed_0 : decode cX3_bleed 0 = .ok (.aload_n 0, 1) := by decide +kernel
theorem dX3_bleed_1 : decode cX3_bleed 1 = .ok (.iconst 0, 1) := by decide +kernel
theorem dX3_bleed_2 : decode cX3_bleed 2 = .ok (.putfield 73, 3) := by decide +kernel
theorem dX3_bleed_5 : decode cX3_bleed 5 = .ok (.aload_n 0, 1) := by decide +kernel
theorem dX3_bleed_6 : decode cX3_bleed 6 = .ok (.iload_n 1, 1) := by decide +kernel
theorem dX3_bleed_7 : decode cX3_bleed 7 = .ok (.invokevirtual 104, 3) := by decide +kernel
theorem dX3_bleed_10 : decode cX3_bleed 10 = .ok (.ifCond .eq 5, 3) := by decide +kernel
theorem dX3_bleed_13 : decode cX3_bleed 13 = .ok (.iconst (-1), 1) := by decide +kernel
theorem dX3_bleed_14 : decode cX3_bleed 14 = .ok (.ireturn, 1) := by decide +kernel
theorem dX3_bleed_15 : decode cX3_bleed 15 = .ok (.aload_n 0, 1) := by decide +kernel
theorem dX3_bleed_16 : decode cX3_bleed 16 = .ok (.getfield 27, 3) := by decide +kernel
theorem dX3_bleed_19 : decode cX3_bleed 19 = .ok (.iload_n 1, 1) := by decide +kernel
theorem dX3_bleed_20 : decode cX3_bleed 20 = .ok (.baload, 1) := by decide +kernel
theorem dX3_bleed_21 : decode cX3_bleed 21 = .ok (.ifCond .ne 40, 3) := by decide +kernel
theorem dX3_bleed_24 : decode cX3_bleed 24 = .ok (.aload_n 0, 1) := by decide +kernel
theorem dX3_bleed_25 : decode cX3_bleed 25 = .ok (.getfield 7, 3) := by decide +kernel
theorem dX3_bleed_28 : decode cX3_bleed 28 = .ok (.iload_n 1, 1) := by decide +kernel
theorem dX3_bleed_29 : decode cX3_bleed 29 = .ok (.laload, 1) := by decide +kernel
theorem dX3_bleed_30 : decode cX3_bleed 30 = .ok (.aload_n 0, 1) := by decide +kernel
theorem dX3_bleed_31 : decode cX3_bleed 31 = .ok (.getfield 43, 3) := by decide +kernel
theorem dX3_bleed_34 : decode cX3_bleed 34 = .ok (.iconst 4, 1) := by decide +kernel
theorem dX3_bleed_35 : decode cX3_bleed 35 = .ok (.laload, 1) := by decide +kernel
theorem dX3_bleed_36 : decode cX3_bleed 36 = .ok (.lcmp, 1) := by decide +kernel
theorem dX3_bleed_37 : decode cX3_bleed 37 = .ok (.ifCond .lt 21, 3) := by decide +kernel
theorem dX3_bleed_40 : decode cX3_bleed 40 = .ok (.aload_n 0, 1) := by decide +kernel
theorem dX3_bleed_41 : decode cX3_bleed 41 = .ok (.getfield 17, 3) := by decide +kernel
theorem dX3_bleed_44 : decode cX3_bleed 44 = .ok (.iload_n 1, 1) := by decide +kernel
theorem dX3_bleed_45 : decode cX3_bleed 45 = .ok (.laload, 1) := by decide +kernel
theorem dX3_bleed_46 : decode cX3_bleed 46 = .ok (.aload_n 0, 1) := by decide +kernel
theorem dX3_bleed_47 : decode cX3_bleed 47 = .ok (.invokevirtual 134, 3) := by decide +kernel
theorem dX3_bleed_50 : decode cX3_bleed 50 = .ok (.ldc2_w 138, 3) := by decide +kernel
theorem dX3_bleed_53 : decode cX3_bleed 53 = .ok (.ladd, 1) := by decide +kernel
theorem dX3_bleed_54 : decode cX3_bleed 54 = .ok (.lcmp, 1) := by decide +kernel
theorem dX3_bleed_55 : decode cX3_bleed 55 = .ok (.ifCond .ge 6, 3) := by decide +kernel
theorem dX3_bleed_58 : decode cX3_bleed 58 = .ok (.bipush (-3), 2) := by decide +kernel
theorem dX3_bleed_60 : decode cX3_bleed 60 = .ok (.ireturn, 1) := by decide +kernel
theorem dX3_bleed_61 : decode cX3_bleed 61 = .ok (.aload_n 0, 1) := by decide +kernel
theorem dX3_bleed_62 : decode cX3_bleed 62 = .ok (.getfield 27, 3) := by decide +kernel
theorem dX3_bleed_65 : decode cX3_bleed 65 = .ok (.iload_n 1, 1) := by decide +kernel
theorem dX3_bleed_66 : decode cX3_bleed 66 = .ok (.aload_n 0, 1) := by decide +kernel
theorem dX3_bleed_67 : decode cX3_bleed 67 = .ok (.getfield 27, 3) := by decide +kernel
theorem dX3_bleed_70 : decode cX3_bleed 70 = .ok (.iload_n 1, 1) := by decide +kernel
theorem dX3_bleed_71 : decode cX3_bleed 71 = .ok (.baload, 1) := by decide +kernel
theorem dX3_bleed_72 : decode cX3_bleed 72 = .ok (.ifCond .ne 7, 3) := by decide +kernel
theorem dX3_bleed_75 : decode cX3_bleed 75 = .ok (.iconst 1, 1) := by decide +kernel
theorem dX3_bleed_76 : decode cX3_bleed 76 = .ok (.goto 4, 3) := by decide +kernel
theorem dX3_bleed_79 : decode cX3_bleed 79 = .ok (.iconst 0, 1) := by decide +kernel
theorem dX3_bleed_80 : decode cX3_bleed 80 = .ok (.bastore, 1) := by decide +kernel
theorem dX3_bleed_81 : decode cX3_bleed 81 = .ok (.iconst 0, 1) := by decide +kernel
theorem dX3_bleed_82 : decode cX3_bleed 82 = .ok (.istore_n 2, 1) := by decide +kernel
theorem dX3_bleed_83 : decode cX3_bleed 83 = .ok (.iconst 0, 1) := by decide +kernel
theorem dX3_bleed_84 : decode cX3_bleed 84 = .ok (.istore_n 3, 1) := by decide +kernel
theorem dX3_bleed_85 : decode cX3_bleed 85 = .ok (.iload_n 3, 1) := by decide +kernel
theorem dX3_bleed_86 : decode cX3_bleed 86 = .ok (.aload_n 0, 1) := by decide +kernel
theorem dX3_bleed_87 : decode cX3_bleed 87 = .ok (.getfield 61, 3) := by decide +kernel
theorem dX3_bleed_90 : decode cX3_bleed 90 = .ok (.if_icmp .ge 26, 3) := by decide +kernel
theorem dX3_bleed_93 : decode cX3_bleed 93 = .ok (.aload_n 0, 1) := by decide +kernel
theorem dX3_bleed_94 : decode cX3_bleed 94 = .ok (.getfield 27, 3) := by decide +kernel
theorem dX3_bleed_97 : decode cX3_bleed 97 = .ok (.iload_n 3, 1) := by decide +kernel
theorem dX3_bleed_98 : decode cX3_bleed 98 = .ok (.baload, 1) := by decide +kernel
theorem dX3_bleed_99 : decode cX3_bleed 99 = .ok (.ifCond .eq 9, 3) := by decide +kernel
theorem dX3_bleed_102 : decode cX3_bleed 102 = .ok (.iload_n 2, 1) := by decide +kernel
theorem dX3_bleed_103 : decode cX3_bleed 103 = .ok (.iconst 1, 1) := by decide +kernel
theorem dX3_bleed_104 : decode cX3_bleed 104 = .ok (.iadd, 1) := by decide +kernel
theorem dX3_bleed_105 : decode cX3_bleed 105 = .ok (.goto 4, 3) := by decide +kernel
theorem dX3_bleed_108 : decode cX3_bleed 108 = .ok (.iload_n 2, 1) := by decide +kernel
theorem dX3_bleed_109 : decode cX3_bleed 109 = .ok (.istore_n 2, 1) := by decide +kernel
theorem dX3_bleed_110 : decode cX3_bleed 110 = .ok (.iinc 3 1, 3) := by decide +kernel
theorem dX3_bleed_113 : decode cX3_bleed 113 = .ok (.goto (-28), 3) := by decide +kernel
theorem dX3_bleed_116 : decode cX3_bleed 116 = .ok (.iload_n 2, 1) := by decide +kernel
theorem dX3_bleed_117 : decode cX3_bleed 117 = .ok (.ireturn, 1) := by decide +kernel
theorem dX3_limit_0 : decode cX3_limit 0 = .ok (.aload_n 0, 1) := by decide +kernel
theorem dX3_limit_1 : decode cX3_limit 1 = .ok (.iconst 0, 1) := by decide +kernel
theorem dX3_limit_2 : decode cX3_limit 2 = .ok (.putfield 73, 3) := by decide +kernel
theorem dX3_limit_5 : decode cX3_limit 5 = .ok (.iload_n 1, 1) := by decide +kernel
theorem dX3_limit_6 : decode cX3_limit 6 = .ok (.ifCond .lt 8, 3) := by decide +kernel
theorem dX3_limit_9 : decode cX3_limit 9 = .ok (.iload_n 1, 1) := by decide +kernel
theorem dX3_limit_10 : decode cX3_limit 10 = .ok (.iconst 5, 1) := by decide +kernel
theorem dX3_limit_11 : decode cX3_limit 11 = .ok (.if_icmp .le 5, 3) := by decide +kernel
theorem dX3_limit_14 : decode cX3_limit 14 = .ok (.iconst (-1), 1) := by decide +kernel
theorem dX3_limit_15 : decode cX3_limit 15 = .ok (.ireturn, 1) := by decide +kernel
theorem dX3_limit_16 : decode cX3_limit 16 = .ok (.lload_n 2, 1) := by decide +kernel
theorem dX3_limit_17 : decode cX3_limit 17 = .ok (.ldc2_w 100, 3) := by decide +kernel
theorem dX3_limit_20 : decode cX3_limit 20 = .ok (.lcmp, 1) := by decide +kernel
theorem dX3_limit_21 : decode cX3_limit 21 = .ok (.ifCond .lt 22, 3) := by decide +kernel
theorem dX3_limit_24 : decode cX3_limit 24 = .ok (.lload_n 2, 1) := by decide +kernel
theorem dX3_limit_25 : decode cX3_limit 25 = .ok (.ldc2_w 140, 3) := by decide +kernel
theorem dX3_limit_28 : decode cX3_limit 28 = .ok (.lcmp, 1) := by decide +kernel
theorem dX3_limit_29 : decode cX3_limit 29 = .ok (.ifCond .gt 14, 3) := by decide +kernel
theorem dX3_limit_32 : decode cX3_limit 32 = .ok (.iload_n 1, 1) := by decide +kernel
theorem dX3_limit_33 : decode cX3_limit 33 = .ok (.iconst 5, 1) := by decide +kernel
theorem dX3_limit_34 : decode cX3_limit 34 = .ok (.if_icmp .ne 12, 3) := by decide +kernel
theorem dX3_limit_37 : decode cX3_limit 37 = .ok (.lload_n 2, 1) := by decide +kernel
theorem dX3_limit_38 : decode cX3_limit 38 = .ok (.lconst 0, 1) := by decide +kernel
theorem dX3_limit_39 : decode cX3_limit 39 = .ok (.lcmp, 1) := by decide +kernel
theorem dX3_limit_40 : decode cX3_limit 40 = .ok (.ifCond .ge 6, 3) := by decide +kernel
theorem dX3_limit_43 : decode cX3_limit 43 = .ok (.bipush (-2), 2) := by decide +kernel
theorem dX3_limit_45 : decode cX3_limit 45 = .ok (.ireturn, 1) := by decide +kernel
theorem dX3_limit_46 : decode cX3_limit 46 = .ok (.aload_n 0, 1) := by decide +kernel
theorem dX3_limit_47 : decode cX3_limit 47 = .ok (.getfield 43, 3) := by decide +kernel
theorem dX3_limit_50 : decode cX3_limit 50 = .ok (.iload_n 1, 1) := by decide +kernel
theorem dX3_limit_51 : decode cX3_limit 51 = .ok (.lload_n 2, 1) := by decide +kernel
theorem dX3_limit_52 : decode cX3_limit 52 = .ok (.lastore, 1) := by decide +kernel
theorem dX3_limit_53 : decode cX3_limit 53 = .ok (.iconst 1, 1) := by decide +kernel
theorem dX3_limit_54 : decode cX3_limit 54 = .ok (.ireturn, 1) := by decide +kernel
theorem dX3_weakest_0 : decode cX3_weakest 0 = .ok (.aload_n 0, 1) := by decide +kernel
theorem dX3_weakest_1 : decode cX3_weakest 1 = .ok (.iconst 0, 1) := by decide +kernel
theorem dX3_weakest_2 : decode cX3_weakest 2 = .ok (.putfield 73, 3) := by decide +kernel
theorem dX3_weakest_5 : decode cX3_weakest 5 = .ok (.iconst 0, 1) := by decide +kernel
theorem dX3_weakest_6 : decode cX3_weakest 6 = .ok (.istore_n 1, 1) := by decide +kernel
theorem dX3_weakest_7 : decode cX3_weakest 7 = .ok (.iconst 1, 1) := by decide +kernel
theorem dX3_weakest_8 : decode cX3_weakest 8 = .ok (.istore_n 2, 1) := by decide +kernel
theorem dX3_weakest_9 : decode cX3_weakest 9 = .ok (.iload_n 2, 1) := by decide +kernel
theorem dX3_weakest_10 : decode cX3_weakest 10 = .ok (.aload_n 0, 1) := by decide +kernel
theorem dX3_weakest_11 : decode cX3_weakest 11 = .ok (.getfield 61, 3) := by decide +kernel
theorem dX3_weakest_14 : decode cX3_weakest 14 = .ok (.if_icmp .ge 31, 3) := by decide +kernel
theorem dX3_weakest_17 : decode cX3_weakest 17 = .ok (.aload_n 0, 1) := by decide +kernel
theorem dX3_weakest_18 : decode cX3_weakest 18 = .ok (.getfield 7, 3) := by decide +kernel
theorem dX3_weakest_21 : decode cX3_weakest 21 = .ok (.iload_n 2, 1) := by decide +kernel
theorem dX3_weakest_22 : decode cX3_weakest 22 = .ok (.laload, 1) := by decide +kernel
theorem dX3_weakest_23 : decode cX3_weakest 23 = .ok (.aload_n 0, 1) := by decide +kernel
theorem dX3_weakest_24 : decode cX3_weakest 24 = .ok (.getfield 7, 3) := by decide +kernel
theorem dX3_weakest_27 : decode cX3_weakest 27 = .ok (.iload_n 1, 1) := by decide +kernel
theorem dX3_weakest_28 : decode cX3_weakest 28 = .ok (.laload, 1) := by decide +kernel
theorem dX3_weakest_29 : decode cX3_weakest 29 = .ok (.lcmp, 1) := by decide +kernel
theorem dX3_weakest_30 : decode cX3_weakest 30 = .ok (.ifCond .ge 7, 3) := by decide +kernel
theorem dX3_weakest_33 : decode cX3_weakest 33 = .ok (.iload_n 2, 1) := by decide +kernel
theorem dX3_weakest_34 : decode cX3_weakest 34 = .ok (.goto 4, 3) := by decide +kernel
theorem dX3_weakest_37 : decode cX3_weakest 37 = .ok (.iload_n 1, 1) := by decide +kernel
theorem dX3_weakest_38 : decode cX3_weakest 38 = .ok (.istore_n 1, 1) := by decide +kernel
theorem dX3_weakest_39 : decode cX3_weakest 39 = .ok (.iinc 2 1, 3) := by decide +kernel
theorem dX3_weakest_42 : decode cX3_weakest 42 = .ok (.goto (-33), 3) := by decide +kernel
theorem dX3_weakest_45 : decode cX3_weakest 45 = .ok (.iload_n 1, 1) := by decide +kernel
theorem dX3_weakest_46 : decode cX3_weakest 46 = .ok (.ireturn, 1) := by decide +kernel
set_option maxRecDepth 20000 in
theorem ggX3_insulate_X3_fails : GoodIn wsX3_insulate wsX3_fails := goodIn_r _ [7, 8, 9, 10, 11, 12, 13, 14, 15, 16, 17, 18, 19, 20, 21, 22, 23, 24, 25, 26, 27, 28, 29, 30] (by decide +kernel) (by decide +kernel)
set_option maxRecDepth 20000 in
theorem gX3_insulate_X3_fails : GoodIn wsX3_insulate (wsV RX3 127 RX3 yX3_fails wsX3_fails) := goodIn_app (goodIn_of _ (by decide +kernel)) ggX3_insulate_X3_fails
theorem dX3_insulate_0 : decode cX3_insulate 0 = .ok (.aload_n 0, 1) := by decide +kernel
theorem dX3_insulate_1 : decode cX3_insulate 1 = .ok (.iconst 0, 1) := by decide +kernel
theorem dX3_insulate_2 : decode cX3_insulate 2 = .ok (.putfield 73, 3) := by decide +kernel
theorem dX3_insulate_5 : decode cX3_insulate 5 = .ok (.lload_n 1, 1) := by decide +kernel
theorem dX3_insulate_6 : decode cX3_insulate 6 = .ok (.lconst 0, 1) := by decide +kernel
theorem dX3_insulate_7 : decode cX3_insulate 7 = .ok (.lcmp, 1) := by decide +kernel
theorem dX3_insulate_8 : decode cX3_insulate 8 = .ok (.ifCond .ge 6, 3) := by decide +kernel
theorem dX3_insulate_11 : decode cX3_insulate 11 = .ok (.bipush (-2), 2) := by decide +kernel
theorem dX3_insulate_13 : decode cX3_insulate 13 = .ok (.ireturn, 1) := by decide +kernel
theorem dX3_insulate_14 : decode cX3_insulate 14 = .ok (.lload_n 1, 1) := by decide +kernel
theorem dX3_insulate_15 : decode cX3_insulate 15 = .ok (.ldc2_w 142, 3) := by decide +kernel
theorem dX3_insulate_18 : decode cX3_insulate 18 = .ok (.lcmp, 1) := by decide +kernel
theorem dX3_insulate_19 : decode cX3_insulate 19 = .ok (.ifCond .ge 10, 3) := by decide +kernel
theorem dX3_insulate_22 : decode cX3_insulate 22 = .ok (.aload_n 0, 1) := by decide +kernel
theorem dX3_insulate_23 : decode cX3_insulate 23 = .ok (.iconst 5, 1) := by decide +kernel
theorem dX3_insulate_24 : decode cX3_insulate 24 = .ok (.invokevirtual 127, 3) := by decide +kernel
theorem dX3_insulate_27 : decode cX3_insulate 27 = .ok (.iconst 0, 1) := by decide +kernel
theorem dX3_insulate_28 : decode cX3_insulate 28 = .ok (.ireturn, 1) := by decide +kernel
theorem dX3_insulate_29 : decode cX3_insulate 29 = .ok (.iconst 1, 1) := by decide +kernel
theorem dX3_insulate_30 : decode cX3_insulate 30 = .ok (.ireturn, 1) := by decide +kernel
theorem dX3_stuck_0 : decode cX3_stuck 0 = .ok (.aload_n 0, 1) := by decide +kernel
theorem dX3_stuck_1 : decode cX3_stuck 1 = .ok (.iconst 0, 1) := by decide +kernel
theorem dX3_stuck_2 : decode cX3_stuck 2 = .ok (.putfield 73, 3) := by decide +kernel
theorem dX3_stuck_5 : decode cX3_stuck 5 = .ok (.iload_n 1, 1) := by decide +kernel
theorem dX3_stuck_6 : decode cX3_stuck 6 = .ok (.ifCond .lt 8, 3) := by decide +kernel
theorem dX3_stuck_9 : decode cX3_stuck 9 = .ok (.iload_n 1, 1) := by decide +kernel
theorem dX3_stuck_10 : decode cX3_stuck 10 = .ok (.iconst 2, 1) := by decide +kernel
theorem dX3_stuck_11 : decode cX3_stuck 11 = .ok (.if_icmp .le 5, 3) := by decide +kernel
theorem dX3_stuck_14 : decode cX3_stuck 14 = .ok (.iconst (-1), 1) := by decide +kernel
theorem dX3_stuck_15 : decode cX3_stuck 15 = .ok (.ireturn, 1) := by decide +kernel
theorem dX3_stuck_16 : decode cX3_stuck 16 = .ok (.aload_n 0, 1) := by decide +kernel
theorem dX3_stuck_17 : decode cX3_stuck 17 = .ok (.getfield 46, 3) := by decide +kernel
theorem dX3_stuck_20 : decode cX3_stuck 20 = .ok (.iload_n 1, 1) := by decide +kernel
theorem dX3_stuck_21 : decode cX3_stuck 21 = .ok (.aload_n 0, 1) := by decide +kernel
theorem dX3_stuck_22 : decode cX3_stuck 22 = .ok (.getfield 46, 3) := by decide +kernel
theorem dX3_stuck_25 : decode cX3_stuck 25 = .ok (.iload_n 1, 1) := by decide +kernel
theorem dX3_stuck_26 : decode cX3_stuck 26 = .ok (.baload, 1) := by decide +kernel
theorem dX3_stuck_27 : decode cX3_stuck 27 = .ok (.ifCond .ne 7, 3) := by decide +kernel
theorem dX3_stuck_30 : decode cX3_stuck 30 = .ok (.iconst 1, 1) := by decide +kernel
theorem dX3_stuck_31 : decode cX3_stuck 31 = .ok (.goto 4, 3) := by decide +kernel
theorem dX3_stuck_34 : decode cX3_stuck 34 = .ok (.iconst 0, 1) := by decide +kernel
theorem dX3_stuck_35 : decode cX3_stuck 35 = .ok (.bastore, 1) := by decide +kernel
theorem dX3_stuck_36 : decode cX3_stuck 36 = .ok (.aload_n 0, 1) := by decide +kernel
theorem dX3_stuck_37 : decode cX3_stuck 37 = .ok (.getfield 46, 3) := by decide +kernel
theorem dX3_stuck_40 : decode cX3_stuck 40 = .ok (.iload_n 1, 1) := by decide +kernel
theorem dX3_stuck_41 : decode cX3_stuck 41 = .ok (.baload, 1) := by decide +kernel
theorem dX3_stuck_42 : decode cX3_stuck 42 = .ok (.ifCond .eq 7, 3) := by decide +kernel
theorem dX3_stuck_45 : decode cX3_stuck 45 = .ok (.iconst 1, 1) := by decide +kernel
theorem dX3_stuck_46 : decode cX3_stuck 46 = .ok (.goto 4, 3) := by decide +kernel
theorem dX3_stuck_49 : decode cX3_stuck 49 = .ok (.iconst 0, 1) := by decide +kernel
theorem dX3_stuck_50 : decode cX3_stuck 50 = .ok (.ireturn, 1) := by decide +kernel
theorem dX3_cycle_0 : decode cX3_cycle 0 = .ok (.aload_n 0, 1) := by decide +kernel
theorem dX3_cycle_1 : decode cX3_cycle 1 = .ok (.iconst 0, 1) := by decide +kernel
theorem dX3_cycle_2 : decode cX3_cycle 2 = .ok (.putfield 73, 3) := by decide +kernel
theorem dX3_cycle_5 : decode cX3_cycle 5 = .ok (.iload_n 1, 1) := by decide +kernel
theorem dX3_cycle_6 : decode cX3_cycle 6 = .ok (.iconst (-1), 1) := by decide +kernel
theorem dX3_cycle_7 : decode cX3_cycle 7 = .ok (.if_icmp .ne 12, 3) := by decide +kernel
theorem dX3_cycle_10 : decode cX3_cycle 10 = .ok (.iload_n 2, 1) := by decide +kernel
theorem dX3_cycle_11 : decode cX3_cycle 11 = .ok (.ifCond .ne 8, 3) := by decide +kernel
theorem dX3_cycle_14 : decode cX3_cycle 14 = .ok (.aload_n 0, 1) := by decide +kernel
theorem dX3_cycle_15 : decode cX3_cycle 15 = .ok (.getfield 93, 3) := by decide +kernel
theorem dX3_cycle_18 : decode cX3_cycle 18 = .ok (.ireturn, 1) := by decide +kernel
theorem dX3_cycle_19 : decode cX3_cycle 19 = .ok (.iload_n 1, 1) := by decide +kernel
theorem dX3_cycle_20 : decode cX3_cycle 20 = .ok (.ifCond .lt 11, 3) := by decide +kernel
theorem dX3_cycle_23 : decode cX3_cycle 23 = .ok (.iload_n 1, 1) := by decide +kernel
theorem dX3_cycle_24 : decode cX3_cycle 24 = .ok (.aload_n 0, 1) := by decide +kernel
theorem dX3_cycle_25 : decode cX3_cycle 25 = .ok (.getfield 93, 3) := by decide +kernel
theorem dX3_cycle_28 : decode cX3_cycle 28 = .ok (.if_icmp .lt 5, 3) := by decide +kernel
theorem dX3_cycle_31 : decode cX3_cycle 31 = .ok (.iconst (-1), 1) := by decide +kernel
theorem dX3_cycle_32 : decode cX3_cycle 32 = .ok (.ireturn, 1) := by decide +kernel
theorem dX3_cycle_33 : decode cX3_cycle 33 = .ok (.iload_n 2, 1) := by decide +kernel
theorem dX3_cycle_34 : decode cX3_cycle 34 = .ok (.ifCond .ne 12, 3) := by decide +kernel
theorem dX3_cycle_37 : decode cX3_cycle 37 = .ok (.aload_n 0, 1) := by decide +kernel
theorem dX3_cycle_38 : decode cX3_cycle 38 = .ok (.getfield 55, 3) := by decide +kernel
theorem dX3_cycle_41 : decode cX3_cycle 41 = .ok (.iload_n 1, 1) := by decide +kernel
theorem dX3_cycle_42 : decode cX3_cycle 42 = .ok (.iaload, 1) := by decide +kernel
theorem dX3_cycle_43 : decode cX3_cycle 43 = .ok (.goto 19, 3) := by decide +kernel
theorem dX3_cycle_46 : decode cX3_cycle 46 = .ok (.iload_n 2, 1) := by decide +kernel
theorem dX3_cycle_47 : decode cX3_cycle 47 = .ok (.iconst 1, 1) := by decide +kernel
theorem dX3_cycle_48 : decode cX3_cycle 48 = .ok (.if_icmp .ne 12, 3) := by decide +kernel
theorem dX3_cycle_51 : decode cX3_cycle 51 = .ok (.aload_n 0, 1) := by decide +kernel
theorem dX3_cycle_52 : decode cX3_cycle 52 = .ok (.getfield 58, 3) := by decide +kernel
theorem dX3_cycle_55 : decode cX3_cycle 55 = .ok (.iload_n 1, 1) := by decide +kernel
theorem dX3_cycle_56 : decode cX3_cycle 56 = .ok (.iaload, 1) := by decide +kernel
theorem dX3_cycle_57 : decode cX3_cycle 57 = .ok (.goto 5, 3) := by decide +kernel
theorem dX3_cycle_60 : decode cX3_cycle 60 = .ok (.bipush (-2), 2) := by decide +kernel
theorem dX3_cycle_62 : decode cX3_cycle 62 = .ok (.ireturn, 1) := by decide +kernel
theorem dX3_cool_0 : decode cX3_cool 0 = .ok (.aload_n 0, 1) := by decide +kernel
theorem dX3_cool_1 : decode cX3_cool 1 = .ok (.iconst 0, 1) := by decide +kernel
theorem dX3_cool_2 : decode cX3_cool 2 = .ok (.putfield 73, 3) := by decide +kernel
theorem dX3_cool_5 : decode cX3_cool 5 = .ok (.aload_n 0, 1) := by decide +kernel
theorem dX3_cool_6 : decode cX3_cool 6 = .ok (.getfield 20, 3) := by decide +kernel
theorem dX3_cool_9 : decode cX3_cool 9 = .ok (.iconst 0, 1) := by decide +kernel
theorem dX3_cool_10 : decode cX3_cool 10 = .ok (.laload, 1) := by decide +kernel
theorem dX3_cool_11 : decode cX3_cool 11 = .ok (.lstore_n 1, 1) := by decide +kernel
theorem dX3_cool_12 : decode cX3_cool 12 = .ok (.iconst 1, 1) := by decide +kernel
theorem dX3_cool_13 : decode cX3_cool 13 = .ok (.istore_n 3, 1) := by decide +kernel
theorem dX3_cool_14 : decode cX3_cool 14 = .ok (.iload_n 3, 1) := by decide +kernel
theorem dX3_cool_15 : decode cX3_cool 15 = .ok (.aload_n 0, 1) := by decide +kernel
theorem dX3_cool_16 : decode cX3_cool 16 = .ok (.getfield 61, 3) := by decide +kernel
theorem dX3_cool_19 : decode cX3_cool 19 = .ok (.if_icmp .ge 31, 3) := by decide +kernel
theorem dX3_cool_22 : decode cX3_cool 22 = .ok (.aload_n 0, 1) := by decide +kernel
theorem dX3_cool_23 : decode cX3_cool 23 = .ok (.getfield 20, 3) := by decide +kernel
theorem dX3_cool_26 : decode cX3_cool 26 = .ok (.iload_n 3, 1) := by decide +kernel
theorem dX3_cool_27 : decode cX3_cool 27 = .ok (.laload, 1) := by decide +kernel
theorem dX3_cool_28 : decode cX3_cool 28 = .ok (.lload_n 1, 1) := by decide +kernel
theorem dX3_cool_29 : decode cX3_cool 29 = .ok (.lcmp, 1) := by decide +kernel
theorem dX3_cool_30 : decode cX3_cool 30 = .ok (.ifCond .le 12, 3) := by decide +kernel
theorem dX3_cool_33 : decode cX3_cool 33 = .ok (.aload_n 0, 1) := by decide +kernel
theorem dX3_cool_34 : decode cX3_cool 34 = .ok (.getfield 20, 3) := by decide +kernel
theorem dX3_cool_37 : decode cX3_cool 37 = .ok (.iload_n 3, 1) := by decide +kernel
theorem dX3_cool_38 : decode cX3_cool 38 = .ok (.laload, 1) := by decide +kernel
theorem dX3_cool_39 : decode cX3_cool 39 = .ok (.goto 4, 3) := by decide +kernel
theorem dX3_cool_42 : decode cX3_cool 42 = .ok (.lload_n 1, 1) := by decide +kernel
theorem dX3_cool_43 : decode cX3_cool 43 = .ok (.lstore_n 1, 1) := by decide +kernel
theorem dX3_cool_44 : decode cX3_cool 44 = .ok (.iinc 3 1, 3) := by decide +kernel
theorem dX3_cool_47 : decode cX3_cool 47 = .ok (.goto (-33), 3) := by decide +kernel
theorem dX3_cool_50 : decode cX3_cool 50 = .ok (.lload_n 1, 1) := by decide +kernel
theorem dX3_cool_51 : decode cX3_cool 51 = .ok (.ldc2_w 144, 3) := by decide +kernel
theorem dX3_cool_54 : decode cX3_cool 54 = .ok (.lcmp, 1) := by decide +kernel
theorem dX3_cool_55 : decode cX3_cool 55 = .ok (.ifCond .le 7, 3) := by decide +kernel
theorem dX3_cool_58 : decode cX3_cool 58 = .ok (.iconst 3, 1) := by decide +kernel
theorem dX3_cool_59 : decode cX3_cool 59 = .ok (.goto 28, 3) := by decide +kernel
theorem dX3_cool_62 : decode cX3_cool 62 = .ok (.lload_n 1, 1) := by decide +kernel
theorem dX3_cool_63 : decode cX3_cool 63 = .ok (.ldc2_w 146, 3) := by decide +kernel
theorem dX3_cool_66 : decode cX3_cool 66 = .ok (.lcmp, 1) := by decide +kernel
theorem dX3_cool_67 : decode cX3_cool 67 = .ok (.ifCond .le 7, 3) := by decide +kernel
theorem dX3_cool_70 : decode cX3_cool 70 = .ok (.iconst 2, 1) := by decide +kernel
theorem dX3_cool_71 : decode cX3_cool 71 = .ok (.goto 16, 3) := by decide +kernel
theorem dX3_cool_74 : decode cX3_cool 74 = .ok (.lload_n 1, 1) := by decide +kernel
theorem dX3_cool_75 : decode cX3_cool 75 = .ok (.ldc2_w 148, 3) := by decide +kernel
theorem dX3_cool_78 : decode cX3_cool 78 = .ok (.lcmp, 1) := by decide +kernel
theorem dX3_cool_79 : decode cX3_cool 79 = .ok (.ifCond .le 7, 3) := by decide +kernel
theorem dX3_cool_82 : decode cX3_cool 82 = .ok (.iconst 1, 1) := by decide +kernel
theorem dX3_cool_83 : decode cX3_cool 83 = .ok (.goto 4, 3) := by decide +kernel
theorem dX3_cool_86 : decode cX3_cool 86 = .ok (.iconst 0, 1) := by decide +kernel
theorem dX3_cool_87 : decode cX3_cool 87 = .ok (.ireturn, 1) := by decide +kernel
theorem dX3_fault_0 : decode cX3_fault 0 = .ok (.aload_n 0, 1) := by decide +kernel
theorem dX3_fault_1 : decode cX3_fault 1 = .ok (.iconst 0, 1) := by decide +kernel
theorem dX3_fault_2 : decode cX3_fault 2 = .ok (.putfield 73, 3) := by decide +kernel
theorem dX3_fault_5 : decode cX3_fault 5 = .ok (.iload_n 1, 1) := by decide +kernel
theorem dX3_fault_6 : decode cX3_fault 6 = .ok (.ifCond .lt 11, 3) := by decide +kernel
theorem dX3_fault_9 : decode cX3_fault 9 = .ok (.iload_n 1, 1) := by decide +kernel
theorem dX3_fault_10 : decode cX3_fault 10 = .ok (.aload_n 0, 1) := by decide +kernel
theorem dX3_fault_11 : decode cX3_fault 11 = .ok (.getfield 76, 3) := by decide +kernel
theorem dX3_fault_14 : decode cX3_fault 14 = .ok (.if_icmp .lt 7, 3) := by decide +kernel
theorem dX3_fault_17 : decode cX3_fault 17 = .ok (.iconst 0, 1) := by decide +kernel
theorem dX3_fault_18 : decode cX3_fault 18 = .ok (.goto 9, 3) := by decide +kernel
theorem dX3_fault_21 : decode cX3_fault 21 = .ok (.aload_n 0, 1) := by decide +kernel
theorem dX3_fault_22 : decode cX3_fault 22 = .ok (.getfield 49, 3) := by decide +kernel
theorem dX3_fault_25 : decode cX3_fault 25 = .ok (.iload_n 1, 1) := by decide +kernel
theorem dX3_fault_26 : decode cX3_fault 26 = .ok (.iaload, 1) := by decide +kernel
theorem dX3_fault_27 : decode cX3_fault 27 = .ok (.ireturn, 1) := by decide +kernel
end
section
theorem dL_cell_0 : decode cL_cell 0 = .ok (.iload_n 1, 1) := by decide +kernel
theorem dL_cell_1 : decode cL_cell 1 = .ok (.aload_n 0, 1) := by decide +kernel
theorem dL_cell_2 : decode cL_cell 2 = .ok (.arraylength, 1) := by decide +kernel
theorem dL_cell_3 : decode cL_cell 3 = .ok (.if_icmp .ge 9, 3) := by decide +kernel
theorem dL_cell_6 : decode cL_cell 6 = .ok (.aload_n 0, 1) := by decide +kernel
theorem dL_cell_7 : decode cL_cell 7 = .ok (.iload_n 1, 1) := by decide +kernel
theorem dL_cell_8 : decode cL_cell 8 = .ok (.iaload, 1) := by decide +kernel
theorem dL_cell_9 : decode cL_cell 9 = .ok (.goto 4, 3) := by decide +kernel
theorem dL_cell_12 : decode cL_cell 12 = .ok (.iconst 0, 1) := by decide +kernel
theorem dL_cell_13 : decode cL_cell 13 = .ok (.ireturn, 1) := by decide +kernel
set_option maxRecDepth 20000 in
theorem ggL_step_X2_step : GoodIn wsL_step wsX2_step := goodIn_r _ [5, 6, 7, 8, 9, 10, 11, 12, 13, 14, 15, 16, 17, 18, 4, 19, 20, 21, 22, 23, 24, 25, 26, 27, 28, 29, 30, 31, 32, 33, 34, 35, 36, 37, 38, 39, 40, 41, 42, 43, 44, 45, 46, 47, 48, 49, 50, 51, 52, 53, 54, 55, 56, 57, 58, 59, 60, 61, 62, 63, 64, 65, 66, 67, 68, 69, 70, 71, 72, 73, 74, 75, 76, 77, 78, 79, 80, 81, 82, 83, 84, 85, 86, 87, 88, 89, 90, 91, 92, 93, 94, 95, 96, 97, 98, 99, 100, 101, 102, 103, 104, 105, 106, 107, 108, 109] (by decide +kernel) (by decide +kernel)
set_option maxRecDepth 20000 in
theorem gL_step_X2_step : GoodIn wsL_step (wsV RL 7 RX2 yX2_step wsX2_step) := goodIn_app (goodIn_of _ (by decide +kernel)) ggL_step_X2_step
theorem dL_step_0 : decode cL_step 0 = .ok (.aload 8, 2) := by decide +kernel
theorem dL_step_2 : decode cL_step 2 = .ok (.iconst 0, 1) := by decide +kernel
theorem dL_step_3 : decode cL_step 3 = .ok (.aload_n 0, 1) := by decide +kernel
theorem dL_step_4 : decode cL_step 4 = .ok (.iload_n 1, 1) := by decide +kernel
theorem dL_step_5 : decode cL_step 5 = .ok (.lload_n 2, 1) := by decide +kernel
theorem dL_step_6 : decode cL_step 6 = .ok (.lload 4, 2) := by decide +kernel
theorem dL_step_8 : decode cL_step 8 = .ok (.lload 6, 2) := by decide +kernel
theorem dL_step_10 : decode cL_step 10 = .ok (.invokevirtual 7, 3) := by decide +kernel
theorem dL_step_13 : decode cL_step 13 = .ok (.i2l, 1) := by decide +kernel
theorem dL_step_14 : decode cL_step 14 = .ok (.lastore, 1) := by decide +kernel
theorem dL_step_15 : decode cL_step 15 = .ok (.goto 7, 3) := by decide +kernel
theorem dL_step_18 : decode cL_step 18 = .ok (.astore 9, 2) := by decide +kernel
theorem dL_step_20 : decode cL_step 20 = .ok (.iconst 1, 1) := by decide +kernel
theorem dL_step_21 : decode cL_step 21 = .ok (.ireturn, 1) := by decide +kernel
theorem dL_step_22 : decode cL_step 22 = .ok (.iconst 0, 1) := by decide +kernel
theorem dL_step_23 : decode cL_step 23 = .ok (.ireturn, 1) := by decide +kernel
set_option maxRecDepth 20000 in
theorem ggL_whole_X2_whole : GoodIn wsL_whole wsX2_whole := goodIn_ca (goodIn_r _ [6, 7, 8, 9, 10, 11, 12, 5, 13, 14, 15, 16, 17, 18, 19, 20, 21, 22, 23, 24, 25, 26, 27, 28, 29, 30, 31, 32, 33, 34, 35] (by decide +kernel) (by decide +kernel)) (goodIn_sub (fun _ h => List.mem_cons_of_mem _ (List.mem_append_right _ h)) (by decide +kernel))
set_option maxRecDepth 20000 in
theorem gL_whole_X2_whole : GoodIn wsL_whole (wsV RL 15 RX2 yX2_whole wsX2_whole) := goodIn_app (goodIn_of _ (by decide +kernel)) ggL_whole_X2_whole
theorem dL_whole_0 : decode cL_whole 0 = .ok (.aload_n 3, 1) := by decide +kernel
theorem dL_whole_1 : decode cL_whole 1 = .ok (.iconst 0, 1) := by decide +kernel
theorem dL_whole_2 : decode cL_whole 2 = .ok (.aload_n 0, 1) := by decide +kernel
theorem dL_whole_3 : decode cL_whole 3 = .ok (.iload_n 1, 1) := by decide +kernel
theorem dL_whole_4 : decode cL_whole 4 = .ok (.iload_n 2, 1) := by decide +kernel
theorem dL_whole_5 : decode cL_whole 5 = .ok (.invokevirtual 15, 3) := by decide +kernel
theorem dL_whole_8 : decode cL_whole 8 = .ok (.lastore, 1) := by decide +kernel
theorem dL_whole_9 : decode cL_whole 9 = .ok (.goto 7, 3) := by decide +kernel
theorem dL_whole_12 : decode cL_whole 12 = .ok (.astore 4, 2) := by decide +kernel
theorem dL_whole_14 : decode cL_whole 14 = .ok (.iconst 1, 1) := by decide +kernel
theorem dL_whole_15 : decode cL_whole 15 = .ok (.ireturn, 1) := by decide +kernel
theorem dL_whole_16 : decode cL_whole 16 = .ok (.iconst 0, 1) := by decide +kernel
theorem dL_whole_17 : decode cL_whole 17 = .ok (.ireturn, 1) := by decide +kernel
set_option maxRecDepth 20000 in
theorem ggL_law_L_cell : GoodIn wsL_law wsL_cell := goodIn_r _ [11] (by decide +kernel) (by decide +kernel)
set_option maxRecDepth 20000 in
theorem gL_law_L_cell : GoodIn wsL_law (va_wsS RL 21 yL_cell wsL_cell) := goodIn_app (goodIn_of _ (by decide +kernel)) ggL_law_L_cell
set_option maxRecDepth 20000 in
theorem ggL_law_X2_init : GoodIn wsL_law wsX2_init := goodIn_r _ [14, 15, 16, 17, 18, 19, 20, 21, 22, 23, 24, 25, 26, 27, 28, 29, 30, 31, 32, 33, 34, 35, 36, 37, 38, 39, 40, 41, 42, 43, 44, 45, 46, 47, 48, 49, 50, 51, 52, 6, 53, 54, 55, 56, 57, 58, 59, 60, 61, 62, 63, 64, 65, 66, 67, 68, 69, 70, 71, 72, 73, 74, 75, 76, 77, 78, 79, 353, 354, 355, 356, 357, 358, 359, 360, 381, 382, 383, 384, 385, 386, 387, 388, 389, 390, 391] (by decide +kernel) (by decide +kernel)
set_option maxRecDepth 20000 in
theorem gL_law_X2_init : GoodIn wsL_law (wsX2_init) := ggL_law_X2_init
set_option maxRecDepth 20000 in
theorem ggL_law_X3_init : GoodIn wsL_law wsX3_init := goodIn_r _ [82, 83, 16, 17, 6, 84, 85, 86, 87, 88, 32, 89, 30, 90, 91, 92, 93, 94, 95, 96, 97, 98, 99, 100, 101, 102, 103, 104, 105, 106, 107, 361, 362, 363, 364, 365, 366, 367, 368, 369, 370, 371, 372, 373, 374, 375, 376, 377, 378, 379, 380] (by decide +kernel) (by decide +kernel)
set_option maxRecDepth 20000 in
theorem gL_law_X3_init : GoodIn wsL_law (wsX3_init) := ggL_law_X3_init
set_option maxRecDepth 20000 in
theorem ggL_law_L_step : GoodIn wsL_law wsL_step := goodIn_r _ [110, 111, 112, 113, 2, 114, 115, 116, 117, 118, 119, 120, 121, 122, 29, 123, 37, 124, 125, 126, 127, 128, 129, 130, 19, 131, 21, 132, 133, 47, 49, 43, 134, 135, 45, 136, 137, 138, 139, 140, 141, 56, 36, 57, 58, 53, 59, 60, 61, 62, 63, 64, 65, 66, 67, 68, 69, 70, 71, 72, 73, 74, 75, 76, 77, 78, 79, 54, 55, 142, 143, 144, 145, 146, 147, 148, 149, 150, 151, 152, 153, 154, 155, 156, 33, 392, 393, 394, 395, 396, 397, 353, 354, 355, 356, 357, 358, 359, 360, 381, 382, 383, 384, 385, 386, 387, 388, 389, 390, 391] (by decide +kernel) (by decide +kernel)
set_option maxRecDepth 20000 in
theorem gL_law_L_step : GoodIn wsL_law (va_wsS RL 35 yL_step wsL_step) := goodIn_app (goodIn_of _ (by decide +kernel)) ggL_law_L_step
set_option maxRecDepth 20000 in
theorem ggL_law_X3_step : GoodIn wsL_law wsX3_step := goodIn_r _ [160, 161, 162, 96, 163, 164, 165, 166, 84, 167, 87, 88, 90, 168, 97, 86, 169, 170, 171, 89, 172, 173, 174, 175, 5, 176, 103, 177, 178, 179, 180, 100, 101, 181, 102, 182, 183, 184, 185, 186, 187, 188, 189, 190, 191, 192, 193, 194, 195, 99, 196, 361, 362, 363, 364, 365, 366, 367, 368, 369, 370, 371, 372, 373, 374, 375, 376, 377, 378, 379, 380] (by decide +kernel) (by decide +kernel)
set_option maxRecDepth 20000 in
theorem gL_law_X3_step : GoodIn wsL_law (wsV RL 38 RX3 yX3_step wsX3_step) := goodIn_app (goodIn_of _ (by decide +kernel)) ggL_law_X3_step
set_option maxRecDepth 20000 in
theorem ggL_law_X3_thrown : GoodIn wsL_law wsX3_thrown := goodIn_r _ [200, 161, 361, 362, 363, 364, 365, 366, 367, 368, 369, 370, 371, 372, 373, 374, 375, 376, 377, 378, 379, 380] (by decide +kernel) (by decide +kernel)
set_option maxRecDepth 20000 in
theorem gL_law_X3_thrown : GoodIn wsL_law (wsV RL 39 RX3 yX3_thrown wsX3_thrown) := goodIn_app (goodIn_of _ (by decide +kernel)) ggL_law_X3_thrown
set_option maxRecDepth 20000 in
theorem ggL_law_X2_charge : GoodIn wsL_law wsX2_charge := goodIn_r _ [204, 127, 128, 129, 2, 130, 19, 381, 382, 383, 384, 385, 386, 353, 354, 355, 356, 357, 358, 359, 360] (by decide +kernel) (by decide +kernel)
set_option maxRecDepth 20000 in
theorem gL_law_X2_charge : GoodIn wsL_law (wsV RL 43 RX2 yX2_charge wsX2_charge) := goodIn_app (goodIn_of _ (by decide +kernel)) ggL_law_X2_charge
set_option maxRecDepth 20000 in
theorem ggL_law_X3_charge : GoodIn wsL_law wsX3_charge := goodIn_r _ [208, 161, 84, 173, 174, 175, 5, 176, 103, 361, 362, 363, 364, 365, 366, 367, 368, 369, 370, 371, 372, 373, 374, 375, 376, 377, 378, 379, 380] (by decide +kernel) (by decide +kernel)
set_option maxRecDepth 20000 in
theorem gL_law_X3_charge : GoodIn wsL_law (wsV RL 47 RX3 yX3_charge wsX3_charge) := goodIn_app (goodIn_of _ (by decide +kernel)) ggL_law_X3_charge
set_option maxRecDepth 20000 in
theorem ggL_law_X2_share : GoodIn wsL_law wsX2_share := goodIn_r _ [212, 127, 128, 129, 2, 130, 19, 381, 382, 383, 384, 385, 386, 353, 354, 355, 356, 357, 358, 359, 360] (by decide +kernel) (by decide +kernel)
set_option maxRecDepth 20000 in
theorem gL_law_X2_share : GoodIn wsL_law (wsV RL 48 RX2 yX2_share wsX2_share) := goodIn_app (goodIn_of _ (by decide +kernel)) ggL_law_X2_share
set_option maxRecDepth 20000 in
theorem ggL_law_X3_share : GoodIn wsL_law wsX3_share := goodIn_r _ [216, 161, 86, 173, 174, 175, 5, 176, 103, 361, 362, 363, 364, 365, 366, 367, 368, 369, 370, 371, 372, 373, 374, 375, 376, 377, 378, 379, 380] (by decide +kernel) (by decide +kernel)
set_option maxRecDepth 20000 in
theorem gL_law_X3_share : GoodIn wsL_law (wsV RL 52 RX3 yX3_share wsX3_share) := goodIn_app (goodIn_of _ (by decide +kernel)) ggL_law_X3_share
set_option maxRecDepth 20000 in
theorem ggL_law_L_whole : GoodIn wsL_law wsL_whole := goodIn_ca (goodIn_r _ [219, 220, 221, 222, 223, 2, 224, 225, 226, 29, 127, 128, 129, 130, 19, 227, 228, 229, 146, 69, 70, 71, 353, 354, 355, 356, 357, 358, 359, 360, 381, 382, 383, 384, 385, 386] (by decide +kernel) (by decide +kernel)) (goodIn_sub (fun _ h => List.mem_append_right _ h) (by decide +kernel))
set_option maxRecDepth 20000 in
theorem gL_law_L_whole : GoodIn wsL_law (va_wsS RL 53 yL_whole wsL_whole) := goodIn_app (goodIn_of _ (by decide +kernel)) ggL_law_L_whole
set_option maxRecDepth 20000 in
theorem ggL_law_X3_whole : GoodIn wsL_law wsX3_whole := goodIn_r _ [233, 161, 97, 84, 173, 174, 175, 5, 176, 103, 186, 187, 188, 361, 362, 363, 364, 365, 366, 367, 368, 369, 370, 371, 372, 373, 374, 375, 376, 377, 378, 379, 380] (by decide +kernel) (by decide +kernel)
set_option maxRecDepth 20000 in
theorem gL_law_X3_whole : GoodIn wsL_law (wsV RL 56 RX3 yX3_whole wsX3_whole) := goodIn_app (goodIn_of _ (by decide +kernel)) ggL_law_X3_whole
set_option maxRecDepth 20000 in
theorem ggL_law_X2_contactor : GoodIn wsL_law wsX2_contactor := goodIn_r _ [237, 155, 238, 239, 240, 2, 241, 123, 151, 152, 153, 154, 156, 33, 242, 243, 244, 245, 31, 353, 354, 355, 356, 357, 358, 359, 360] (by decide +kernel) (by decide +kernel)
set_option maxRecDepth 20000 in
theorem gL_law_X2_contactor : GoodIn wsL_law (wsV RL 57 RX2 yX2_contactor wsX2_contactor) := goodIn_app (goodIn_of _ (by decide +kernel)) ggL_law_X2_contactor
set_option maxRecDepth 20000 in
theorem ggL_law_X3_contactor : GoodIn wsL_law wsX3_contactor := goodIn_r _ [249, 161, 196, 167, 250, 98, 192, 193, 194, 5, 195, 99, 172, 361, 362, 363, 364, 365, 366, 367, 368, 369, 370, 371, 372, 373, 374, 375, 376, 377, 378, 379, 380] (by decide +kernel) (by decide +kernel)
set_option maxRecDepth 20000 in
theorem gL_law_X3_contactor : GoodIn wsL_law (wsV RL 61 RX3 yX3_contactor wsX3_contactor) := goodIn_app (goodIn_of _ (by decide +kernel)) ggL_law_X3_contactor
set_option maxRecDepth 20000 in
theorem ggL_law_X2_bleed : GoodIn wsL_law wsX2_bleed := goodIn_r _ [254, 127, 128, 129, 2, 130, 19, 255, 256, 257, 258, 29, 259, 260, 261, 262, 263, 264, 265, 73, 70, 74, 266, 267, 268, 269, 381, 382, 383, 384, 385, 386, 353, 354, 355, 356, 357, 358, 359, 360] (by decide +kernel) (by decide +kernel)
set_option maxRecDepth 20000 in
theorem gL_law_X2_bleed : GoodIn wsL_law (wsV RL 62 RX2 yX2_bleed wsX2_bleed) := goodIn_app (goodIn_of _ (by decide +kernel)) ggL_law_X2_bleed
set_option maxRecDepth 20000 in
theorem ggL_law_X3_bleed : GoodIn wsL_law wsX3_bleed := goodIn_r _ [273, 161, 90, 84, 97, 87, 274, 103, 173, 174, 175, 5, 176, 275, 276, 277, 278, 361, 362, 363, 364, 365, 366, 367, 368, 369, 370, 371, 372, 373, 374, 375, 376, 377, 378, 379, 380] (by decide +kernel) (by decide +kernel)
set_option maxRecDepth 20000 in
theorem gL_law_X3_bleed : GoodIn wsL_law (wsV RL 66 RX3 yX3_bleed wsX3_bleed) := goodIn_app (goodIn_of _ (by decide +kernel)) ggL_law_X3_bleed
set_option maxRecDepth 20000 in
theorem ggL_law_X2_limit : GoodIn wsL_law wsX2_limit := goodIn_r _ [282, 29, 118, 283, 124, 125, 2, 126, 353, 354, 355, 356, 357, 358, 359, 360] (by decide +kernel) (by decide +kernel)
set_option maxRecDepth 20000 in
theorem gL_law_X2_limit : GoodIn wsL_law (wsV RL 67 RX2 yX2_limit wsX2_limit) := goodIn_app (goodIn_of _ (by decide +kernel)) ggL_law_X2_limit
set_option maxRecDepth 20000 in
theorem ggL_law_X3_limit : GoodIn wsL_law wsX3_limit := goodIn_r _ [287, 161, 164, 288, 97, 361, 362, 363, 364, 365, 366, 367, 368, 369, 370, 371, 372, 373, 374, 375, 376, 377, 378, 379, 380] (by decide +kernel) (by decide +kernel)
set_option maxRecDepth 20000 in
theorem gL_law_X3_limit : GoodIn wsL_law (wsV RL 71 RX3 yX3_limit wsX3_limit) := goodIn_app (goodIn_of _ (by decide +kernel)) ggL_law_X3_limit
set_option maxRecDepth 20000 in
theorem ggL_law_X2_weakest : GoodIn wsL_law wsX2_weakest := goodIn_r _ [292, 264, 19, 353, 354, 355, 356, 357, 358, 359, 360, 381, 382, 383, 384, 385, 386] (by decide +kernel) (by decide +kernel)
set_option maxRecDepth 20000 in
theorem gL_law_X2_weakest : GoodIn wsL_law (wsV RL 72 RX2 yX2_weakest wsX2_weakest) := goodIn_app (goodIn_of _ (by decide +kernel)) ggL_law_X2_weakest
set_option maxRecDepth 20000 in
theorem ggL_law_X3_weakest : GoodIn wsL_law wsX3_weakest := goodIn_r _ [296, 161, 103, 84, 361, 362, 363, 364, 365, 366, 367, 368, 369, 370, 371, 372, 373, 374, 375, 376, 377, 378, 379, 380] (by decide +kernel) (by decide +kernel)
set_option maxRecDepth 20000 in
theorem gL_law_X3_weakest : GoodIn wsL_law (wsV RL 75 RX3 yX3_weakest wsX3_weakest) := goodIn_app (goodIn_of _ (by decide +kernel)) ggL_law_X3_weakest
set_option maxRecDepth 20000 in
theorem ggL_law_X2_insulate : GoodIn wsL_law wsX2_insulate := goodIn_r _ [300, 301, 151, 152, 153, 2, 154, 155, 156, 33, 353, 354, 355, 356, 357, 358, 359, 360] (by decide +kernel) (by decide +kernel)
set_option maxRecDepth 20000 in
theorem gL_law_X2_insulate : GoodIn wsL_law (wsV RL 76 RX2 yX2_insulate wsX2_insulate) := goodIn_app (goodIn_of _ (by decide +kernel)) ggL_law_X2_insulate
set_option maxRecDepth 20000 in
theorem ggL_law_X3_insulate : GoodIn wsL_law wsX3_insulate := goodIn_r _ [305, 161, 306, 192, 193, 194, 5, 195, 99, 172, 196, 361, 362, 363, 364, 365, 366, 367, 368, 369, 370, 371, 372, 373, 374, 375, 376, 377, 378, 379, 380] (by decide +kernel) (by decide +kernel)
set_option maxRecDepth 20000 in
theorem gL_law_X3_insulate : GoodIn wsL_law (wsV RL 80 RX3 yX3_insulate wsX3_insulate) := goodIn_app (goodIn_of _ (by decide +kernel)) ggL_law_X3_insulate
set_option maxRecDepth 20000 in
theorem ggL_law_X2_stuck : GoodIn wsL_law wsX2_stuck := goodIn_r _ [310, 31, 353, 354, 355, 356, 357, 358, 359, 360] (by decide +kernel) (by decide +kernel)
set_option maxRecDepth 20000 in
theorem gL_law_X2_stuck : GoodIn wsL_law (wsV RL 81 RX2 yX2_stuck wsX2_stuck) := goodIn_app (goodIn_of _ (by decide +kernel)) ggL_law_X2_stuck
set_option maxRecDepth 20000 in
theorem ggL_law_X3_stuck : GoodIn wsL_law wsX3_stuck := goodIn_r _ [314, 161, 98, 361, 362, 363, 364, 365, 366, 367, 368, 369, 370, 371, 372, 373, 374, 375, 376, 377, 378, 379, 380] (by decide +kernel) (by decide +kernel)
set_option maxRecDepth 20000 in
theorem gL_law_X3_stuck : GoodIn wsL_law (wsV RL 84 RX3 yX3_stuck wsX3_stuck) := goodIn_app (goodIn_of _ (by decide +kernel)) ggL_law_X3_stuck
set_option maxRecDepth 20000 in
theorem ggL_law_X2_cycle : GoodIn wsL_law wsX2_cycle := goodIn_r _ [318, 37, 353, 354, 355, 356, 357, 358, 359, 360, 387, 388, 389, 390, 391] (by decide +kernel) (by decide +kernel)
set_option maxRecDepth 20000 in
theorem gL_law_X2_cycle : GoodIn wsL_law (wsV RL 85 RX2 yX2_cycle wsX2_cycle) := goodIn_app (goodIn_of _ (by decide +kernel)) ggL_law_X2_cycle
set_option maxRecDepth 20000 in
theorem ggL_law_X3_cycle : GoodIn wsL_law wsX3_cycle := goodIn_r _ [322, 161, 181, 101, 102, 361, 362, 363, 364, 365, 366, 367, 368, 369, 370, 371, 372, 373, 374, 375, 376, 377, 378, 379, 380] (by decide +kernel) (by decide +kernel)
set_option maxRecDepth 20000 in
theorem gL_law_X3_cycle : GoodIn wsL_law (wsV RL 89 RX3 yX3_cycle wsX3_cycle) := goodIn_app (goodIn_of _ (by decide +kernel)) ggL_law_X3_cycle
set_option maxRecDepth 20000 in
theorem ggL_law_X2_cool : GoodIn wsL_law wsX2_cool := goodIn_r _ [326, 327, 328, 329, 330, 331, 332, 2, 333, 334, 19, 335, 336, 70, 337, 353, 354, 355, 356, 357, 358, 359, 360, 381, 382, 383, 384, 385, 386] (by decide +kernel) (by decide +kernel)
set_option maxRecDepth 20000 in
theorem gL_law_X2_cool : GoodIn wsL_law (wsV RL 90 RX2 yX2_cool wsX2_cool) := goodIn_app (goodIn_of _ (by decide +kernel)) ggL_law_X2_cool
set_option maxRecDepth 20000 in
theorem ggL_law_X3_cool : GoodIn wsL_law wsX3_cool := goodIn_r _ [341, 161, 88, 103, 342, 343, 344, 361, 362, 363, 364, 365, 366, 367, 368, 369, 370, 371, 372, 373, 374, 375, 376, 377, 378, 379, 380] (by decide +kernel) (by decide +kernel)
set_option maxRecDepth 20000 in
theorem gL_law_X3_cool : GoodIn wsL_law (wsV RL 93 RX3 yX3_cool wsX3_cool) := goodIn_app (goodIn_of _ (by decide +kernel)) ggL_law_X3_cool
set_option maxRecDepth 20000 in
theorem ggL_law_X2_fault : GoodIn wsL_law wsX2_fault := goodIn_r _ [348, 156, 33, 353, 354, 355, 356, 357, 358, 359, 360] (by decide +kernel) (by decide +kernel)
set_option maxRecDepth 20000 in
theorem gL_law_X2_fault : GoodIn wsL_law (wsV RL 94 RX2 yX2_fault wsX2_fault) := goodIn_app (goodIn_of _ (by decide +kernel)) ggL_law_X2_fault
set_option maxRecDepth 20000 in
theorem ggL_law_X3_fault : GoodIn wsL_law wsX3_fault := goodIn_r _ [352, 161, 172, 99, 361, 362, 363, 364, 365, 366, 367, 368, 369, 370, 371, 372, 373, 374, 375, 376, 377, 378, 379, 380] (by decide +kernel) (by decide +kernel)
set_option maxRecDepth 20000 in
theorem gL_law_X3_fault : GoodIn wsL_law (wsV RL 97 RX3 yX3_fault wsX3_fault) := goodIn_app (goodIn_of _ (by decide +kernel)) ggL_law_X3_fault
theorem dL_law_0 : decode cL_law 0 = .ok (.new 8, 3) := by decide +kernel
theorem dL_law_3 : decode cL_law 3 = .ok (.dup, 1) := by decide +kernel
theorem dL_law_4 : decode cL_law 4 = .ok (.aload_n 0, 1) := by decide +kernel
theorem dL_law_5 : decode cL_law 5 = .ok (.iconst 0, 1) := by decide +kernel
theorem dL_law_6 : decode cL_law 6 = .ok (.invokestatic 21, 3) := by decide +kernel
theorem dL_law_9 : decode cL_law 9 = .ok (.invokespecial 27, 3) := by decide +kernel
theorem dL_law_12 : decode cL_law 12 = .ok (.astore_n 1, 1) := by decide +kernel
theorem dL_law_13 : decode cL_law 13 = .ok (.new 30, 3) := by decide +kernel
theorem dL_law_16 : decode cL_law 16 = .ok (.dup, 1) := by decide +kernel
theorem dL_law_17 : decode cL_law 17 = .ok (.aload_n 0, 1) := by decide +kernel
theorem dL_law_18 : decode cL_law 18 = .ok (.iconst 0, 1) := by decide +kernel
theorem dL_law_19 : decode cL_law 19 = .ok (.invokestatic 21, 3) := by decide +kernel
theorem dL_law_22 : decode cL_law 22 = .ok (.invokespecial 32, 3) := by decide +kernel
theorem dL_law_25 : decode cL_law 25 = .ok (.astore_n 2, 1) := by decide +kernel
theorem dL_law_26 : decode cL_law 26 = .ok (.iconst 1, 1) := by decide +kernel
theorem dL_law_27 : decode cL_law 27 = .ok (.newarray .long, 2) := by decide +kernel
theorem dL_law_29 : decode cL_law 29 = .ok (.astore_n 3, 1) := by decide +kernel
theorem dL_law_30 : decode cL_law 30 = .ok (.iconst 1, 1) := by decide +kernel
theorem dL_law_31 : decode cL_law 31 = .ok (.istore 4, 2) := by decide +kernel
theorem dL_law_33 : decode cL_law 33 = .ok (.iload 4, 2) := by decide +kernel
theorem dL_law_35 : decode cL_law 35 = .ok (.aload_n 0, 1) := by decide +kernel
theorem dL_law_36 : decode cL_law 36 = .ok (.arraylength, 1) := by decide +kernel
theorem dL_law_37 : decode cL_law 37 = .ok (.bipush 8, 2) := by decide +kernel
theorem dL_law_39 : decode cL_law 39 = .ok (.isub, 1) := by decide +kernel
theorem dL_law_40 : decode cL_law 40 = .ok (.if_icmp .gt 725, 3) := by decide +kernel
theorem dL_law_43 : decode cL_law 43 = .ok (.aload_n 0, 1) := by decide +kernel
theorem dL_law_44 : decode cL_law 44 = .ok (.iload 4, 2) := by decide +kernel
theorem dL_law_46 : decode cL_law 46 = .ok (.iaload, 1) := by decide +kernel
theorem dL_law_47 : decode cL_law 47 = .ok (.bipush 15, 2) := by decide +kernel
theorem dL_law_49 : decode cL_law 49 = .ok (.iand, 1) := by decide +kernel
theorem dL_law_50 : decode cL_law 50 = .ok (.tableswitch 709 0 12 #[66, 258, 284, 337, 404, 445, 470, 539, 552, 609, 634, 671, 684], 66) := by decide +kernel
theorem dL_law_116 : decode cL_law 116 = .ok (.aload_n 1, 1) := by decide +kernel
theorem dL_law_117 : decode cL_law 117 = .ok (.aload_n 0, 1) := by decide +kernel
theorem dL_law_118 : decode cL_law 118 = .ok (.iload 4, 2) := by decide +kernel
theorem dL_law_120 : decode cL_law 120 = .ok (.iconst 1, 1) := by decide +kernel
theorem dL_law_121 : decode cL_law 121 = .ok (.iadd, 1) := by decide +kernel
theorem dL_law_122 : decode cL_law 122 = .ok (.iaload, 1) := by decide +kernel
theorem dL_law_123 : decode cL_law 123 = .ok (.aload_n 0, 1) := by decide +kernel
theorem dL_law_124 : decode cL_law 124 = .ok (.iload 4, 2) := by decide +kernel
theorem dL_law_126 : decode cL_law 126 = .ok (.iconst 2, 1) := by decide +kernel
theorem dL_law_127 : decode cL_law 127 = .ok (.iadd, 1) := by decide +kernel
theorem dL_law_128 : decode cL_law 128 = .ok (.iaload, 1) := by decide +kernel
theorem dL_law_129 : decode cL_law 129 = .ok (.i2l, 1) := by decide +kernel
theorem dL_law_130 : decode cL_law 130 = .ok (.bipush 32, 2) := by decide +kernel
theorem dL_law_132 : decode cL_law 132 = .ok (.lshl, 1) := by decide +kernel
theorem dL_law_133 : decode cL_law 133 = .ok (.aload_n 0, 1) := by decide +kernel
theorem dL_law_134 : decode cL_law 134 = .ok (.iload 4, 2) := by decide +kernel
theorem dL_law_136 : decode cL_law 136 = .ok (.iconst 3, 1) := by decide +kernel
theorem dL_law_137 : decode cL_law 137 = .ok (.iadd, 1) := by decide +kernel
theorem dL_law_138 : decode cL_law 138 = .ok (.iaload, 1) := by decide +kernel
theorem dL_law_139 : decode cL_law 139 = .ok (.i2l, 1) := by decide +kernel
theorem dL_law_140 : decode cL_law 140 = .ok (.ldc2_w 33, 3) := by decide +kernel
theorem dL_law_143 : decode cL_law 143 = .ok (.land, 1) := by decide +kernel
theorem dL_law_144 : decode cL_law 144 = .ok (.lor, 1) := by decide +kernel
theorem dL_law_145 : decode cL_law 145 = .ok (.aload_n 0, 1) := by decide +kernel
theorem dL_law_146 : decode cL_law 146 = .ok (.iload 4, 2) := by decide +kernel
theorem dL_law_148 : decode cL_law 148 = .ok (.iconst 4, 1) := by decide +kernel
theorem dL_law_149 : decode cL_law 149 = .ok (.iadd, 1) := by decide +kernel
theorem dL_law_150 : decode cL_law 150 = .ok (.iaload, 1) := by decide +kernel
theorem dL_law_151 : decode cL_law 151 = .ok (.i2l, 1) := by decide +kernel
theorem dL_law_152 : decode cL_law 152 = .ok (.bipush 32, 2) := by decide +kernel
theorem dL_law_154 : decode cL_law 154 = .ok (.lshl, 1) := by decide +kernel
theorem dL_law_155 : decode cL_law 155 = .ok (.aload_n 0, 1) := by decide +kernel
theorem dL_law_156 : decode cL_law 156 = .ok (.iload 4, 2) := by decide +kernel
theorem dL_law_158 : decode cL_law 158 = .ok (.iconst 5, 1) := by decide +kernel
theorem dL_law_159 : decode cL_law 159 = .ok (.iadd, 1) := by decide +kernel
theorem dL_law_160 : decode cL_law 160 = .ok (.iaload, 1) := by decide +kernel
theorem dL_law_161 : decode cL_law 161 = .ok (.i2l, 1) := by decide +kernel
theorem dL_law_162 : decode cL_law 162 = .ok (.ldc2_w 33, 3) := by decide +kernel
theorem dL_law_165 : decode cL_law 165 = .ok (.land, 1) := by decide +kernel
theorem dL_law_166 : decode cL_law 166 = .ok (.lor, 1) := by decide +kernel
theorem dL_law_167 : decode cL_law 167 = .ok (.aload_n 0, 1) := by decide +kernel
theorem dL_law_168 : decode cL_law 168 = .ok (.iload 4, 2) := by decide +kernel
theorem dL_law_170 : decode cL_law 170 = .ok (.bipush 6, 2) := by decide +kernel
theorem dL_law_172 : decode cL_law 172 = .ok (.iadd, 1) := by decide +kernel
theorem dL_law_173 : decode cL_law 173 = .ok (.iaload, 1) := by decide +kernel
theorem dL_law_174 : decode cL_law 174 = .ok (.i2l, 1) := by decide +kernel
theorem dL_law_175 : decode cL_law 175 = .ok (.bipush 32, 2) := by decide +kernel
theorem dL_law_177 : decode cL_law 177 = .ok (.lshl, 1) := by decide +kernel
theorem dL_law_178 : decode cL_law 178 = .ok (.aload_n 0, 1) := by decide +kernel
theorem dL_law_179 : decode cL_law 179 = .ok (.iload 4, 2) := by decide +kernel
theorem dL_law_181 : decode cL_law 181 = .ok (.bipush 7, 2) := by decide +kernel
theorem dL_law_183 : decode cL_law 183 = .ok (.iadd, 1) := by decide +kernel
theorem dL_law_184 : decode cL_law 184 = .ok (.iaload, 1) := by decide +kernel
theorem dL_law_185 : decode cL_law 185 = .ok (.i2l, 1) := by decide +kernel
theorem dL_law_186 : decode cL_law 186 = .ok (.ldc2_w 33, 3) := by decide +kernel
theorem dL_law_189 : decode cL_law 189 = .ok (.land, 1) := by decide +kernel
theorem dL_law_190 : decode cL_law 190 = .ok (.lor, 1) := by decide +kernel
theorem dL_law_191 : decode cL_law 191 = .ok (.aload_n 3, 1) := by decide +kernel
theorem dL_law_192 : decode cL_law 192 = .ok (.invokestatic 35, 3) := by decide +kernel
theorem dL_law_195 : decode cL_law 195 = .ok (.istore 5, 2) := by decide +kernel
theorem dL_law_197 : decode cL_law 197 = .ok (.aload_n 2, 1) := by decide +kernel
theorem dL_law_198 : decode cL_law 198 = .ok (.aload_n 0, 1) := by decide +kernel
theorem dL_law_199 : decode cL_law 199 = .ok (.iload 4, 2) := by decide +kernel
theorem dL_law_201 : decode cL_law 201 = .ok (.iconst 1, 1) := by decide +kernel
theorem dL_law_202 : decode cL_law 202 = .ok (.iadd, 1) := by decide +kernel
theorem dL_law_203 : decode cL_law 203 = .ok (.iaload, 1) := by decide +kernel
theorem dL_law_204 : decode cL_law 204 = .ok (.aload_n 0, 1) := by decide +kernel
theorem dL_law_205 : decode cL_law 205 = .ok (.iload 4, 2) := by decide +kernel
theorem dL_law_207 : decode cL_law 207 = .ok (.iconst 2, 1) := by decide +kernel
theorem dL_law_208 : decode cL_law 208 = .ok (.iadd, 1) := by decide +kernel
theorem dL_law_209 : decode cL_law 209 = .ok (.iaload, 1) := by decide +kernel
theorem dL_law_210 : decode cL_law 210 = .ok (.i2l, 1) := by decide +kernel
theorem dL_law_211 : decode cL_law 211 = .ok (.bipush 32, 2) := by decide +kernel
theorem dL_law_213 : decode cL_law 213 = .ok (.lshl, 1) := by decide +kernel
theorem dL_law_214 : decode cL_law 214 = .ok (.aload_n 0, 1) := by decide +kernel
theorem dL_law_215 : decode cL_law 215 = .ok (.iload 4, 2) := by decide +kernel
theorem dL_law_217 : decode cL_law 217 = .ok (.iconst 3, 1) := by decide +kernel
theorem dL_law_218 : decode cL_law 218 = .ok (.iadd, 1) := by decide +kernel
theorem dL_law_219 : decode cL_law 219 = .ok (.iaload, 1) := by decide +kernel
theorem dL_law_220 : decode cL_law 220 = .ok (.i2l, 1) := by decide +kernel
theorem dL_law_221 : decode cL_law 221 = .ok (.ldc2_w 33, 3) := by decide +kernel
theorem dL_law_224 : decode cL_law 224 = .ok (.land, 1) := by decide +kernel
theorem dL_law_225 : decode cL_law 225 = .ok (.lor, 1) := by decide +kernel
theorem dL_law_226 : decode cL_law 226 = .ok (.aload_n 0, 1) := by decide +kernel
theorem dL_law_227 : decode cL_law 227 = .ok (.iload 4, 2) := by decide +kernel
theorem dL_law_229 : decode cL_law 229 = .ok (.iconst 4, 1) := by decide +kernel
theorem dL_law_230 : decode cL_law 230 = .ok (.iadd, 1) := by decide +kernel
theorem dL_law_231 : decode cL_law 231 = .ok (.iaload, 1) := by decide +kernel
theorem dL_law_232 : decode cL_law 232 = .ok (.i2l, 1) := by decide +kernel
theorem dL_law_233 : decode cL_law 233 = .ok (.bipush 32, 2) := by decide +kernel
theorem dL_law_235 : decode cL_law 235 = .ok (.lshl, 1) := by decide +kernel
theorem dL_law_236 : decode cL_law 236 = .ok (.aload_n 0, 1) := by decide +kernel
theorem dL_law_237 : decode cL_law 237 = .ok (.iload 4, 2) := by decide +kernel
theorem dL_law_239 : decode cL_law 239 = .ok (.iconst 5, 1) := by decide +kernel
theorem dL_law_240 : decode cL_law 240 = .ok (.iadd, 1) := by decide +kernel
theorem dL_law_241 : decode cL_law 241 = .ok (.iaload, 1) := by decide +kernel
theorem dL_law_242 : decode cL_law 242 = .ok (.i2l, 1) := by decide +kernel
theorem dL_law_243 : decode cL_law 243 = .ok (.ldc2_w 33, 3) := by decide +kernel
theorem dL_law_246 : decode cL_law 246 = .ok (.land, 1) := by decide +kernel
theorem dL_law_247 : decode cL_law 247 = .ok (.lor, 1) := by decide +kernel
theorem dL_law_248 : decode cL_law 248 = .ok (.aload_n 0, 1) := by decide +kernel
theorem dL_law_249 : decode cL_law 249 = .ok (.iload 4, 2) := by decide +kernel
theorem dL_law_251 : decode cL_law 251 = .ok (.bipush 6, 2) := by decide +kernel
theorem dL_law_253 : decode cL_law 253 = .ok (.iadd, 1) := by decide +kernel
theorem dL_law_254 : decode cL_law 254 = .ok (.iaload, 1) := by decide +kernel
theorem dL_law_255 : decode cL_law 255 = .ok (.i2l, 1) := by decide +kernel
theorem dL_law_256 : decode cL_law 256 = .ok (.bipush 32, 2) := by decide +kernel
theorem dL_law_258 : decode cL_law 258 = .ok (.lshl, 1) := by decide +kernel
theorem dL_law_259 : decode cL_law 259 = .ok (.aload_n 0, 1) := by decide +kernel
theorem dL_law_260 : decode cL_law 260 = .ok (.iload 4, 2) := by decide +kernel
theorem dL_law_262 : decode cL_law 262 = .ok (.bipush 7, 2) := by decide +kernel
theorem dL_law_264 : decode cL_law 264 = .ok (.iadd, 1) := by decide +kernel
theorem dL_law_265 : decode cL_law 265 = .ok (.iaload, 1) := by decide +kernel
theorem dL_law_266 : decode cL_law 266 = .ok (.i2l, 1) := by decide +kernel
theorem dL_law_267 : decode cL_law 267 = .ok (.ldc2_w 33, 3) := by decide +kernel
theorem dL_law_270 : decode cL_law 270 = .ok (.land, 1) := by decide +kernel
theorem dL_law_271 : decode cL_law 271 = .ok (.lor, 1) := by decide +kernel
theorem dL_law_272 : decode cL_law 272 = .ok (.invokevirtual 38, 3) := by decide +kernel
theorem dL_law_275 : decode cL_law 275 = .ok (.istore 6, 2) := by decide +kernel
theorem dL_law_277 : decode cL_law 277 = .ok (.aload_n 2, 1) := by decide +kernel
theorem dL_law_278 : decode cL_law 278 = .ok (.invokevirtual 39, 3) := by decide +kernel
theorem dL_law_281 : decode cL_law 281 = .ok (.iload 5, 2) := by decide +kernel
theorem dL_law_283 : decode cL_law 283 = .ok (.if_icmp .eq 5, 3) := by decide +kernel
theorem dL_law_286 : decode cL_law 286 = .ok (.iconst 0, 1) := by decide +kernel
theorem dL_law_287 : decode cL_law 287 = .ok (.ireturn, 1) := by decide +kernel
theorem dL_law_288 : decode cL_law 288 = .ok (.iload 5, 2) := by decide +kernel
theorem dL_law_290 : decode cL_law 290 = .ok (.ifCond .ne 15, 3) := by decide +kernel
theorem dL_law_293 : decode cL_law 293 = .ok (.aload_n 3, 1) := by decide +kernel
theorem dL_law_294 : decode cL_law 294 = .ok (.iconst 0, 1) := by decide +kernel
theorem dL_law_295 : decode cL_law 295 = .ok (.laload, 1) := by decide +kernel
theorem dL_law_296 : decode cL_law 296 = .ok (.iload 6, 2) := by decide +kernel
theorem dL_law_298 : decode cL_law 298 = .ok (.i2l, 1) := by decide +kernel
theorem dL_law_299 : decode cL_law 299 = .ok (.lcmp, 1) := by decide +kernel
theorem dL_law_300 : decode cL_law 300 = .ok (.ifCond .eq 5, 3) := by decide +kernel
theorem dL_law_303 : decode cL_law 303 = .ok (.iconst 0, 1) := by decide +kernel
theorem dL_law_304 : decode cL_law 304 = .ok (.ireturn, 1) := by decide +kernel
theorem dL_law_305 : decode cL_law 305 = .ok (.goto 454, 3) := by decide +kernel
theorem dL_law_308 : decode cL_law 308 = .ok (.aload_n 1, 1) := by decide +kernel
theorem dL_law_309 : decode cL_law 309 = .ok (.aload_n 0, 1) := by decide +kernel
theorem dL_law_310 : decode cL_law 310 = .ok (.iload 4, 2) := by decide +kernel
theorem dL_law_312 : decode cL_law 312 = .ok (.iconst 1, 1) := by decide +kernel
theorem dL_law_313 : decode cL_law 313 = .ok (.iadd, 1) := by decide +kernel
theorem dL_law_314 : decode cL_law 314 = .ok (.iaload, 1) := by decide +kernel
theorem dL_law_315 : decode cL_law 315 = .ok (.invokevirtual 43, 3) := by decide +kernel
theorem dL_law_318 : decode cL_law 318 = .ok (.aload_n 2, 1) := by decide +kernel
theorem dL_law_319 : decode cL_law 319 = .ok (.aload_n 0, 1) := by decide +kernel
theorem dL_law_320 : decode cL_law 320 = .ok (.iload 4, 2) := by decide +kernel
theorem dL_law_322 : decode cL_law 322 = .ok (.iconst 1, 1) := by decide +kernel
theorem dL_law_323 : decode cL_law 323 = .ok (.iadd, 1) := by decide +kernel
theorem dL_law_324 : decode cL_law 324 = .ok (.iaload, 1) := by decide +kernel
theorem dL_law_325 : decode cL_law 325 = .ok (.invokevirtual 47, 3) := by decide +kernel
theorem dL_law_328 : decode cL_law 328 = .ok (.lcmp, 1) := by decide +kernel
theorem dL_law_329 : decode cL_law 329 = .ok (.ifCond .eq 430, 3) := by decide +kernel
theorem dL_law_332 : decode cL_law 332 = .ok (.iconst 0, 1) := by decide +kernel
theorem dL_law_333 : decode cL_law 333 = .ok (.ireturn, 1) := by decide +kernel
theorem dL_law_334 : decode cL_law 334 = .ok (.aload_n 1, 1) := by decide +kernel
theorem dL_law_335 : decode cL_law 335 = .ok (.aload_n 0, 1) := by decide +kernel
theorem dL_law_336 : decode cL_law 336 = .ok (.iload 4, 2) := by decide +kernel
theorem dL_law_338 : decode cL_law 338 = .ok (.iconst 1, 1) := by decide +kernel
theorem dL_law_339 : decode cL_law 339 = .ok (.iadd, 1) := by decide +kernel
theorem dL_law_340 : decode cL_law 340 = .ok (.iaload, 1) := by decide +kernel
theorem dL_law_341 : decode cL_law 341 = .ok (.invokevirtual 48, 3) := by decide +kernel
theorem dL_law_344 : decode cL_law 344 = .ok (.dstore 5, 2) := by decide +kernel
theorem dL_law_346 : decode cL_law 346 = .ok (.aload_n 2, 1) := by decide +kernel
theorem dL_law_347 : decode cL_law 347 = .ok (.aload_n 0, 1) := by decide +kernel
theorem dL_law_348 : decode cL_law 348 = .ok (.iload 4, 2) := by decide +kernel
theorem dL_law_350 : decode cL_law 350 = .ok (.iconst 1, 1) := by decide +kernel
theorem dL_law_351 : decode cL_law 351 = .ok (.iadd, 1) := by decide +kernel
theorem dL_law_352 : decode cL_law 352 = .ok (.iaload, 1) := by decide +kernel
theorem dL_law_353 : decode cL_law 353 = .ok (.invokevirtual 52, 3) := by decide +kernel
theorem dL_law_356 : decode cL_law 356 = .ok (.dstore 7, 2) := by decide +kernel
theorem dL_law_358 : decode cL_law 358 = .ok (.dload 5, 2) := by decide +kernel
theorem dL_law_360 : decode cL_law 360 = .ok (.dload 7, 2) := by decide +kernel
theorem dL_law_362 : decode cL_law 362 = .ok (.dcmp .l, 1) := by decide +kernel
theorem dL_law_363 : decode cL_law 363 = .ok (.ifCond .eq 21, 3) := by decide +kernel
theorem dL_law_366 : decode cL_law 366 = .ok (.dload 5, 2) := by decide +kernel
theorem dL_law_368 : decode cL_law 368 = .ok (.dload 5, 2) := by decide +kernel
theorem dL_law_370 : decode cL_law 370 = .ok (.dcmp .l, 1) := by decide +kernel
theorem dL_law_371 : decode cL_law 371 = .ok (.ifCond .eq 11, 3) := by decide +kernel
theorem dL_law_374 : decode cL_law 374 = .ok (.dload 7, 2) := by decide +kernel
theorem dL_law_376 : decode cL_law 376 = .ok (.dload 7, 2) := by decide +kernel
theorem dL_law_378 : decode cL_law 378 = .ok (.dcmp .l, 1) := by decide +kernel
theorem dL_law_379 : decode cL_law 379 = .ok (.ifCond .ne 5, 3) := by decide +kernel
theorem dL_law_382 : decode cL_law 382 = .ok (.iconst 0, 1) := by decide +kernel
theorem dL_law_383 : decode cL_law 383 = .ok (.ireturn, 1) := by decide +kernel
theorem dL_law_384 : decode cL_law 384 = .ok (.goto 375, 3) := by decide +kernel
theorem dL_law_387 : decode cL_law 387 = .ok (.aload_n 1, 1) := by decide +kernel
theorem dL_law_388 : decode cL_law 388 = .ok (.aload_n 0, 1) := by decide +kernel
theorem dL_law_389 : decode cL_law 389 = .ok (.iload 4, 2) := by decide +kernel
theorem dL_law_391 : decode cL_law 391 = .ok (.iconst 1, 1) := by decide +kernel
theorem dL_law_392 : decode cL_law 392 = .ok (.iadd, 1) := by decide +kernel
theorem dL_law_393 : decode cL_law 393 = .ok (.iaload, 1) := by decide +kernel
theorem dL_law_394 : decode cL_law 394 = .ok (.aload_n 0, 1) := by decide +kernel
theorem dL_law_395 : decode cL_law 395 = .ok (.iload 4, 2) := by decide +kernel
theorem dL_law_397 : decode cL_law 397 = .ok (.iconst 2, 1) := by decide +kernel
theorem dL_law_398 : decode cL_law 398 = .ok (.iadd, 1) := by decide +kernel
theorem dL_law_399 : decode cL_law 399 = .ok (.iaload, 1) := by decide +kernel
theorem dL_law_400 : decode cL_law 400 = .ok (.aload_n 3, 1) := by decide +kernel
theorem dL_law_401 : decode cL_law 401 = .ok (.invokestatic 53, 3) := by decide +kernel
theorem dL_law_404 : decode cL_law 404 = .ok (.istore 5, 2) := by decide +kernel
theorem dL_law_406 : decode cL_law 406 = .ok (.aload_n 2, 1) := by decide +kernel
theorem dL_law_407 : decode cL_law 407 = .ok (.aload_n 0, 1) := by decide +kernel
theorem dL_law_408 : decode cL_law 408 = .ok (.iload 4, 2) := by decide +kernel
theorem dL_law_410 : decode cL_law 410 = .ok (.iconst 1, 1) := by decide +kernel
theorem dL_law_411 : decode cL_law 411 = .ok (.iadd, 1) := by decide +kernel
theorem dL_law_412 : decode cL_law 412 = .ok (.iaload, 1) := by decide +kernel
theorem dL_law_413 : decode cL_law 413 = .ok (.aload_n 0, 1) := by decide +kernel
theorem dL_law_414 : decode cL_law 414 = .ok (.iload 4, 2) := by decide +kernel
theorem dL_law_416 : decode cL_law 416 = .ok (.iconst 2, 1) := by decide +kernel
theorem dL_law_417 : decode cL_law 417 = .ok (.iadd, 1) := by decide +kernel
theorem dL_law_418 : decode cL_law 418 = .ok (.iaload, 1) := by decide +kernel
theorem dL_law_419 : decode cL_law 419 = .ok (.invokevirtual 56, 3) := by decide +kernel
theorem dL_law_422 : decode cL_law 422 = .ok (.lstore 6, 2) := by decide +kernel
theorem dL_law_424 : decode cL_law 424 = .ok (.aload_n 2, 1) := by decide +kernel
theorem dL_law_425 : decode cL_law 425 = .ok (.invokevirtual 39, 3) := by decide +kernel
theorem dL_law_428 : decode cL_law 428 = .ok (.iload 5, 2) := by decide +kernel
theorem dL_law_430 : decode cL_law 430 = .ok (.if_icmp .eq 5, 3) := by decide +kernel
theorem dL_law_433 : decode cL_law 433 = .ok (.iconst 0, 1) := by decide +kernel
theorem dL_law_434 : decode cL_law 434 = .ok (.ireturn, 1) := by decide +kernel
theorem dL_law_435 : decode cL_law 435 = .ok (.iload 5, 2) := by decide +kernel
theorem dL_law_437 : decode cL_law 437 = .ok (.ifCond .ne 14, 3) := by decide +kernel
theorem dL_law_440 : decode cL_law 440 = .ok (.aload_n 3, 1) := by decide +kernel
theorem dL_law_441 : decode cL_law 441 = .ok (.iconst 0, 1) := by decide +kernel
theorem dL_law_442 : decode cL_law 442 = .ok (.laload, 1) := by decide +kernel
theorem dL_law_443 : decode cL_law 443 = .ok (.lload 6, 2) := by decide +kernel
theorem dL_law_445 : decode cL_law 445 = .ok (.lcmp, 1) := by decide +kernel
theorem dL_law_446 : decode cL_law 446 = .ok (.ifCond .eq 5, 3) := by decide +kernel
theorem dL_law_449 : decode cL_law 449 = .ok (.iconst 0, 1) := by decide +kernel
theorem dL_law_450 : decode cL_law 450 = .ok (.ireturn, 1) := by decide +kernel
theorem dL_law_451 : decode cL_law 451 = .ok (.goto 308, 3) := by decide +kernel
theorem dL_law_454 : decode cL_law 454 = .ok (.aload_n 1, 1) := by decide +kernel
theorem dL_law_455 : decode cL_law 455 = .ok (.aload_n 0, 1) := by decide +kernel
theorem dL_law_456 : decode cL_law 456 = .ok (.iload 4, 2) := by decide +kernel
theorem dL_law_458 : decode cL_law 458 = .ok (.iconst 1, 1) := by decide +kernel
theorem dL_law_459 : decode cL_law 459 = .ok (.iadd, 1) := by decide +kernel
theorem dL_law_460 : decode cL_law 460 = .ok (.iaload, 1) := by decide +kernel
theorem dL_law_461 : decode cL_law 461 = .ok (.ifCond .eq 7, 3) := by decide +kernel
theorem dL_law_464 : decode cL_law 464 = .ok (.iconst 1, 1) := by decide +kernel
theorem dL_law_465 : decode cL_law 465 = .ok (.goto 4, 3) := by decide +kernel
theorem dL_law_468 : decode cL_law 468 = .ok (.iconst 0, 1) := by decide +kernel
theorem dL_law_469 : decode cL_law 469 = .ok (.invokevirtual 57, 3) := by decide +kernel
theorem dL_law_472 : decode cL_law 472 = .ok (.aload_n 2, 1) := by decide +kernel
theorem dL_law_473 : decode cL_law 473 = .ok (.aload_n 0, 1) := by decide +kernel
theorem dL_law_474 : decode cL_law 474 = .ok (.iload 4, 2) := by decide +kernel
theorem dL_law_476 : decode cL_law 476 = .ok (.iconst 1, 1) := by decide +kernel
theorem dL_law_477 : decode cL_law 477 = .ok (.iadd, 1) := by decide +kernel
theorem dL_law_478 : decode cL_law 478 = .ok (.iaload, 1) := by decide +kernel
theorem dL_law_479 : decode cL_law 479 = .ok (.ifCond .eq 7, 3) := by decide +kernel
theorem dL_law_482 : decode cL_law 482 = .ok (.iconst 1, 1) := by decide +kernel
theorem dL_law_483 : decode cL_law 483 = .ok (.goto 4, 3) := by decide +kernel
theorem dL_law_486 : decode cL_law 486 = .ok (.iconst 0, 1) := by decide +kernel
theorem dL_law_487 : decode cL_law 487 = .ok (.invokevirtual 61, 3) := by decide +kernel
theorem dL_law_490 : decode cL_law 490 = .ok (.if_icmp .eq 269, 3) := by decide +kernel
theorem dL_law_493 : decode cL_law 493 = .ok (.iconst 0, 1) := by decide +kernel
theorem dL_law_494 : decode cL_law 494 = .ok (.ireturn, 1) := by decide +kernel
theorem dL_law_495 : decode cL_law 495 = .ok (.aload_n 1, 1) := by decide +kernel
theorem dL_law_496 : decode cL_law 496 = .ok (.aload_n 0, 1) := by decide +kernel
theorem dL_law_497 : decode cL_law 497 = .ok (.iload 4, 2) := by decide +kernel
theorem dL_law_499 : decode cL_law 499 = .ok (.iconst 1, 1) := by decide +kernel
theorem dL_law_500 : decode cL_law 500 = .ok (.iadd, 1) := by decide +kernel
theorem dL_law_501 : decode cL_law 501 = .ok (.iaload, 1) := by decide +kernel
theorem dL_law_502 : decode cL_law 502 = .ok (.invokevirtual 62, 3) := by decide +kernel
theorem dL_law_505 : decode cL_law 505 = .ok (.aload_n 2, 1) := by decide +kernel
theorem dL_law_506 : decode cL_law 506 = .ok (.aload_n 0, 1) := by decide +kernel
theorem dL_law_507 : decode cL_law 507 = .ok (.iload 4, 2) := by decide +kernel
theorem dL_law_509 : decode cL_law 509 = .ok (.iconst 1, 1) := by decide +kernel
theorem dL_law_510 : decode cL_law 510 = .ok (.iadd, 1) := by decide +kernel
theorem dL_law_511 : decode cL_law 511 = .ok (.iaload, 1) := by decide +kernel
theorem dL_law_512 : decode cL_law 512 = .ok (.invokevirtual 66, 3) := by decide +kernel
theorem dL_law_515 : decode cL_law 515 = .ok (.if_icmp .eq 244, 3) := by decide +kernel
theorem dL_law_518 : decode cL_law 518 = .ok (.iconst 0, 1) := by decide +kernel
theorem dL_law_519 : decode cL_law 519 = .ok (.ireturn, 1) := by decide +kernel
theorem dL_law_520 : decode cL_law 520 = .ok (.aload_n 1, 1) := by decide +kernel
theorem dL_law_521 : decode cL_law 521 = .ok (.aload_n 0, 1) := by decide +kernel
theorem dL_law_522 : decode cL_law 522 = .ok (.iload 4, 2) := by decide +kernel
theorem dL_law_524 : decode cL_law 524 = .ok (.iconst 1, 1) := by decide +kernel
theorem dL_law_525 : decode cL_law 525 = .ok (.iadd, 1) := by decide +kernel
theorem dL_law_526 : decode cL_law 526 = .ok (.iaload, 1) := by decide +kernel
theorem dL_law_527 : decode cL_law 527 = .ok (.aload_n 0, 1) := by decide +kernel
theorem dL_law_528 : decode cL_law 528 = .ok (.iload 4, 2) := by decide +kernel
theorem dL_law_530 : decode cL_law 530 = .ok (.iconst 2, 1) := by decide +kernel
theorem dL_law_531 : decode cL_law 531 = .ok (.iadd, 1) := by decide +kernel
theorem dL_law_532 : decode cL_law 532 = .ok (.iaload, 1) := by decide +kernel
theorem dL_law_533 : decode cL_law 533 = .ok (.i2l, 1) := by decide +kernel
theorem dL_law_534 : decode cL_law 534 = .ok (.bipush 32, 2) := by decide +kernel
theorem dL_law_536 : decode cL_law 536 = .ok (.lshl, 1) := by decide +kernel
theorem dL_law_537 : decode cL_law 537 = .ok (.aload_n 0, 1) := by decide +kernel
theorem dL_law_538 : decode cL_law 538 = .ok (.iload 4, 2) := by decide +kernel
theorem dL_law_540 : decode cL_law 540 = .ok (.iconst 3, 1) := by decide +kernel
theorem dL_law_541 : decode cL_law 541 = .ok (.iadd, 1) := by decide +kernel
theorem dL_law_542 : decode cL_law 542 = .ok (.iaload, 1) := by decide +kernel
theorem dL_law_543 : decode cL_law 543 = .ok (.i2l, 1) := by decide +kernel
theorem dL_law_544 : decode cL_law 544 = .ok (.ldc2_w 33, 3) := by decide +kernel
theorem dL_law_547 : decode cL_law 547 = .ok (.land, 1) := by decide +kernel
theorem dL_law_548 : decode cL_law 548 = .ok (.lor, 1) := by decide +kernel
theorem dL_law_549 : decode cL_law 549 = .ok (.invokevirtual 67, 3) := by decide +kernel
theorem dL_law_552 : decode cL_law 552 = .ok (.aload_n 2, 1) := by decide +kernel
theorem dL_law_553 : decode cL_law 553 = .ok (.aload_n 0, 1) := by decide +kernel
theorem dL_law_554 : decode cL_law 554 = .ok (.iload 4, 2) := by decide +kernel
theorem dL_law_556 : decode cL_law 556 = .ok (.iconst 1, 1) := by decide +kernel
theorem dL_law_557 : decode cL_law 557 = .ok (.iadd, 1) := by decide +kernel
theorem dL_law_558 : decode cL_law 558 = .ok (.iaload, 1) := by decide +kernel
theorem dL_law_559 : decode cL_law 559 = .ok (.aload_n 0, 1) := by decide +kernel
theorem dL_law_560 : decode cL_law 560 = .ok (.iload 4, 2) := by decide +kernel
theorem dL_law_562 : decode cL_law 562 = .ok (.iconst 2, 1) := by decide +kernel
theorem dL_law_563 : decode cL_law 563 = .ok (.iadd, 1) := by decide +kernel
theorem dL_law_564 : decode cL_law 564 = .ok (.iaload, 1) := by decide +kernel
theorem dL_law_565 : decode cL_law 565 = .ok (.i2l, 1) := by decide +kernel
theorem dL_law_566 : decode cL_law 566 = .ok (.bipush 32, 2) := by decide +kernel
theorem dL_law_568 : decode cL_law 568 = .ok (.lshl, 1) := by decide +kernel
theorem dL_law_569 : decode cL_law 569 = .ok (.aload_n 0, 1) := by decide +kernel
theorem dL_law_570 : decode cL_law 570 = .ok (.iload 4, 2) := by decide +kernel
theorem dL_law_572 : decode cL_law 572 = .ok (.iconst 3, 1) := by decide +kernel
theorem dL_law_573 : decode cL_law 573 = .ok (.iadd, 1) := by decide +kernel
theorem dL_law_574 : decode cL_law 574 = .ok (.iaload, 1) := by decide +kernel
theorem dL_law_575 : decode cL_law 575 = .ok (.i2l, 1) := by decide +kernel
theorem dL_law_576 : decode cL_law 576 = .ok (.ldc2_w 33, 3) := by decide +kernel
theorem dL_law_579 : decode cL_law 579 = .ok (.land, 1) := by decide +kernel
theorem dL_law_580 : decode cL_law 580 = .ok (.lor, 1) := by decide +kernel
theorem dL_law_581 : decode cL_law 581 = .ok (.invokevirtual 71, 3) := by decide +kernel
theorem dL_law_584 : decode cL_law 584 = .ok (.if_icmp .eq 175, 3) := by decide +kernel
theorem dL_law_587 : decode cL_law 587 = .ok (.iconst 0, 1) := by decide +kernel
theorem dL_law_588 : decode cL_law 588 = .ok (.ireturn, 1) := by decide +kernel
theorem dL_law_589 : decode cL_law 589 = .ok (.aload_n 1, 1) := by decide +kernel
theorem dL_law_590 : decode cL_law 590 = .ok (.invokevirtual 72, 3) := by decide +kernel
theorem dL_law_593 : decode cL_law 593 = .ok (.aload_n 2, 1) := by decide +kernel
theorem dL_law_594 : decode cL_law 594 = .ok (.invokevirtual 75, 3) := by decide +kernel
theorem dL_law_597 : decode cL_law 597 = .ok (.if_icmp .eq 162, 3) := by decide +kernel
theorem dL_law_600 : decode cL_law 600 = .ok (.iconst 0, 1) := by decide +kernel
theorem dL_law_601 : decode cL_law 601 = .ok (.ireturn, 1) := by decide +kernel
theorem dL_law_602 : decode cL_law 602 = .ok (.aload_n 1, 1) := by decide +kernel
theorem dL_law_603 : decode cL_law 603 = .ok (.aload_n 0, 1) := by decide +kernel
theorem dL_law_604 : decode cL_law 604 = .ok (.iload 4, 2) := by decide +kernel
theorem dL_law_606 : decode cL_law 606 = .ok (.iconst 1, 1) := by decide +kernel
theorem dL_law_607 : decode cL_law 607 = .ok (.iadd, 1) := by decide +kernel
theorem dL_law_608 : decode cL_law 608 = .ok (.iaload, 1) := by decide +kernel
theorem dL_law_609 : decode cL_law 609 = .ok (.i2l, 1) := by decide +kernel
theorem dL_law_610 : decode cL_law 610 = .ok (.bipush 32, 2) := by decide +kernel
theorem dL_law_612 : decode cL_law 612 = .ok (.lshl, 1) := by decide +kernel
theorem dL_law_613 : decode cL_law 613 = .ok (.aload_n 0, 1) := by decide +kernel
theorem dL_law_614 : decode cL_law 614 = .ok (.iload 4, 2) := by decide +kernel
theorem dL_law_616 : decode cL_law 616 = .ok (.iconst 2, 1) := by decide +kernel
theorem dL_law_617 : decode cL_law 617 = .ok (.iadd, 1) := by decide +kernel
theorem dL_law_618 : decode cL_law 618 = .ok (.iaload, 1) := by decide +kernel
theorem dL_law_619 : decode cL_law 619 = .ok (.i2l, 1) := by decide +kernel
theorem dL_law_620 : decode cL_law 620 = .ok (.ldc2_w 33, 3) := by decide +kernel
theorem dL_law_623 : decode cL_law 623 = .ok (.land, 1) := by decide +kernel
theorem dL_law_624 : decode cL_law 624 = .ok (.lor, 1) := by decide +kernel
theorem dL_law_625 : decode cL_law 625 = .ok (.invokevirtual 76, 3) := by decide +kernel
theorem dL_law_628 : decode cL_law 628 = .ok (.aload_n 2, 1) := by decide +kernel
theorem dL_law_629 : decode cL_law 629 = .ok (.aload_n 0, 1) := by decide +kernel
theorem dL_law_630 : decode cL_law 630 = .ok (.iload 4, 2) := by decide +kernel
theorem dL_law_632 : decode cL_law 632 = .ok (.iconst 1, 1) := by decide +kernel
theorem dL_law_633 : decode cL_law 633 = .ok (.iadd, 1) := by decide +kernel
theorem dL_law_634 : decode cL_law 634 = .ok (.iaload, 1) := by decide +kernel
theorem dL_law_635 : decode cL_law 635 = .ok (.i2l, 1) := by decide +kernel
theorem dL_law_636 : decode cL_law 636 = .ok (.bipush 32, 2) := by decide +kernel
theorem dL_law_638 : decode cL_law 638 = .ok (.lshl, 1) := by decide +kernel
theorem dL_law_639 : decode cL_law 639 = .ok (.aload_n 0, 1) := by decide +kernel
theorem dL_law_640 : decode cL_law 640 = .ok (.iload 4, 2) := by decide +kernel
theorem dL_law_642 : decode cL_law 642 = .ok (.iconst 2, 1) := by decide +kernel
theorem dL_law_643 : decode cL_law 643 = .ok (.iadd, 1) := by decide +kernel
theorem dL_law_644 : decode cL_law 644 = .ok (.iaload, 1) := by decide +kernel
theorem dL_law_645 : decode cL_law 645 = .ok (.i2l, 1) := by decide +kernel
theorem dL_law_646 : decode cL_law 646 = .ok (.ldc2_w 33, 3) := by decide +kernel
theorem dL_law_649 : decode cL_law 649 = .ok (.land, 1) := by decide +kernel
theorem dL_law_650 : decode cL_law 650 = .ok (.lor, 1) := by decide +kernel
theorem dL_law_651 : decode cL_law 651 = .ok (.invokevirtual 80, 3) := by decide +kernel
theorem dL_law_654 : decode cL_law 654 = .ok (.if_icmp .eq 105, 3) := by decide +kernel
theorem dL_law_657 : decode cL_law 657 = .ok (.iconst 0, 1) := by decide +kernel
theorem dL_law_658 : decode cL_law 658 = .ok (.ireturn, 1) := by decide +kernel
theorem dL_law_659 : decode cL_law 659 = .ok (.aload_n 1, 1) := by decide +kernel
theorem dL_law_660 : decode cL_law 660 = .ok (.aload_n 0, 1) := by decide +kernel
theorem dL_law_661 : decode cL_law 661 = .ok (.iload 4, 2) := by decide +kernel
theorem dL_law_663 : decode cL_law 663 = .ok (.iconst 1, 1) := by decide +kernel
theorem dL_law_664 : decode cL_law 664 = .ok (.iadd, 1) := by decide +kernel
theorem dL_law_665 : decode cL_law 665 = .ok (.iaload, 1) := by decide +kernel
theorem dL_law_666 : decode cL_law 666 = .ok (.invokevirtual 81, 3) := by decide +kernel
theorem dL_law_669 : decode cL_law 669 = .ok (.aload_n 2, 1) := by decide +kernel
theorem dL_law_670 : decode cL_law 670 = .ok (.aload_n 0, 1) := by decide +kernel
theorem dL_law_671 : decode cL_law 671 = .ok (.iload 4, 2) := by decide +kernel
theorem dL_law_673 : decode cL_law 673 = .ok (.iconst 1, 1) := by decide +kernel
theorem dL_law_674 : decode cL_law 674 = .ok (.iadd, 1) := by decide +kernel
theorem dL_law_675 : decode cL_law 675 = .ok (.iaload, 1) := by decide +kernel
theorem dL_law_676 : decode cL_law 676 = .ok (.invokevirtual 84, 3) := by decide +kernel
theorem dL_law_679 : decode cL_law 679 = .ok (.if_icmp .eq 80, 3) := by decide +kernel
theorem dL_law_682 : decode cL_law 682 = .ok (.iconst 0, 1) := by decide +kernel
theorem dL_law_683 : decode cL_law 683 = .ok (.ireturn, 1) := by decide +kernel
theorem dL_law_684 : decode cL_law 684 = .ok (.aload_n 1, 1) := by decide +kernel
theorem dL_law_685 : decode cL_law 685 = .ok (.aload_n 0, 1) := by decide +kernel
theorem dL_law_686 : decode cL_law 686 = .ok (.iload 4, 2) := by decide +kernel
theorem dL_law_688 : decode cL_law 688 = .ok (.iconst 1, 1) := by decide +kernel
theorem dL_law_689 : decode cL_law 689 = .ok (.iadd, 1) := by decide +kernel
theorem dL_law_690 : decode cL_law 690 = .ok (.iaload, 1) := by decide +kernel
theorem dL_law_691 : decode cL_law 691 = .ok (.aload_n 0, 1) := by decide +kernel
theorem dL_law_692 : decode cL_law 692 = .ok (.iload 4, 2) := by decide +kernel
theorem dL_law_694 : decode cL_law 694 = .ok (.iconst 2, 1) := by decide +kernel
theorem dL_law_695 : decode cL_law 695 = .ok (.iadd, 1) := by decide +kernel
theorem dL_law_696 : decode cL_law 696 = .ok (.iaload, 1) := by decide +kernel
theorem dL_law_697 : decode cL_law 697 = .ok (.invokevirtual 85, 3) := by decide +kernel
theorem dL_law_700 : decode cL_law 700 = .ok (.aload_n 2, 1) := by decide +kernel
theorem dL_law_701 : decode cL_law 701 = .ok (.aload_n 0, 1) := by decide +kernel
theorem dL_law_702 : decode cL_law 702 = .ok (.iload 4, 2) := by decide +kernel
theorem dL_law_704 : decode cL_law 704 = .ok (.iconst 1, 1) := by decide +kernel
theorem dL_law_705 : decode cL_law 705 = .ok (.iadd, 1) := by decide +kernel
theorem dL_law_706 : decode cL_law 706 = .ok (.iaload, 1) := by decide +kernel
theorem dL_law_707 : decode cL_law 707 = .ok (.aload_n 0, 1) := by decide +kernel
theorem dL_law_708 : decode cL_law 708 = .ok (.iload 4, 2) := by decide +kernel
theorem dL_law_710 : decode cL_law 710 = .ok (.iconst 2, 1) := by decide +kernel
theorem dL_law_711 : decode cL_law 711 = .ok (.iadd, 1) := by decide +kernel
theorem dL_law_712 : decode cL_law 712 = .ok (.iaload, 1) := by decide +kernel
theorem dL_law_713 : decode cL_law 713 = .ok (.invokevirtual 89, 3) := by decide +kernel
theorem dL_law_716 : decode cL_law 716 = .ok (.if_icmp .eq 43, 3) := by decide +kernel
theorem dL_law_719 : decode cL_law 719 = .ok (.iconst 0, 1) := by decide +kernel
theorem dL_law_720 : decode cL_law 720 = .ok (.ireturn, 1) := by decide +kernel
theorem dL_law_721 : decode cL_law 721 = .ok (.aload_n 1, 1) := by decide +kernel
theorem dL_law_722 : decode cL_law 722 = .ok (.invokevirtual 90, 3) := by decide +kernel
theorem dL_law_725 : decode cL_law 725 = .ok (.aload_n 2, 1) := by decide +kernel
theorem dL_law_726 : decode cL_law 726 = .ok (.invokevirtual 93, 3) := by decide +kernel
theorem dL_law_729 : decode cL_law 729 = .ok (.if_icmp .eq 30, 3) := by decide +kernel
theorem dL_law_732 : decode cL_law 732 = .ok (.iconst 0, 1) := by decide +kernel
theorem dL_law_733 : decode cL_law 733 = .ok (.ireturn, 1) := by decide +kernel
theorem dL_law_734 : decode cL_law 734 = .ok (.aload_n 1, 1) := by decide +kernel
theorem dL_law_735 : decode cL_law 735 = .ok (.aload_n 0, 1) := by decide +kernel
theorem dL_law_736 : decode cL_law 736 = .ok (.iload 4, 2) := by decide +kernel
theorem dL_law_738 : decode cL_law 738 = .ok (.iconst 1, 1) := by decide +kernel
theorem dL_law_739 : decode cL_law 739 = .ok (.iadd, 1) := by decide +kernel
theorem dL_law_740 : decode cL_law 740 = .ok (.iaload, 1) := by decide +kernel
theorem dL_law_741 : decode cL_law 741 = .ok (.invokevirtual 94, 3) := by decide +kernel
theorem dL_law_744 : decode cL_law 744 = .ok (.aload_n 2, 1) := by decide +kernel
theorem dL_law_745 : decode cL_law 745 = .ok (.aload_n 0, 1) := by decide +kernel
theorem dL_law_746 : decode cL_law 746 = .ok (.iload 4, 2) := by decide +kernel
theorem dL_law_748 : decode cL_law 748 = .ok (.iconst 1, 1) := by decide +kernel
theorem dL_law_749 : decode cL_law 749 = .ok (.iadd, 1) := by decide +kernel
theorem dL_law_750 : decode cL_law 750 = .ok (.iaload, 1) := by decide +kernel
theorem dL_law_751 : decode cL_law 751 = .ok (.invokevirtual 97, 3) := by decide +kernel
theorem dL_law_754 : decode cL_law 754 = .ok (.if_icmp .eq 5, 3) := by decide +kernel
theorem dL_law_757 : decode cL_law 757 = .ok (.iconst 0, 1) := by decide +kernel
theorem dL_law_758 : decode cL_law 758 = .ok (.ireturn, 1) := by decide +kernel
theorem dL_law_759 : decode cL_law 759 = .ok (.iinc 4 8, 3) := by decide +kernel
theorem dL_law_762 : decode cL_law 762 = .ok (.goto (-729), 3) := by decide +kernel
theorem dL_law_765 : decode cL_law 765 = .ok (.iconst 1, 1) := by decide +kernel
theorem dL_law_766 : decode cL_law 766 = .ok (.ireturn, 1) := by decide +kernel
end
section
/-! rows of mine over the kit's: branches said by < and = alone, array places that are numbers, joins -/
section RW
variable {p : Program} {l : Launch} {e : Env} {R : Room} {s : State} {m : MethodId} {args : Array Value} {below : List Frame} {meth : Method} {c : Code} {H : Heap} {locs : List Loc} {cells slots : Nat} {Q : State → Prop}
variable {cc : ByteArray} {pc : Nat} {ls : Array Slot} {rest : List Value} {D : va_G} {cl : List vw_C} {A : Nat → Prop} {a : Nat} {tys : List (ClassId × FieldType)} {ws : va_W} {H0 : Heap}
theorem ib_eq (hexec : p.tables.exec = Jvm.exec) (hb : c.code = cc) {x y : Int32} {off : Int} {tgt : Nat} (hdg : decode cc pc = .ok (.if_icmp .eq off, 3)) (ht : (pc : Int) + off = (tgt : Int)) (kt : x = y → W p l e R s m args below meth c H locs cells slots Q (F0 m tgt ls rest)) (kf : ¬ x = y → W p l e R s m args below meth c H locs cells slots Q (F0 m (pc + 3) ls rest)) : W p l e R s m args below meth c H locs cells slots Q (F0 m pc ls (.int y :: .int x :: rest)) := lv_icmp_eq hexec hb hdg ht kt kf
theorem ib_ne (hexec : p.tables.exec = Jvm.exec) (hb : c.code = cc) {x y : Int32} {off : Int} {tgt : Nat} (hdg : decode cc pc = .ok (.if_icmp .ne off, 3)) (ht : (pc : Int) + off = (tgt : Int)) (kt : ¬ x = y → W p l e R s m args below meth c H locs cells slots Q (F0 m tgt ls rest)) (kf : x = y → W p l e R s m args below meth c H locs cells slots Q (F0 m (pc + 3) ls rest)) : W p l e R s m args below meth c H locs cells slots Q (F0 m pc ls (.int y :: .int x :: rest)) := lv_icmp_ne hexec hb hdg ht kt kf
theorem ib_lt (hexec : p.tables.exec = Jvm.exec) (hb : c.code = cc) {x y : Int32} {off : Int} {tgt : Nat} (hdg : decode cc pc = .ok (.if_icmp .lt off, 3)) (ht : (pc : Int) + off = (tgt : Int)) (kt : x < y → W p l e R s m args below meth c H locs cells slots Q (F0 m tgt ls rest)) (kf : ¬ x < y → W p l e R s m args below meth c H locs cells slots Q (F0 m (pc + 3) ls rest)) : W p l e R s m args below meth c H locs cells slots Q (F0 m pc ls (.int y :: .int x :: rest)) := lv_icmp_lt hexec hb hdg ht kt kf
theorem ib_ge (hexec : p.tables.exec = Jvm.exec) (hb : c.code = cc) {x y : Int32} {off : Int} {tgt : Nat} (hdg : decode cc pc = .ok (.if_icmp .ge off, 3)) (ht : (pc : Int) + off = (tgt : Int)) (kt : ¬ x < y → W p l e R s m args below meth c H locs cells slots Q (F0 m tgt ls rest)) (kf : x < y → W p l e R s m args below meth c H locs cells slots Q (F0 m (pc + 3) ls rest)) : W p l e R s m args below meth c H locs cells slots Q (F0 m pc ls (.int y :: .int x :: rest)) := lv_icmp_ge hexec hb hdg ht (fun h => kt (Int32.not_lt.mpr h)) (fun h => kf (Int32.not_le.mp h))
theorem ib_gt (hexec : p.tables.exec = Jvm.exec) (hb : c.code = cc) {x y : Int32} {off : Int} {tgt : Nat} (hdg : decode cc pc = .ok (.if_icmp .gt off, 3)) (ht : (pc : Int) + off = (tgt : Int)) (kt : y < x → W p l e R s m args below meth c H locs cells slots Q (F0 m tgt ls rest)) (kf : ¬ y < x → W p l e R s m args below meth c H locs cells slots Q (F0 m (pc + 3) ls rest)) : W p l e R s m args below meth c H locs cells slots Q (F0 m pc ls (.int y :: .int x :: rest)) := lv_icmp_gt hexec hb hdg ht kt kf
theorem ib_le (hexec : p.tables.exec = Jvm.exec) (hb : c.code = cc) {x y : Int32} {off : Int} {tgt : Nat} (hdg : decode cc pc = .ok (.if_icmp .le off, 3)) (ht : (pc : Int) + off = (tgt : Int)) (kt : ¬ y < x → W p l e R s m args below meth c H locs cells slots Q (F0 m tgt ls rest)) (kf : y < x → W p l e R s m args below meth c H locs cells slots Q (F0 m (pc + 3) ls rest)) : W p l e R s m args below meth c H locs cells slots Q (F0 m pc ls (.int y :: .int x :: rest)) := lv_icmp_le hexec hb hdg ht (fun h => kt (Int32.not_lt.mpr h)) (fun h => kf (Int32.not_le.mp h))
theorem iz_eq (hexec : p.tables.exec = Jvm.exec) (hb : c.code = cc) {x : Int32} {off : Int} {tgt : Nat} (hdg : decode cc pc = .ok (.ifCond .eq off, 3)) (ht : (pc : Int) + off = (tgt : Int)) (kt : x = 0 → W p l e R s m args below meth c H locs cells slots Q (F0 m tgt ls rest)) (kf : ¬ x = 0 → W p l e R s m args below meth c H locs cells slots Q (F0 m (pc + 3) ls rest)) : W p l e R s m args below meth c H locs cells slots Q (F0 m pc ls (.int x :: rest)) := lv_if_eq hexec hb hdg ht kt kf
theorem iz_ne (hexec : p.tables.exec = Jvm.exec) (hb : c.code = cc) {x : Int32} {off : Int} {tgt : Nat} (hdg : decode cc pc = .ok (.ifCond .ne off, 3)) (ht : (pc : Int) + off = (tgt : Int)) (kt : ¬ x = 0 → W p l e R s m args below meth c H locs cells slots Q (F0 m tgt ls rest)) (kf : x = 0 → W p l e R s m args below meth c H locs cells slots Q (F0 m (pc + 3) ls rest)) : W p l e R s m args below meth c H locs cells slots Q (F0 m pc ls (.int x :: rest)) := lv_if_ne hexec hb hdg ht kt kf
theorem iz_lt (hexec : p.tables.exec = Jvm.exec) (hb : c.code = cc) {x : Int32} {off : Int} {tgt : Nat} (hdg : decode cc pc = .ok (.ifCond .lt off, 3)) (ht : (pc : Int) + off = (tgt : Int)) (kt : x < 0 → W p l e R s m args below meth c H locs cells slots Q (F0 m tgt ls rest)) (kf : ¬ x < 0 → W p l e R s m args below meth c H locs cells slots Q (F0 m (pc + 3) ls rest)) : W p l e R s m args below meth c H locs cells slots Q (F0 m pc ls (.int x :: rest)) := lv_if_lt hexec hb hdg ht kt kf
theorem iz_ge (hexec : p.tables.exec = Jvm.exec) (hb : c.code = cc) {x : Int32} {off : Int} {tgt : Nat} (hdg : decode cc pc = .ok (.ifCond .ge off, 3)) (ht : (pc : Int) + off = (tgt : Int)) (kt : ¬ x < 0 → W p l e R s m args below meth c H locs cells slots Q (F0 m tgt ls rest)) (kf : x < 0 → W p l e R s m args below meth c H locs cells slots Q (F0 m (pc + 3) ls rest)) : W p l e R s m args below meth c H locs cells slots Q (F0 m pc ls (.int x :: rest)) := lv_if_ge hexec hb hdg ht (fun h => kt (Int32.not_lt.mpr h)) (fun h => kf (Int32.not_le.mp h))
theorem iz_gt (hexec : p.tables.exec = Jvm.exec) (hb : c.code = cc) {x : Int32} {off : Int} {tgt : Nat} (hdg : decode cc pc = .ok (.ifCond .gt off, 3)) (ht : (pc : Int) + off = (tgt : Int)) (kt : 0 < x → W p l e R s m args below meth c H locs cells slots Q (F0 m tgt ls rest)) (kf : ¬ 0 < x → W p l e R s m args below meth c H locs cells slots Q (F0 m (pc + 3) ls rest)) : W p l e R s m args below meth c H locs cells slots Q (F0 m pc ls (.int x :: rest)) := lv_if_gt hexec hb hdg ht kt kf
theorem iz_le (hexec : p.tables.exec = Jvm.exec) (hb : c.code = cc) {x : Int32} {off : Int} {tgt : Nat} (hdg : decode cc pc = .ok (.ifCond .le off, 3)) (ht : (pc : Int) + off = (tgt : Int)) (kt : ¬ 0 < x → W p l e R s m args below meth c H locs cells slots Q (F0 m tgt ls rest)) (kf : 0 < x → W p l e R s m args below meth c H locs cells slots Q (F0 m (pc + 3) ls rest)) : W p l e R s m args below meth c H locs cells slots Q (F0 m pc ls (.int x :: rest)) := lv_if_le hexec hb hdg ht (fun h => kt (Int32.not_lt.mpr h)) (fun h => kf (Int32.not_le.mp h))
/-! lcmp and the branch behind it -/
theorem lg_cmp_lt0 (x y : Int64) : lg_cmp x y < 0 ↔ x < y := by
  rw [← Int32.not_le, lg_cmp_ge, Int64.not_le]
theorem lg_cmp_gt0 (x y : Int64) : 0 < lg_cmp x y ↔ y < x := by
  unfold lg_cmp
  by_cases h : x > y
  · rw [if_pos h]; exact ⟨fun _ => h, fun _ => by decide⟩
  · rw [if_neg h]
    by_cases h2 : x = y
    · rw [if_pos h2]; exact ⟨fun q => absurd q (by decide), fun q => absurd q h⟩
    · rw [if_neg h2]; exact ⟨fun q => absurd q (by decide), fun q => absurd q h⟩
theorem lg_cmp_eq0 (x y : Int64) : lg_cmp x y = 0 ↔ x = y := by
  unfold lg_cmp
  by_cases h : x > y
  · rw [if_pos h]
    exact ⟨fun q => absurd q (by decide), fun q => absurd (show y < x from h) (by rw [q]; exact Int64.lt_irrefl)⟩
  · rw [if_neg h]
    by_cases h2 : x = y
    · rw [if_pos h2]; exact ⟨fun _ => h2, fun _ => rfl⟩
    · rw [if_neg h2]; exact ⟨fun q => absurd q (by decide), fun q => absurd q h2⟩
theorem il_lt (hexec : p.tables.exec = Jvm.exec) (hb : c.code = cc) {x y : Int64} {off : Int} {tgt : Nat} (hd0 : decode cc pc = .ok (.lcmp, 1)) (hdg : decode cc (pc + 1) = .ok (.ifCond .lt off, 3)) (ht : ((pc + 1 : Nat) : Int) + off = (tgt : Int)) (kt : x < y → W p l e R s m args below meth c H locs cells slots Q (F0 m tgt ls rest)) (kf : ¬ x < y → W p l e R s m args below meth c H locs cells slots Q (F0 m (pc + 1 + 3) ls rest)) : W p l e R s m args below meth c H locs cells slots Q (F0 m pc ls (.long y :: .long x :: rest)) := W.lcmp hexec hb hd0 (iz_lt hexec hb hdg ht (fun h => kt ((lg_cmp_lt0 x y).mp h)) (fun h => kf (fun q => h ((lg_cmp_lt0 x y).mpr q))))
theorem il_ge (hexec : p.tables.exec = Jvm.exec) (hb : c.code = cc) {x y : Int64} {off : Int} {tgt : Nat} (hd0 : decode cc pc = .ok (.lcmp, 1)) (hdg : decode cc (pc + 1) = .ok (.ifCond .ge off, 3)) (ht : ((pc + 1 : Nat) : Int) + off = (tgt : Int)) (kt : ¬ x < y → W p l e R s m args below meth c H locs cells slots Q (F0 m tgt ls rest)) (kf : x < y → W p l e R s m args below meth c H locs cells slots Q (F0 m (pc + 1 + 3) ls rest)) : W p l e R s m args below meth c H locs cells slots Q (F0 m pc ls (.long y :: .long x :: rest)) := W.lcmp hexec hb hd0 (iz_ge hexec hb hdg ht (fun h => kt (fun q => h ((lg_cmp_lt0 x y).mpr q))) (fun h => kf ((lg_cmp_lt0 x y).mp h)))
theorem il_gt (hexec : p.tables.exec = Jvm.exec) (hb : c.code = cc) {x y : Int64} {off : Int} {tgt : Nat} (hd0 : decode cc pc = .ok (.lcmp, 1)) (hdg : decode cc (pc + 1) = .ok (.ifCond .gt off, 3)) (ht : ((pc + 1 : Nat) : Int) + off = (tgt : Int)) (kt : y < x → W p l e R s m args below meth c H locs cells slots Q (F0 m tgt ls rest)) (kf : ¬ y < x → W p l e R s m args below meth c H locs cells slots Q (F0 m (pc + 1 + 3) ls rest)) : W p l e R s m args below meth c H locs cells slots Q (F0 m pc ls (.long y :: .long x :: rest)) := W.lcmp hexec hb hd0 (iz_gt hexec hb hdg ht (fun h => kt ((lg_cmp_gt0 x y).mp h)) (fun h => kf (fun q => h ((lg_cmp_gt0 x y).mpr q))))
theorem il_le (hexec : p.tables.exec = Jvm.exec) (hb : c.code = cc) {x y : Int64} {off : Int} {tgt : Nat} (hd0 : decode cc pc = .ok (.lcmp, 1)) (hdg : decode cc (pc + 1) = .ok (.ifCond .le off, 3)) (ht : ((pc + 1 : Nat) : Int) + off = (tgt : Int)) (kt : ¬ y < x → W p l e R s m args below meth c H locs cells slots Q (F0 m tgt ls rest)) (kf : y < x → W p l e R s m args below meth c H locs cells slots Q (F0 m (pc + 1 + 3) ls rest)) : W p l e R s m args below meth c H locs cells slots Q (F0 m pc ls (.long y :: .long x :: rest)) := W.lcmp hexec hb hd0 (iz_le hexec hb hdg ht (fun h => kt (fun q => h ((lg_cmp_gt0 x y).mpr q))) (fun h => kf ((lg_cmp_gt0 x y).mp h)))
theorem il_eq (hexec : p.tables.exec = Jvm.exec) (hb : c.code = cc) {x y : Int64} {off : Int} {tgt : Nat} (hd0 : decode cc pc = .ok (.lcmp, 1)) (hdg : decode cc (pc + 1) = .ok (.ifCond .eq off, 3)) (ht : ((pc + 1 : Nat) : Int) + off = (tgt : Int)) (kt : x = y → W p l e R s m args below meth c H locs cells slots Q (F0 m tgt ls rest)) (kf : ¬ x = y → W p l e R s m args below meth c H locs cells slots Q (F0 m (pc + 1 + 3) ls rest)) : W p l e R s m args below meth c H locs cells slots Q (F0 m pc ls (.long y :: .long x :: rest)) := W.lcmp hexec hb hd0 (iz_eq hexec hb hdg ht (fun h => kt ((lg_cmp_eq0 x y).mp h)) (fun h => kf (fun q => h ((lg_cmp_eq0 x y).mpr q))))
theorem il_ne (hexec : p.tables.exec = Jvm.exec) (hb : c.code = cc) {x y : Int64} {off : Int} {tgt : Nat} (hd0 : decode cc pc = .ok (.lcmp, 1)) (hdg : decode cc (pc + 1) = .ok (.ifCond .ne off, 3)) (ht : ((pc + 1 : Nat) : Int) + off = (tgt : Int)) (kt : ¬ x = y → W p l e R s m args below meth c H locs cells slots Q (F0 m tgt ls rest)) (kf : x = y → W p l e R s m args below meth c H locs cells slots Q (F0 m (pc + 1 + 3) ls rest)) : W p l e R s m args below meth c H locs cells slots Q (F0 m pc ls (.long y :: .long x :: rest)) := W.lcmp hexec hb hd0 (iz_ne hexec hb hdg ht (fun h => kt (fun q => h ((lg_cmp_eq0 x y).mpr q))) (fun h => kf ((lg_cmp_eq0 x y).mp h)))
/-! roads that meet again: what lies behind is walked once -/
theorem W.join {α : Type} {P : α → Prop} {g : α → JFrame} {g0 : JFrame} (K : ∀ v, P v → W p l e R s m args below meth c H locs cells slots Q (g v)) (k : (∀ v, P v → W p l e R s m args below meth c H locs cells slots Q (g v)) → W p l e R s m args below meth c H locs cells slots Q g0) : W p l e R s m args below meth c H locs cells slots Q g0 := k K
theorem W.joinH {α : Type} {P : α → Heap → List Loc → Prop} {g : α → JFrame} {g0 : JFrame} (K : ∀ v H' locs', P v H' locs' → W p l e R s m args below meth c H' locs' cells slots Q (g v)) (k : (∀ v H' locs', P v H' locs' → W p l e R s m args below meth c H' locs' cells slots Q (g v)) → W p l e R s m args below meth c H locs cells slots Q g0) : W p l e R s m args below meth c H locs cells slots Q g0 := k K
/-! arrays, the place a number -/
theorem ra_i (hexec : p.tables.exec = Jvm.exec) (hb : c.code = cc) (hK : va_K D cl tys s) (hP : va_P D cl ws H) (q0 t0 : Nat) {cA : ClassId} {n : Nat} {f : Nat → Int32} (ha : ws[q0]? = some (a, .inl (cA, n, .inl f))) (ht : tys[t0]? = some (cA, .int)) {i : Int32} (j : Nat) (hi : i = nI j) (hj : j < n) (hn : n < 2147483648) (hdg : decode cc pc = .ok (.iaload, 1))
    (kk : W p l e R s m args below meth c H locs cells slots Q (F0 m (pc + 1) ls (.int (f j) :: rest))) : W p l e R s m args below meth c H locs cells slots Q (F0 m pc ls (.int i :: .ref a :: rest)) := by
  subst hi
  refine va_iald hexec hb hK hP q0 t0 ha ht (vp_in_nI hj hn) hdg ?_
  rw [nI_clamp (Nat.lt_trans hj hn)]
  exact kk
theorem ra_z (hexec : p.tables.exec = Jvm.exec) (hb : c.code = cc) (hK : va_K D cl tys s) (hP : va_P D cl ws H) (q0 t0 : Nat) {cA : ClassId} {n : Nat} {f : Nat → Int32} (ha : ws[q0]? = some (a, .inl (cA, n, .inl f))) (ht : tys[t0]? = some (cA, .boolean)) {i : Int32} (j : Nat) (hi : i = nI j) (hj : j < n) (hn : n < 2147483648) (hdg : decode cc pc = .ok (.baload, 1))
    (kk : W p l e R s m args below meth c H locs cells slots Q (F0 m (pc + 1) ls (.int (f j) :: rest))) : W p l e R s m args below meth c H locs cells slots Q (F0 m pc ls (.int i :: .ref a :: rest)) := by
  subst hi
  refine va_zald hexec hb hK hP q0 t0 ha ht (vp_in_nI hj hn) hdg ?_
  rw [nI_clamp (Nat.lt_trans hj hn)]
  exact kk
theorem ra_l (hexec : p.tables.exec = Jvm.exec) (hb : c.code = cc) (hK : va_K D cl tys s) (hP : va_P D cl ws H) (q0 t0 : Nat) {cA : ClassId} {n : Nat} {f : Nat → Int64} (ha : ws[q0]? = some (a, .inl (cA, n, .inr (.inl f)))) (ht : tys[t0]? = some (cA, .long)) {i : Int32} (j : Nat) (hi : i = nI j) (hj : j < n) (hn : n < 2147483648) (hdg : decode cc pc = .ok (.laload, 1))
    (kk : W p l e R s m args below meth c H locs cells slots Q (F0 m (pc + 1) ls (.long (f j) :: rest))) : W p l e R s m args below meth c H locs cells slots Q (F0 m pc ls (.int i :: .ref a :: rest)) := by
  subst hi
  refine va_lald hexec hb hK hP q0 t0 ha ht (vp_in_nI hj hn) hdg ?_
  rw [nI_clamp (Nat.lt_trans hj hn)]
  exact kk
theorem ra_d (hexec : p.tables.exec = Jvm.exec) (hb : c.code = cc) (hK : va_K D cl tys s) (hP : va_P D cl ws H) (q0 t0 : Nat) {cA : ClassId} {n : Nat} {f : Nat → UInt64} (ha : ws[q0]? = some (a, .inl (cA, n, .inr (.inr (.inr (.inl f)))))) (ht : tys[t0]? = some (cA, .double)) {i : Int32} (j : Nat) (hi : i = nI j) (hj : j < n) (hn : n < 2147483648) (hdg : decode cc pc = .ok (.daload, 1))
    (kk : W p l e R s m args below meth c H locs cells slots Q (F0 m (pc + 1) ls (.double (f j) :: rest))) : W p l e R s m args below meth c H locs cells slots Q (F0 m pc ls (.int i :: .ref a :: rest)) := by
  subst hi
  refine va_dald hexec hb hK hP q0 t0 ha ht (vp_in_nI hj hn) hdg ?_
  rw [nI_clamp (Nat.lt_trans hj hn)]
  exact kk
theorem ra_q (hexec : p.tables.exec = Jvm.exec) (hb : c.code = cc) (hK : va_K D cl tys s) (hP : va_P D cl ws H) (q0 t0 : Nat) {cA : ClassId} {C : String} {n : Nat} {f : Nat → Option Nat} (ha : ws[q0]? = some (a, .inl (cA, n, .inr (.inr (.inr (.inr f)))))) (ht : tys[t0]? = some (cA, .object C)) {i : Int32} (j : Nat) (hi : i = nI j) (hj : j < n) (hn : n < 2147483648) (hdg : decode cc pc = .ok (.aaload, 1))
    (kk : W p l e R s m args below meth c H locs cells slots Q (F0 m (pc + 1) ls (va_rf (f j) :: rest))) : W p l e R s m args below meth c H locs cells slots Q (F0 m pc ls (.int i :: .ref a :: rest)) := by
  subst hi
  refine va_aldq hexec hb hK hP q0 t0 ha ht (vp_in_nI hj hn) hdg ?_
  rw [nI_clamp (Nat.lt_trans hj hn)]
  exact kk
theorem rs_i (hexec : p.tables.exec = Jvm.exec) (hb : c.code = cc) (hK : va_K D cl tys s) (hP : va_P D cl ws H) (hD : va_D A ws) (hS : va_S A H0 H locs) (q0 t0 : Nat) {cA : ClassId} {n : Nat} {f : Nat → Int32} (ha : ws[q0]? = some (a, .inl (cA, n, .inl f))) (ht : tys[t0]? = some (cA, .int)) {i : Int32} {x : Int32} (j : Nat) (hi : i = nI j) (hj : j < n) (hn : n < 2147483648) (hdg : decode cc pc = .ok (.iastore, 1))
    (kk : ∀ (H1 : Heap) (locs1 : List Loc), va_P D cl (ws.set q0 (a, .inl (cA, n, .inl (va_up f j x)))) H1 → va_D A (ws.set q0 (a, .inl (cA, n, .inl (va_up f j x)))) → va_S A H0 H1 locs1 → W p l e R s m args below meth c H1 locs1 cells slots Q (F0 m (pc + 1) ls rest)) : W p l e R s m args below meth c H locs cells slots Q (F0 m pc ls (.int x :: .int i :: .ref a :: rest)) := by
  subst hi
  refine va_iast hexec hb hK hP hD hS q0 t0 ha ht (vp_in_nI hj hn) hdg ?_
  rw [nI_clamp (Nat.lt_trans hj hn)]
  exact kk
theorem rs_z (hexec : p.tables.exec = Jvm.exec) (hb : c.code = cc) (hK : va_K D cl tys s) (hP : va_P D cl ws H) (hD : va_D A ws) (hS : va_S A H0 H locs) (q0 t0 : Nat) {cA : ClassId} {n : Nat} {f : Nat → Int32} (ha : ws[q0]? = some (a, .inl (cA, n, .inl f))) (ht : tys[t0]? = some (cA, .boolean)) {i : Int32} {x : Int32} (hx : x = 0 ∨ x = 1) (j : Nat) (hi : i = nI j) (hj : j < n) (hn : n < 2147483648) (hdg : decode cc pc = .ok (.bastore, 1))
    (kk : ∀ (H1 : Heap) (locs1 : List Loc), va_P D cl (ws.set q0 (a, .inl (cA, n, .inl (va_up f j x)))) H1 → va_D A (ws.set q0 (a, .inl (cA, n, .inl (va_up f j x)))) → va_S A H0 H1 locs1 → W p l e R s m args below meth c H1 locs1 cells slots Q (F0 m (pc + 1) ls rest)) : W p l e R s m args below meth c H locs cells slots Q (F0 m pc ls (.int x :: .int i :: .ref a :: rest)) := by
  subst hi
  refine va_zast hexec hb hK hP hD hS q0 t0 ha ht (vp_in_nI hj hn) hdg ?_
  have e : vp_nar .boolean x = x := by rcases hx with rfl | rfl <;> decide
  rw [nI_clamp (Nat.lt_trans hj hn), e]
  exact kk
theorem rs_l (hexec : p.tables.exec = Jvm.exec) (hb : c.code = cc) (hK : va_K D cl tys s) (hP : va_P D cl ws H) (hD : va_D A ws) (hS : va_S A H0 H locs) (q0 t0 : Nat) {cA : ClassId} {n : Nat} {f : Nat → Int64} (ha : ws[q0]? = some (a, .inl (cA, n, .inr (.inl f)))) (ht : tys[t0]? = some (cA, .long)) {i : Int32} {x : Int64} (j : Nat) (hi : i = nI j) (hj : j < n) (hn : n < 2147483648) (hdg : decode cc pc = .ok (.lastore, 1))
    (kk : ∀ (H1 : Heap) (locs1 : List Loc), va_P D cl (ws.set q0 (a, .inl (cA, n, .inr (.inl (va_up f j x))))) H1 → va_D A (ws.set q0 (a, .inl (cA, n, .inr (.inl (va_up f j x))))) → va_S A H0 H1 locs1 → W p l e R s m args below meth c H1 locs1 cells slots Q (F0 m (pc + 1) ls rest)) : W p l e R s m args below meth c H locs cells slots Q (F0 m pc ls (.long x :: .int i :: .ref a :: rest)) := by
  subst hi
  refine va_last hexec hb hK hP hD hS q0 t0 ha ht (vp_in_nI hj hn) hdg ?_
  rw [nI_clamp (Nat.lt_trans hj hn)]
  exact kk
theorem rs_d (hexec : p.tables.exec = Jvm.exec) (hb : c.code = cc) (hK : va_K D cl tys s) (hP : va_P D cl ws H) (hD : va_D A ws) (hS : va_S A H0 H locs) (q0 t0 : Nat) {cA : ClassId} {n : Nat} {f : Nat → UInt64} (ha : ws[q0]? = some (a, .inl (cA, n, .inr (.inr (.inr (.inl f)))))) (ht : tys[t0]? = some (cA, .double)) {i : Int32} {x : UInt64} (j : Nat) (hi : i = nI j) (hj : j < n) (hn : n < 2147483648) (hdg : decode cc pc = .ok (.dastore, 1))
    (kk : ∀ (H1 : Heap) (locs1 : List Loc), va_P D cl (ws.set q0 (a, .inl (cA, n, .inr (.inr (.inr (.inl (va_up f j x))))))) H1 → va_D A (ws.set q0 (a, .inl (cA, n, .inr (.inr (.inr (.inl (va_up f j x))))))) → va_S A H0 H1 locs1 → W p l e R s m args below meth c H1 locs1 cells slots Q (F0 m (pc + 1) ls rest)) : W p l e R s m args below meth c H locs cells slots Q (F0 m pc ls (.double x :: .int i :: .ref a :: rest)) := by
  subst hi
  refine va_dast hexec hb hK hP hD hS q0 t0 ha ht (vp_in_nI hj hn) hdg ?_
  rw [nI_clamp (Nat.lt_trans hj hn)]
  exact kk
end RW
end
section
/-! the states: the class, the reference; and their worlds -/
abbrev CS : Type := Nat × Int32 × Nat × Nat × Nat × (Nat → Int64) × (Nat → Int32) × (Nat → Int32) × (Nat → Int64) × (Nat → Int64) × (Nat → Int64) × (Nat → Int64) × (Nat → UInt64) × (Nat → Int64) × (Nat → Int64) × (Nat → Int32) × (Nat → Int32)
def cs_st (S : CS) : Nat := S.1
def cs_set_st (S : CS) (v : Nat) : CS := (v, S.2)
def cs_pre (S : CS) : Int32 := S.2.1
def cs_set_pre (S : CS) (v : Int32) : CS := (S.1, v, S.2.2)
def cs_fc (S : CS) : Nat := S.2.2.1
def cs_set_fc (S : CS) (v : Nat) : CS := (S.1, S.2.1, v, S.2.2.2)
def cs_pc (S : CS) : Nat := S.2.2.2.1
def cs_set_pc (S : CS) (v : Nat) : CS := (S.1, S.2.1, S.2.2.1, v, S.2.2.2.2)
def cs_cyc (S : CS) : Nat := S.2.2.2.2.1
def cs_set_cyc (S : CS) (v : Nat) : CS := (S.1, S.2.1, S.2.2.1, S.2.2.2.1, v, S.2.2.2.2.2)
def cs_lim (S : CS) : Nat → Int64 := S.2.2.2.2.2.1
def cs_set_lim (S : CS) (v : Nat → Int64) : CS := (S.1, S.2.1, S.2.2.1, S.2.2.2.1, S.2.2.2.2.1, v, S.2.2.2.2.2.2)
def cs_stk (S : CS) : Nat → Int32 := S.2.2.2.2.2.2.1
def cs_set_stk (S : CS) (v : Nat → Int32) : CS := (S.1, S.2.1, S.2.2.1, S.2.2.2.1, S.2.2.2.2.1, S.2.2.2.2.2.1, v, S.2.2.2.2.2.2.2)
def cs_flt (S : CS) : Nat → Int32 := S.2.2.2.2.2.2.2.1
def cs_set_flt (S : CS) (v : Nat → Int32) : CS := (S.1, S.2.1, S.2.2.1, S.2.2.2.1, S.2.2.2.2.1, S.2.2.2.2.2.1, S.2.2.2.2.2.2.1, v, S.2.2.2.2.2.2.2.2)
def cs_pts (S : CS) : Nat → Int64 := S.2.2.2.2.2.2.2.2.1
def cs_set_pts (S : CS) (v : Nat → Int64) : CS := (S.1, S.2.1, S.2.2.1, S.2.2.2.1, S.2.2.2.2.1, S.2.2.2.2.2.1, S.2.2.2.2.2.2.1, S.2.2.2.2.2.2.2.1, v, S.2.2.2.2.2.2.2.2.2)
def cs_rng (S : CS) : Nat → Int64 := S.2.2.2.2.2.2.2.2.2.1
def cs_set_rng (S : CS) (v : Nat → Int64) : CS := (S.1, S.2.1, S.2.2.1, S.2.2.2.1, S.2.2.2.2.1, S.2.2.2.2.2.1, S.2.2.2.2.2.2.1, S.2.2.2.2.2.2.2.1, S.2.2.2.2.2.2.2.2.1, v, S.2.2.2.2.2.2.2.2.2.2)
def cs_low (S : CS) : Nat → Int64 := S.2.2.2.2.2.2.2.2.2.2.1
def cs_set_low (S : CS) (v : Nat → Int64) : CS := (S.1, S.2.1, S.2.2.1, S.2.2.2.1, S.2.2.2.2.1, S.2.2.2.2.2.1, S.2.2.2.2.2.2.1, S.2.2.2.2.2.2.2.1, S.2.2.2.2.2.2.2.2.1, S.2.2.2.2.2.2.2.2.2.1, v, S.2.2.2.2.2.2.2.2.2.2.2)
def cs_ch (S : CS) : Nat → Int64 := S.2.2.2.2.2.2.2.2.2.2.2.1
def cs_set_ch (S : CS) (v : Nat → Int64) : CS := (S.1, S.2.1, S.2.2.1, S.2.2.2.1, S.2.2.2.2.1, S.2.2.2.2.2.1, S.2.2.2.2.2.2.1, S.2.2.2.2.2.2.2.1, S.2.2.2.2.2.2.2.2.1, S.2.2.2.2.2.2.2.2.2.1, S.2.2.2.2.2.2.2.2.2.2.1, v, S.2.2.2.2.2.2.2.2.2.2.2.2)
def cs_es (S : CS) : Nat → UInt64 := S.2.2.2.2.2.2.2.2.2.2.2.2.1
def cs_set_es (S : CS) (v : Nat → UInt64) : CS := (S.1, S.2.1, S.2.2.1, S.2.2.2.1, S.2.2.2.2.1, S.2.2.2.2.2.1, S.2.2.2.2.2.2.1, S.2.2.2.2.2.2.2.1, S.2.2.2.2.2.2.2.2.1, S.2.2.2.2.2.2.2.2.2.1, S.2.2.2.2.2.2.2.2.2.2.1, S.2.2.2.2.2.2.2.2.2.2.2.1, v, S.2.2.2.2.2.2.2.2.2.2.2.2.2)
def cs_vo (S : CS) : Nat → Int64 := S.2.2.2.2.2.2.2.2.2.2.2.2.2.1
def cs_set_vo (S : CS) (v : Nat → Int64) : CS := (S.1, S.2.1, S.2.2.1, S.2.2.2.1, S.2.2.2.2.1, S.2.2.2.2.2.1, S.2.2.2.2.2.2.1, S.2.2.2.2.2.2.2.1, S.2.2.2.2.2.2.2.2.1, S.2.2.2.2.2.2.2.2.2.1, S.2.2.2.2.2.2.2.2.2.2.1, S.2.2.2.2.2.2.2.2.2.2.2.1, S.2.2.2.2.2.2.2.2.2.2.2.2.1, v, S.2.2.2.2.2.2.2.2.2.2.2.2.2.2)
def cs_wa (S : CS) : Nat → Int64 := S.2.2.2.2.2.2.2.2.2.2.2.2.2.2.1
def cs_set_wa (S : CS) (v : Nat → Int64) : CS := (S.1, S.2.1, S.2.2.1, S.2.2.2.1, S.2.2.2.2.1, S.2.2.2.2.2.1, S.2.2.2.2.2.2.1, S.2.2.2.2.2.2.2.1, S.2.2.2.2.2.2.2.2.1, S.2.2.2.2.2.2.2.2.2.1, S.2.2.2.2.2.2.2.2.2.2.1, S.2.2.2.2.2.2.2.2.2.2.2.1, S.2.2.2.2.2.2.2.2.2.2.2.2.1, S.2.2.2.2.2.2.2.2.2.2.2.2.2.1, v, S.2.2.2.2.2.2.2.2.2.2.2.2.2.2.2)
def cs_be (S : CS) : Nat → Int32 := S.2.2.2.2.2.2.2.2.2.2.2.2.2.2.2.1
def cs_set_be (S : CS) (v : Nat → Int32) : CS := (S.1, S.2.1, S.2.2.1, S.2.2.2.1, S.2.2.2.2.1, S.2.2.2.2.2.1, S.2.2.2.2.2.2.1, S.2.2.2.2.2.2.2.1, S.2.2.2.2.2.2.2.2.1, S.2.2.2.2.2.2.2.2.2.1, S.2.2.2.2.2.2.2.2.2.2.1, S.2.2.2.2.2.2.2.2.2.2.2.1, S.2.2.2.2.2.2.2.2.2.2.2.2.1, S.2.2.2.2.2.2.2.2.2.2.2.2.2.1, S.2.2.2.2.2.2.2.2.2.2.2.2.2.2.1, v, S.2.2.2.2.2.2.2.2.2.2.2.2.2.2.2.2)
def cs_bl (S : CS) : Nat → Int32 := S.2.2.2.2.2.2.2.2.2.2.2.2.2.2.2.2
def cs_set_bl (S : CS) (v : Nat → Int32) : CS := (S.1, S.2.1, S.2.2.1, S.2.2.2.1, S.2.2.2.2.1, S.2.2.2.2.2.1, S.2.2.2.2.2.2.1, S.2.2.2.2.2.2.2.1, S.2.2.2.2.2.2.2.2.1, S.2.2.2.2.2.2.2.2.2.1, S.2.2.2.2.2.2.2.2.2.2.1, S.2.2.2.2.2.2.2.2.2.2.2.1, S.2.2.2.2.2.2.2.2.2.2.2.2.1, S.2.2.2.2.2.2.2.2.2.2.2.2.2.1, S.2.2.2.2.2.2.2.2.2.2.2.2.2.2.1, S.2.2.2.2.2.2.2.2.2.2.2.2.2.2.2.1, v)
abbrev MS : Type := Int32 × Nat × Int32 × Int32 × Nat × Nat × Nat × (Nat → Int64) × (Nat → UInt64) × (Nat → Int64) × (Nat → Int64) × (Nat → Int32) × (Nat → Int32) × (Nat → Int64) × (Nat → Int32) × (Nat → Int32) × (Nat → Int64) × (Nat → Int32) × (Nat → Int32)
def cm_th (S : MS) : Int32 := S.1
def cm_set_th (S : MS) (v : Int32) : MS := (v, S.2)
def cm_st (S : MS) : Nat := S.2.1
def cm_set_st (S : MS) (v : Nat) : MS := (S.1, v, S.2.2)
def cm_steps (S : MS) : Int32 := S.2.2.1
def cm_set_steps (S : MS) (v : Int32) : MS := (S.1, S.2.1, v, S.2.2.2)
def cm_beg (S : MS) : Int32 := S.2.2.2.1
def cm_set_beg (S : MS) (v : Int32) : MS := (S.1, S.2.1, S.2.2.1, v, S.2.2.2.2)
def cm_fc (S : MS) : Nat := S.2.2.2.2.1
def cm_set_fc (S : MS) (v : Nat) : MS := (S.1, S.2.1, S.2.2.1, S.2.2.2.1, v, S.2.2.2.2.2)
def cm_many (S : MS) : Nat := S.2.2.2.2.2.1
def cm_set_many (S : MS) (v : Nat) : MS := (S.1, S.2.1, S.2.2.1, S.2.2.2.1, S.2.2.2.2.1, v, S.2.2.2.2.2.2)
def cm_cyc (S : MS) : Nat := S.2.2.2.2.2.2.1
def cm_set_cyc (S : MS) (v : Nat) : MS := (S.1, S.2.1, S.2.2.1, S.2.2.2.1, S.2.2.2.2.1, S.2.2.2.2.2.1, v, S.2.2.2.2.2.2.2)
def cm_ch (S : MS) : Nat → Int64 := S.2.2.2.2.2.2.2.1
def cm_set_ch (S : MS) (v : Nat → Int64) : MS := (S.1, S.2.1, S.2.2.1, S.2.2.2.1, S.2.2.2.2.1, S.2.2.2.2.2.1, S.2.2.2.2.2.2.1, v, S.2.2.2.2.2.2.2.2)
def cm_es (S : MS) : Nat → UInt64 := S.2.2.2.2.2.2.2.2.1
def cm_set_es (S : MS) (v : Nat → UInt64) : MS := (S.1, S.2.1, S.2.2.1, S.2.2.2.1, S.2.2.2.2.1, S.2.2.2.2.2.1, S.2.2.2.2.2.2.1, S.2.2.2.2.2.2.2.1, v, S.2.2.2.2.2.2.2.2.2)
def cm_vo (S : MS) : Nat → Int64 := S.2.2.2.2.2.2.2.2.2.1
def cm_set_vo (S : MS) (v : Nat → Int64) : MS := (S.1, S.2.1, S.2.2.1, S.2.2.2.1, S.2.2.2.2.1, S.2.2.2.2.2.1, S.2.2.2.2.2.2.1, S.2.2.2.2.2.2.2.1, S.2.2.2.2.2.2.2.2.1, v, S.2.2.2.2.2.2.2.2.2.2)
def cm_wa (S : MS) : Nat → Int64 := S.2.2.2.2.2.2.2.2.2.2.1
def cm_set_wa (S : MS) (v : Nat → Int64) : MS := (S.1, S.2.1, S.2.2.1, S.2.2.2.1, S.2.2.2.2.1, S.2.2.2.2.2.1, S.2.2.2.2.2.2.1, S.2.2.2.2.2.2.2.1, S.2.2.2.2.2.2.2.2.1, S.2.2.2.2.2.2.2.2.2.1, v, S.2.2.2.2.2.2.2.2.2.2.2)
def cm_be (S : MS) : Nat → Int32 := S.2.2.2.2.2.2.2.2.2.2.2.1
def cm_set_be (S : MS) (v : Nat → Int32) : MS := (S.1, S.2.1, S.2.2.1, S.2.2.2.1, S.2.2.2.2.1, S.2.2.2.2.2.1, S.2.2.2.2.2.2.1, S.2.2.2.2.2.2.2.1, S.2.2.2.2.2.2.2.2.1, S.2.2.2.2.2.2.2.2.2.1, S.2.2.2.2.2.2.2.2.2.2.1, v, S.2.2.2.2.2.2.2.2.2.2.2.2)
def cm_bl (S : MS) : Nat → Int32 := S.2.2.2.2.2.2.2.2.2.2.2.2.1
def cm_set_bl (S : MS) (v : Nat → Int32) : MS := (S.1, S.2.1, S.2.2.1, S.2.2.2.1, S.2.2.2.2.1, S.2.2.2.2.2.1, S.2.2.2.2.2.2.1, S.2.2.2.2.2.2.2.1, S.2.2.2.2.2.2.2.2.1, S.2.2.2.2.2.2.2.2.2.1, S.2.2.2.2.2.2.2.2.2.2.1, S.2.2.2.2.2.2.2.2.2.2.2.1, v, S.2.2.2.2.2.2.2.2.2.2.2.2.2)
def cm_lim (S : MS) : Nat → Int64 := S.2.2.2.2.2.2.2.2.2.2.2.2.2.1
def cm_set_lim (S : MS) (v : Nat → Int64) : MS := (S.1, S.2.1, S.2.2.1, S.2.2.2.1, S.2.2.2.2.1, S.2.2.2.2.2.1, S.2.2.2.2.2.2.1, S.2.2.2.2.2.2.2.1, S.2.2.2.2.2.2.2.2.1, S.2.2.2.2.2.2.2.2.2.1, S.2.2.2.2.2.2.2.2.2.2.1, S.2.2.2.2.2.2.2.2.2.2.2.1, S.2.2.2.2.2.2.2.2.2.2.2.2.1, v, S.2.2.2.2.2.2.2.2.2.2.2.2.2.2)
def cm_stk (S : MS) : Nat → Int32 := S.2.2.2.2.2.2.2.2.2.2.2.2.2.2.1
def cm_set_stk (S : MS) (v : Nat → Int32) : MS := (S.1, S.2.1, S.2.2.1, S.2.2.2.1, S.2.2.2.2.1, S.2.2.2.2.2.1, S.2.2.2.2.2.2.1, S.2.2.2.2.2.2.2.1, S.2.2.2.2.2.2.2.2.1, S.2.2.2.2.2.2.2.2.2.1, S.2.2.2.2.2.2.2.2.2.2.1, S.2.2.2.2.2.2.2.2.2.2.2.1, S.2.2.2.2.2.2.2.2.2.2.2.2.1, S.2.2.2.2.2.2.2.2.2.2.2.2.2.1, v, S.2.2.2.2.2.2.2.2.2.2.2.2.2.2.2)
def cm_flt (S : MS) : Nat → Int32 := S.2.2.2.2.2.2.2.2.2.2.2.2.2.2.2.1
def cm_set_flt (S : MS) (v : Nat → Int32) : MS := (S.1, S.2.1, S.2.2.1, S.2.2.2.1, S.2.2.2.2.1, S.2.2.2.2.2.1, S.2.2.2.2.2.2.1, S.2.2.2.2.2.2.2.1, S.2.2.2.2.2.2.2.2.1, S.2.2.2.2.2.2.2.2.2.1, S.2.2.2.2.2.2.2.2.2.2.1, S.2.2.2.2.2.2.2.2.2.2.2.1, S.2.2.2.2.2.2.2.2.2.2.2.2.1, S.2.2.2.2.2.2.2.2.2.2.2.2.2.1, S.2.2.2.2.2.2.2.2.2.2.2.2.2.2.1, v, S.2.2.2.2.2.2.2.2.2.2.2.2.2.2.2.2)
def cm_pts (S : MS) : Nat → Int64 := S.2.2.2.2.2.2.2.2.2.2.2.2.2.2.2.2.1
def cm_set_pts (S : MS) (v : Nat → Int64) : MS := (S.1, S.2.1, S.2.2.1, S.2.2.2.1, S.2.2.2.2.1, S.2.2.2.2.2.1, S.2.2.2.2.2.2.1, S.2.2.2.2.2.2.2.1, S.2.2.2.2.2.2.2.2.1, S.2.2.2.2.2.2.2.2.2.1, S.2.2.2.2.2.2.2.2.2.2.1, S.2.2.2.2.2.2.2.2.2.2.2.1, S.2.2.2.2.2.2.2.2.2.2.2.2.1, S.2.2.2.2.2.2.2.2.2.2.2.2.2.1, S.2.2.2.2.2.2.2.2.2.2.2.2.2.2.1, S.2.2.2.2.2.2.2.2.2.2.2.2.2.2.2.1, v, S.2.2.2.2.2.2.2.2.2.2.2.2.2.2.2.2.2)
def cm_rng (S : MS) : Nat → Int32 := S.2.2.2.2.2.2.2.2.2.2.2.2.2.2.2.2.2.1
def cm_set_rng (S : MS) (v : Nat → Int32) : MS := (S.1, S.2.1, S.2.2.1, S.2.2.2.1, S.2.2.2.2.1, S.2.2.2.2.2.1, S.2.2.2.2.2.2.1, S.2.2.2.2.2.2.2.1, S.2.2.2.2.2.2.2.2.1, S.2.2.2.2.2.2.2.2.2.1, S.2.2.2.2.2.2.2.2.2.2.1, S.2.2.2.2.2.2.2.2.2.2.2.1, S.2.2.2.2.2.2.2.2.2.2.2.2.1, S.2.2.2.2.2.2.2.2.2.2.2.2.2.1, S.2.2.2.2.2.2.2.2.2.2.2.2.2.2.1, S.2.2.2.2.2.2.2.2.2.2.2.2.2.2.2.1, S.2.2.2.2.2.2.2.2.2.2.2.2.2.2.2.2.1, v, S.2.2.2.2.2.2.2.2.2.2.2.2.2.2.2.2.2.2)
def cm_low (S : MS) : Nat → Int32 := S.2.2.2.2.2.2.2.2.2.2.2.2.2.2.2.2.2.2
def cm_set_low (S : MS) (v : Nat → Int32) : MS := (S.1, S.2.1, S.2.2.1, S.2.2.2.1, S.2.2.2.2.1, S.2.2.2.2.2.1, S.2.2.2.2.2.2.1, S.2.2.2.2.2.2.2.1, S.2.2.2.2.2.2.2.2.1, S.2.2.2.2.2.2.2.2.2.1, S.2.2.2.2.2.2.2.2.2.2.1, S.2.2.2.2.2.2.2.2.2.2.2.1, S.2.2.2.2.2.2.2.2.2.2.2.2.1, S.2.2.2.2.2.2.2.2.2.2.2.2.2.1, S.2.2.2.2.2.2.2.2.2.2.2.2.2.2.1, S.2.2.2.2.2.2.2.2.2.2.2.2.2.2.2.1, S.2.2.2.2.2.2.2.2.2.2.2.2.2.2.2.2.1, S.2.2.2.2.2.2.2.2.2.2.2.2.2.2.2.2.2.1, v)
def wXc (a : Nat → Nat) (S : CS) (j : Nat) : Nat × va_E := (a (9 + j), .inr (1, [.long (cs_ch S j), .double (cs_es S j), .long (cs_vo S j), .long (cs_wa S j), .int (cs_be S j), .int (cs_bl S j)]))
def wX9 (cy : Nat → ClassId) (a : Nat → Nat) (n : Nat) (S : CS) : va_W := [(a 0, .inr (3, [.ref (a 1), .ref (a 2), .ref (a 3), .ref (a 4), .ref (a 5), .int (nI (cs_st S)), .int (cs_pre S), .int (nI (cs_fc S))])), (a 1, .inl (cy 1, n, .inr (.inr (.inr (.inr (fun j => some (a (9 + j)))))))), (a 2, .inl (cy 2, 6, .inr (.inl (cs_lim S)))), (a 3, .inl (cy 3, 3, .inl (cs_stk S))), (a 4, .inl (cy 4, 1024, .inl (cs_flt S))), (a 5, .inr (2, [.ref (a 6), .ref (a 7), .ref (a 8), .int (nI (cs_pc S)), .int (nI (cs_cyc S))])), (a 6, .inl (cy 6, 500, .inr (.inl (cs_pts S)))), (a 7, .inl (cy 7, 256, .inr (.inl (cs_rng S)))), (a 8, .inl (cy 8, 256, .inr (.inl (cs_low S))))]
def wX (cy : Nat → ClassId) (a : Nat → Nat) (n : Nat) (S : CS) : va_W := wX9 cy a n S ++ (List.range n).map (wXc a S)
def tX (cy : Nat → ClassId) : List (ClassId × FieldType) := [(cy 1, .object "CellRows2$Cell"), (cy 2, .long), (cy 3, .boolean), (cy 4, .int), (cy 6, .long), (cy 7, .long), (cy 8, .long)]
def wM (cm : Nat → ClassId) (b : Nat → Nat) (n : Nat) (M : MS) : va_W := [(b 0, .inr (4, [.int (cm_th M), .int (nI n), .ref (b 1), .ref (b 2), .ref (b 3), .ref (b 4), .ref (b 5), .ref (b 6), .ref (b 7), .int (nI (cm_st M)), .int (cm_steps M), .int (cm_beg M), .ref (b 8), .ref (b 9), .int (nI (cm_fc M)), .ref (b 10), .int (nI (cm_many M)), .ref (b 11), .ref (b 12), .int (nI (cm_cyc M))])), (b 1, .inl (cm 1, 24, .inr (.inl (cm_ch M)))), (b 2, .inl (cm 2, 24, .inr (.inr (.inr (.inl (cm_es M)))))), (b 3, .inl (cm 3, 24, .inr (.inl (cm_vo M)))), (b 4, .inl (cm 4, 24, .inr (.inl (cm_wa M)))), (b 5, .inl (cm 5, 24, .inl (cm_be M))), (b 6, .inl (cm 6, 24, .inl (cm_bl M))), (b 7, .inl (cm 7, 6, .inr (.inl (cm_lim M)))), (b 8, .inl (cm 8, 3, .inl (cm_stk M))), (b 9, .inl (cm 9, 2048, .inl (cm_flt M))), (b 10, .inl (cm 10, 502, .inr (.inl (cm_pts M)))), (b 11, .inl (cm 11, 1024, .inl (cm_rng M))), (b 12, .inl (cm 12, 1024, .inl (cm_low M)))]
def tM (cm : Nat → ClassId) : List (ClassId × FieldType) := [(cm 1, .long), (cm 2, .double), (cm 3, .long), (cm 4, .long), (cm 5, .int), (cm 6, .boolean), (cm 7, .long), (cm 8, .boolean), (cm 9, .int), (cm 10, .long), (cm 11, .int), (cm 12, .int)]
/-! the links between the class and its nest mates -/
def nestL : List Cond := [.fieldLinkNest RX2 117 RX0 "bleeds" "Z" RX2, .fieldLinkNest RX2 139 RX1 "cycleCount" "I" RX2, .fieldLinkNest RX2 142 RX1 "cycleRanges" "[J" RX2, .fieldLinkNest RX2 145 RX1 "cycleLows" "[J" RX2, .fieldLinkNest RX2 161 RX0 "voltage" "J" RX2, .fieldLinkNest RX2 164 RX0 "warmth" "J" RX2, .fieldLinkNest RX2 82 RX0 "charge" "J" RX2, .fieldLinkNest RX2 90 RX0 "beyondInRow" "I" RX2, .fieldLinkNest RX2 97 RX0 "estimate" "D" RX2, .methodLinkNest RX2 15 yX0_init RX2, .methodLinkNest RX2 38 yX1_init RX2, .methodLinkNest RX2 45 yX1_follow RX2, .methodLinkNest RX2 74 yX0_take RX2]
def nwX (U : State) : Prop := ∀ w ∈ nestL, va_Nw w U
theorem nwX_warm {s U : State} (hW : s.WarmedH U.vm) (h : nwX s) : nwX U := by
  intro w hw
  have h1 := h w hw
  simp only [nestL, List.mem_cons, List.not_mem_nil, or_false] at hw
  rcases hw with rfl | rfl | rfl | rfl | rfl | rfl | rfl | rfl | rfl | rfl | rfl | rfl | rfl <;> first | exact va_Nw.warmF hW h1 | exact va_Nw.warmM hW h1
theorem nwX_same {u U : State} (he : u.vm = U.vm) (h : nwX u) : nwX U := by
  intro w hw
  have h1 := h w hw
  simp only [nestL, List.mem_cons, List.not_mem_nil, or_false] at hw
  rcases hw with rfl | rfl | rfl | rfl | rfl | rfl | rfl | rfl | rfl | rfl | rfl | rfl | rfl <;> exact va_Nw.same rfl he h1
theorem nwX_of {s : State} {args : Array Value} (h : ∀ w ∈ nestL, w.before args s = true) : nwX s := by
  intro w hw
  have h1 := h w hw
  simp only [nestL, List.mem_cons, List.not_mem_nil, or_false] at hw
  rcases hw with rfl | rfl | rfl | rfl | rfl | rfl | rfl | rfl | rfl | rfl | rfl | rfl | rfl <;> exact va_Nw.of rfl h1
/-! starts and ends -/
abbrev pX (D : va_G) (cy : Nat → ClassId) (a : Nat → Nat) (n : Nat) (S : CS) (sz : Nat) (U : State) : Prop := U.heap.size = sz ∧ va_P D vwCl (wX cy a n S) U.heap ∧ va_K D vwCl (tX cy) U ∧ va_D (fun _ => True) (wX cy a n S) ∧ nwX U
abbrev eX (D : va_G) (cy : Nat → ClassId) (a : Nat → Nat) (n : Nat) (A : Nat → Prop) (S : CS) (t : State) : Prop := va_P D vwCl (wX cy a n S) t.heap ∧ va_K D vwCl (tX cy) t ∧ va_D A (wX cy a n S)
abbrev pM (D : va_G) (cm : Nat → ClassId) (b : Nat → Nat) (n : Nat) (M : MS) (sz : Nat) (U : State) : Prop := U.heap.size = sz ∧ va_P D vwCl (wM cm b n M) U.heap ∧ va_K D vwCl (tM cm) U ∧ va_D (fun _ => True) (wM cm b n M)
abbrev eM (D : va_G) (cm : Nat → ClassId) (b : Nat → Nat) (n : Nat) (A : Nat → Prop) (M : MS) (t : State) : Prop := va_P D vwCl (wM cm b n M) t.heap ∧ va_K D vwCl (tM cm) t ∧ va_D A (wM cm b n M)
theorem pX_blind {av : List Value} {D : va_G} {cy : Nat → ClassId} {a : Nat → Nat} {n : Nat} {S : CS} {sz : Nat} : FrameBlind (va_Pc av (pX D cy a n S sz)) := fun v U g mk q => ⟨q.1, q.2.1, q.2.2.1, va_K.moved (u := U) (U := U.calling g mk v) (Vm.Alike.refl U.vm) q.2.2.2.1, q.2.2.2.2.1, nwX_same (u := U) (U := U.calling g mk v) rfl q.2.2.2.2.2⟩
theorem pM_blind {av : List Value} {D : va_G} {cm : Nat → ClassId} {b : Nat → Nat} {n : Nat} {M : MS} {sz : Nat} : FrameBlind (va_Pc av (pM D cm b n M sz)) := fun v U g mk q => ⟨q.1, q.2.1, q.2.2.1, va_K.moved (u := U) (U := U.calling g mk v) (Vm.Alike.refl U.vm) q.2.2.2.1, q.2.2.2.2⟩
theorem pX_mk {D : va_G} {cy : Nat → ClassId} {a : Nat → Nat} {n : Nat} {S : CS} {A : Nat → Prop} {s : State} {H : Heap} (hP : va_P D vwCl (wX cy a n S) H) (hK : va_K D vwCl (tX cy) s) (hD : va_D A (wX cy a n S)) (hN : nwX s) {U : State} (hU : U.heap = H) (hW : s.WarmedH U.vm) : pX D cy a n S H.size U := ⟨by rw [hU], by rw [hU]; exact hP, va_K.moved hW.alike hK, hD.weaken (fun _ _ _ _ => trivial), nwX_warm hW hN⟩
theorem pM_mk {D : va_G} {cm : Nat → ClassId} {b : Nat → Nat} {n : Nat} {M : MS} {A : Nat → Prop} {s : State} {H : Heap} (hP : va_P D vwCl (wM cm b n M) H) (hK : va_K D vwCl (tM cm) s) (hD : va_D A (wM cm b n M)) {U : State} (hU : U.heap = H) (hW : s.WarmedH U.vm) : pM D cm b n M H.size U := ⟨by rw [hU], by rw [hU]; exact hP, va_K.moved hW.alike hK, hD.weaken (fun _ _ _ _ => trivial)⟩
theorem freeAll {A0 : Nat → Prop} {ws : va_W} {H0 H : Heap} {locs : List Loc} (hD : va_D A0 ws) (hS : va_S A0 H0 H locs) (hA : ∀ q, H0.size ≤ q → A0 q) : ∀ q, va_A ws H.size q → A0 q := by
  intro q h
  rcases h with ⟨k, e, h⟩ | h
  · exact hD.2 k (q, e) h
  · exact hA q (Nat.le_trans hS.1 h)
theorem wX9_len (cy : Nat → ClassId) (a : Nat → Nat) (n : Nat) (S : CS) : (wX9 cy a n S).length = 9 := rfl
theorem wX_c {cy : Nat → ClassId} {a : Nat → Nat} {n : Nat} {S : CS} {j : Nat} (hj : j < n) : (wX cy a n S)[9 + j]? = some (wXc a S j) := by
  unfold wX
  rw [List.getElem?_append_right (by rw [wX9_len]; omega), wX9_len, Nat.add_sub_cancel_left, List.getElem?_map, List.getElem?_range hj]
  rfl
theorem wX_setc {cy : Nat → ClassId} {a : Nat → Nat} {n : Nat} {S S' : CS} {j : Nat} {x : Nat × va_E} (h9 : wX9 cy a n S' = wX9 cy a n S) (hx : wXc a S' j = x) (ho : ∀ i, i ≠ j → wXc a S' i = wXc a S i) : (wX cy a n S).set (9 + j) x = wX cy a n S' := by
  unfold wX
  rw [h9, List.set_append_right _ _ (by rw [wX9_len]; omega), wX9_len, Nat.add_sub_cancel_left]
  congr 1
  apply List.ext_getElem?
  intro i
  by_cases hi : i = j
  · subst hi
    by_cases hl : i < n
    · rw [List.getElem?_set_self (by simpa using hl), List.getElem?_map, List.getElem?_range hl, ← hx]
      rfl
    · rw [List.getElem?_eq_none (by simp; omega), List.getElem?_eq_none (by simp; omega)]
  · rw [List.getElem?_set_ne (Ne.symm hi), List.getElem?_map, List.getElem?_map]
    by_cases hl : i < n
    · rw [List.getElem?_range hl]
      exact congrArg some (ho i hi).symm
    · rw [List.getElem?_eq_none (by simpa using hl)]
      rfl
theorem wX_set_ch {cy : Nat → ClassId} {a : Nat → Nat} {n : Nat} (S : CS) (j : Nat) (v : Int64) : (wX cy a n S).set (9 + j) (a (9 + j), .inr (1, [.long v, .double (cs_es S j), .long (cs_vo S j), .long (cs_wa S j), .int (cs_be S j), .int (cs_bl S j)])) = wX cy a n (cs_set_ch S (va_up (cs_ch S) j v)) := wX_setc rfl (by show (_, _) = (_, _); simp [wXc, cs_set_ch, va_up, cs_ch, cs_es, cs_vo, cs_wa, cs_be, cs_bl]) (fun i hi => by simp [wXc, cs_set_ch, va_up, hi, cs_ch, cs_es, cs_vo, cs_wa, cs_be, cs_bl])
theorem wX_set_es {cy : Nat → ClassId} {a : Nat → Nat} {n : Nat} (S : CS) (j : Nat) (v : UInt64) : (wX cy a n S).set (9 + j) (a (9 + j), .inr (1, [.long (cs_ch S j), .double v, .long (cs_vo S j), .long (cs_wa S j), .int (cs_be S j), .int (cs_bl S j)])) = wX cy a n (cs_set_es S (va_up (cs_es S) j v)) := wX_setc rfl (by show (_, _) = (_, _); simp [wXc, cs_set_es, va_up, cs_ch, cs_es, cs_vo, cs_wa, cs_be, cs_bl]) (fun i hi => by simp [wXc, cs_set_es, va_up, hi, cs_ch, cs_es, cs_vo, cs_wa, cs_be, cs_bl])
theorem wX_set_vo {cy : Nat → ClassId} {a : Nat → Nat} {n : Nat} (S : CS) (j : Nat) (v : Int64) : (wX cy a n S).set (9 + j) (a (9 + j), .inr (1, [.long (cs_ch S j), .double (cs_es S j), .long v, .long (cs_wa S j), .int (cs_be S j), .int (cs_bl S j)])) = wX cy a n (cs_set_vo S (va_up (cs_vo S) j v)) := wX_setc rfl (by show (_, _) = (_, _); simp [wXc, cs_set_vo, va_up, cs_ch, cs_es, cs_vo, cs_wa, cs_be, cs_bl]) (fun i hi => by simp [wXc, cs_set_vo, va_up, hi, cs_ch, cs_es, cs_vo, cs_wa, cs_be, cs_bl])
theorem wX_set_wa {cy : Nat → ClassId} {a : Nat → Nat} {n : Nat} (S : CS) (j : Nat) (v : Int64) : (wX cy a n S).set (9 + j) (a (9 + j), .inr (1, [.long (cs_ch S j), .double (cs_es S j), .long (cs_vo S j), .long v, .int (cs_be S j), .int (cs_bl S j)])) = wX cy a n (cs_set_wa S (va_up (cs_wa S) j v)) := wX_setc rfl (by show (_, _) = (_, _); simp [wXc, cs_set_wa, va_up, cs_ch, cs_es, cs_vo, cs_wa, cs_be, cs_bl]) (fun i hi => by simp [wXc, cs_set_wa, va_up, hi, cs_ch, cs_es, cs_vo, cs_wa, cs_be, cs_bl])
theorem wX_set_be {cy : Nat → ClassId} {a : Nat → Nat} {n : Nat} (S : CS) (j : Nat) (v : Int32) : (wX cy a n S).set (9 + j) (a (9 + j), .inr (1, [.long (cs_ch S j), .double (cs_es S j), .long (cs_vo S j), .long (cs_wa S j), .int v, .int (cs_bl S j)])) = wX cy a n (cs_set_be S (va_up (cs_be S) j v)) := wX_setc rfl (by show (_, _) = (_, _); simp [wXc, cs_set_be, va_up, cs_ch, cs_es, cs_vo, cs_wa, cs_be, cs_bl]) (fun i hi => by simp [wXc, cs_set_be, va_up, hi, cs_ch, cs_es, cs_vo, cs_wa, cs_be, cs_bl])
theorem wX_set_bl {cy : Nat → ClassId} {a : Nat → Nat} {n : Nat} (S : CS) (j : Nat) (v : Int32) : (wX cy a n S).set (9 + j) (a (9 + j), .inr (1, [.long (cs_ch S j), .double (cs_es S j), .long (cs_vo S j), .long (cs_wa S j), .int (cs_be S j), .int v])) = wX cy a n (cs_set_bl S (va_up (cs_bl S) j v)) := wX_setc rfl (by show (_, _) = (_, _); simp [wXc, cs_set_bl, va_up, cs_ch, cs_es, cs_vo, cs_wa, cs_be, cs_bl]) (fun i hi => by simp [wXc, cs_set_bl, va_up, hi, cs_ch, cs_es, cs_vo, cs_wa, cs_be, cs_bl])
section RW2
variable {p : Program} {l : Launch} {e : Env} {R : Room} {s : State} {m : MethodId} {args : Array Value} {below : List Frame} {meth : Method} {c : Code} {H : Heap} {locs : List Loc} {cells slots : Nat} {Q : State → Prop}
variable {pc : Nat} {ls : Array Slot} {rest : List Value}
theorem W.eqi {x y : Int32} (h : x = y) (k : W p l e R s m args below meth c H locs cells slots Q (F0 m pc ls (.int y :: rest))) : W p l e R s m args below meth c H locs cells slots Q (F0 m pc ls (.int x :: rest)) := h ▸ k
theorem W.eqs {st1 st2 : List Value} (h : st1 = st2) (k : W p l e R s m args below meth c H locs cells slots Q (F0 m pc ls st2)) : W p l e R s m args below meth c H locs cells slots Q (F0 m pc ls st1) := h ▸ k
end RW2
theorem nz_b {x : Int32} (h : x = 0 ∨ x = 1) : narrow .boolean (.int x) = .int x ∧ fits .boolean (.int x) = true := by
  rcases h with rfl | rfl <;> exact ⟨rfl, rfl⟩
/-- an int as a place among n -/
def ix (n : Nat) (x : Int32) : Option Nat := if x < 0 then none else if x < nI n then some x.toNatClampNeg else none
theorem ix_neg {n : Nat} {x : Int32} (h : x < 0) : ix n x = none := if_pos h
theorem ix_big {n : Nat} {x : Int32} (h : ¬ x < nI n) : ix n x = none := by
  unfold ix
  by_cases h0 : x < 0
  · rw [if_pos h0]
  · rw [if_neg h0, if_neg h]
theorem ix_of {n : Nat} {x : Int32} (hn : n < 2147483648) (h0 : ¬ x < 0) (h : x < nI n) : ∃ j, j < n ∧ x = nI j := by
  obtain ⟨j, hj, rfl⟩ := nI_of h0
  exact ⟨j, (nI_ltI hj hn).mp h, rfl⟩
theorem ix_at {n j : Nat} (hn : n < 2147483648) (hj : j < n) : ix n (nI j) = some j := by
  have h1 : j < 2 ^ 31 := Nat.lt_trans hj hn
  unfold ix
  rw [if_neg (nI_pos h1), if_pos (nI_lt hj hn), nI_clamp h1]
theorem ix_some {n j : Nat} {x : Int32} (h : ix n x = some j) : j < n ∧ x = nI j := by
  unfold ix at h
  by_cases h0 : x < 0
  · rw [if_pos h0] at h; cases h
  · rw [if_neg h0] at h
    by_cases h1 : x < nI n
    · rw [if_pos h1] at h
      obtain ⟨k, hk, rfl⟩ := nI_of h0
      cases h
      rw [nI_clamp hk]
      refine ⟨?_, rfl⟩
      rw [Int32.lt_iff_toInt_lt, nI_toInt hk] at h1
      by_cases hn : n < 2 ^ 31
      · rw [nI_toInt hn] at h1; omega
      · omega
    · rw [if_neg h1] at h; cases h
/-- a long without its sign -/
def labs (x : Int64) : Int64 := if 0 < x then x else -x
end
section
/-! what the class's methods answer and leave -/
theorem i01 {c : Prop} [Decidable c] : (if c then (1 : Int32) else 0) = 0 ∨ (if c then (1 : Int32) else 0) = 1 := by
  by_cases h : c
  · rw [if_pos h]; exact Or.inr rfl
  · rw [if_neg h]; exact Or.inl rfl
theorem i10 {c : Prop} [Decidable c] : (if c then (0 : Int32) else 1) = 0 ∨ (if c then (0 : Int32) else 1) = 1 := by
  by_cases h : c
  · rw [if_pos h]; exact Or.inl rfl
  · rw [if_neg h]; exact Or.inr rfl
theorem nI_notlt {a b : Nat} (hb : b < 2147483648) (h : ¬ nI a < nI b) : b ≤ a := Nat.not_lt.mp fun q => h (nI_lt q hb)
theorem nI_islt {a b : Nat} (ha : a < 2147483648) (hb : b < 2147483648) (h : nI a < nI b) : a < b := (nI_ltI ha hb).mp h
def sOut (v lo hi : Int64) : Int32 := if v < lo then 1 else if hi < v then 1 else 0
def sBey (S : CS) (j : Nat) (cur : Int64) : Int32 := if sOut (cs_vo S j) (cs_lim S 0) (cs_lim S 1) = 0 then (if cs_lim S 2 < cs_wa S j then 1 else if cs_lim S 3 < labs cur then 1 else 0) else 1
def sNote (S : CS) (k : Int32) : CS := cs_set_fc (cs_set_flt (cs_set_st S 0) (va_up (cs_flt S) (cs_fc S) k)) (cs_fc S + 1)
def sKeep (S : CS) (r w : Int64) : CS := cs_set_cyc (cs_set_low (cs_set_rng S (va_up (cs_rng S) (cs_cyc S) r)) (va_up (cs_low S) (cs_cyc S) w)) (cs_cyc S + 1)
def sGo (f : Nat → Int64) (n : Nat) (v : Int64) : Int32 := if nI n < 1 then 0 else if v = f (n - 1) then 1 else if 1 < nI n then (if (if f (n - 1) < v then (1 : Int32) else 0) = (if f (n - 2) < f (n - 1) then 1 else 0) then 1 else 0) else 0
def rCyc2 (S : CS) (i w : Int32) : Int32 := (ix (cs_cyc S) i).elim (-1) (fun j => if w = 0 then (cs_rng S j).toInt32 else if w = 1 then (cs_low S j).toInt32 else (-2))
def rCyc (S : CS) (i w : Int32) : Int32 := if i = (-1) then (if w = 0 then nI (cs_cyc S) else rCyc2 S i w) else rCyc2 S i w
def rLim (p : Int32) (v : Int64) : Int32 := (ix 6 p).elim (-1) (fun j => if sOut v (if nI j = 5 then 0 else (-1000)) 1000000 = 0 then 1 else (-2))
def gLim (S : CS) (p : Int32) (v : Int64) : CS := (ix 6 p).elim S (fun j => if sOut v (if nI j = 5 then 0 else (-1000)) 1000000 = 0 then cs_set_lim S (va_up (cs_lim S) j v) else S)
def gStu (S : CS) (p : Int32) : CS := (ix 3 p).elim S (fun j => cs_set_stk S (va_up (cs_stk S) j (if cs_stk S j = 0 then 1 else 0)))
def rStu (S : CS) (p : Int32) : Int32 := (ix 3 p).elim (-1) (fun j => if va_up (cs_stk S) j (if cs_stk S j = 0 then 1 else 0) j = 0 then 0 else 1)
def rIns (v : Int64) : Int32 := if v < 0 then (-2) else if v < 100 then 0 else 1
def gIns (S : CS) (v : Int64) : CS := if v < 0 then S else if v < 100 then sNote S 5 else S
def sStk (S : CS) (p : Int32) : Int32 := (ix 3 p).elim 0 (fun j => if cs_stk S j = 0 then 0 else 1)
def rClo2 (S : CS) : Int32 := if sStk S (nI (cs_st S)) = 0 then nI (cs_st S + 1) else nI (cs_st (sNote S 4))
def rClo (S : CS) : Int32 := if nI (cs_st S) = 3 then (-3) else if nI (cs_st S) = 2 then (if cs_pre S < 3 then (-3) else if cs_pre S < 20 then rClo2 S else nI (cs_st (sNote S 3))) else rClo2 S
def gClo2 (S : CS) : CS := if sStk S (nI (cs_st S)) = 0 then cs_set_pre (cs_set_st S (cs_st S + 1)) 0 else sNote S 4
def gClo (S : CS) : CS := if nI (cs_st S) = 3 then S else if nI (cs_st S) = 2 then (if cs_pre S < 3 then S else if cs_pre S < 20 then gClo2 S else sNote S 3) else gClo2 S
def rCon (S : CS) (p : Int32) : Int32 := if p = 0 then nI 0 else rClo S
def gCon (S : CS) (p : Int32) : CS := if p = 0 then cs_set_st S 0 else gClo S
def sTw (S : CS) (j : Nat) : Int32 := if 0 < cs_be S j then (if cs_be S j - cs_be S j / 2 * 2 = 0 then 1 else 0) else 0
def sWr (S : CS) (j : Nat) : Int32 := sOut (cs_ch S j) 0 (cs_lim S 5)
def gNfs (S : CS) (j : Nat) : CS := if sTw S j = 0 then (if sWr S j = 0 then S else sNote S 2) else (if sWr S j = 0 then sNote S 1 else sNote (sNote S 1) 2)
def rNfs (S : CS) (j : Nat) : Int32 := if sTw S j = 0 then (if sWr S j = 0 then 0 else 1) else 1
def sPut (S : CS) (v : Int64) : CS := if sGo (cs_pts S) (cs_pc S) v = 0 then (if nI (cs_pc S) < nI 500 then cs_set_pc (cs_set_pts S (va_up (cs_pts S) (cs_pc S) v)) (cs_pc S + 1) else S) else cs_set_pts S (va_up (cs_pts S) (cs_pc S - 1) v)
end
section
set_option maxHeartbeats 4000000 in
set_option maxRecDepth 100000 in
theorem kX2_isOutside (l : Launch) (v lo hi : Int64) : Met l yX2_isOutside wsX2_isOutside ({ frames := 0, cells := 0, slots := 0, locals := 0 }) (va_Pc [.long v, .long lo, .long hi] (fun _ => True)) (vp_Si (fun r => r = sOut v lo hi)) 0 0 (fun _ => False) := by
  refine Met.ofW (cc := cX2_isOutside) (maxL := 6) (ret := (some .boolean)) (by decide) rfl ?_
  intro p e s m args below meth c s₁ B hml hv
  obtain ⟨rfl, -⟩ := hv
  have hx := B.exec
  have hb := B.bytes
  have hr := B.returns
  have hts := atoms_spec (ws := wsX2_isOutside) B.pre
  have hown : s.vm.findClass RX2 = some m.cls := findClass_of_methodNamed B.named
  have hlocks := B.notSynchronized
  have hl := lv_entry ([.long v, .long lo, .long hi]) (n := 6) (Nat.le_of_ble_eq_true rfl)
  rw [lg_entry_eq]
  generalize (lg_sl ([.long v, .long lo, .long hi]) ++ List.replicate (6 - (lg_sl ([.long v, .long lo, .long hi])).length) Slot.unset).toArray = ls at hl ⊢
  have hl : lv_has ls 6 [(0, .long v), (2, .long lo), (4, .long hi)] := hl
  refine lv_lload_n hx hb dX2_isOutside_0 rfl (lv_at hl 0 rfl) ?_
  refine lv_lload_n hx hb dX2_isOutside_1 rfl (lv_at hl 1 rfl) ?_
  refine il_lt (tgt := 13) hx hb dX2_isOutside_2 dX2_isOutside_3 (by decide) (fun h_1 => ?_) (fun h_1 => ?_)
  · refine lv_iconst (v := 1) hx hb dX2_isOutside_13 (by decide) ?_
    refine lv_goto (tgt := 18) hx hb dX2_isOutside_14 (by decide) ?_
    exact W.zret (v := 1) hx hb hr rfl (fun t ht hW => ⟨1, rfl, (by simp only [sOut, if_pos h_1]), ht⟩) (fun q hq => absurd hq List.not_mem_nil) dX2_isOutside_18
  · refine lv_lload_n hx hb dX2_isOutside_6 rfl (lv_at hl 0 rfl) ?_
    refine lv_lload hx hb dX2_isOutside_7 (lv_at hl 2 rfl) ?_
    refine il_le (tgt := 17) hx hb dX2_isOutside_9 dX2_isOutside_10 (by decide) (fun h_2 => ?_) (fun h_2 => ?_)
    · refine lv_iconst (v := 0) hx hb dX2_isOutside_17 (by decide) ?_
      exact W.zret (v := 0) hx hb hr rfl (fun t ht hW => ⟨0, rfl, (by simp only [sOut, if_neg h_1, if_neg h_2]), ht⟩) (fun q hq => absurd hq List.not_mem_nil) dX2_isOutside_18
    · refine lv_iconst (v := 1) hx hb dX2_isOutside_13 (by decide) ?_
      refine lv_goto (tgt := 18) hx hb dX2_isOutside_14 (by decide) ?_
      exact W.zret (v := 1) hx hb hr rfl (fun t ht hW => ⟨1, rfl, (by simp only [sOut, if_neg h_1, if_pos h_2]), ht⟩) (fun q hq => absurd hq List.not_mem_nil) dX2_isOutside_18
set_option maxRecDepth 20000 in
theorem iX2_cellOf_X2 : ∀ w ∈ wsX20, w ∈ wsX2_cellOf := by decide +kernel
set_option maxHeartbeats 4000000 in
set_option maxRecDepth 100000 in
theorem kX2_cellOf (l : Launch) (D : va_G) (cy : Nat → ClassId) (a : Nat → Nat) (n : Nat) (S : CS) (sz : Nat) (p0 : Int32) (hn : n ≤ 24) : Met l yX2_cellOf wsX2_cellOf ({ frames := 0, cells := 0, slots := 0, locals := 0 }) (va_Pc [.ref (a 0), .int p0] (pX D cy a n S sz)) (va_Sq (fun r => r = (ix n p0).map (fun j => a (9 + j)))) 0 0 (fun _ => False) := by
  refine Met.ofW (cc := cX2_cellOf) (maxL := 2) (ret := (some (.object "CellRows2$Cell"))) (by decide) rfl ?_
  intro p e s m args below meth c s₁ B hml hv
  obtain ⟨rfl, hsz, hP, hK, hD0, hN⟩ := hv
  have hx := B.exec
  have hb := B.bytes
  have hr := B.returns
  have hts := atoms_spec (ws := wsX2_cellOf) B.pre
  have hown : s.vm.findClass RX2 = some m.cls := findClass_of_methodNamed B.named
  have hlocks := B.notSynchronized
  have hD := hD0
  have hl := lv_entry ([.ref (a 0), .int p0]) (n := 2) (Nat.le_of_ble_eq_true rfl)
  rw [lg_entry_eq]
  generalize (lg_sl ([.ref (a 0), .int p0]) ++ List.replicate (2 - (lg_sl ([.ref (a 0), .int p0])).length) Slot.unset).toArray = ls at hl ⊢
  have hl : lv_has ls 2 [(0, .ref (a 0)), (1, .int p0)] := hl
  refine lv_iload_n hx hb dX2_cellOf_0 rfl (lv_at hl 1 rfl) ?_
  refine iz_lt (tgt := 13) hx hb dX2_cellOf_1 (by decide) (fun h_1 => ?_) (fun h_1 => ?_)
  · refine lv_null hx hb dX2_cellOf_13 ?_
    refine lv_goto (tgt := 23) hx hb dX2_cellOf_14 (by decide) ?_
    exact W.aret hx hb hr (Or.inl ⟨_, rfl⟩) (Or.inl rfl) (fun t ht hW => ⟨none, rfl, (by simp only [Option.elim_none, Option.map_none, if_pos h_1, ix_neg h_1]), ht⟩) (fun q hq => absurd hq List.not_mem_nil) dX2_cellOf_23
  · refine lv_iload_n hx hb dX2_cellOf_4 rfl (lv_at hl 1 rfl) ?_
    refine lv_aload_n hx hb dX2_cellOf_5 rfl (lv_at hl 0 rfl) ?_
    refine va_get (D := D) (ci := 3) (v := .ref (a 1)) (C := RX2) (T := TX2) (N := 8) hx hb hts iX2_cellOf_X2 hown hK hP 0 rfl rfl 0 (by decide) (hts (.fieldLink RX2 11 "CellRows2" "cells" "[LCellRows2$Cell;") (by decide +kernel)) (fun _ h9 => h9) rfl dX2_cellOf_6 ?_
    refine va_alen (v := nI n) hx hb hK hP 1 0 rfl rfl rfl dX2_cellOf_9 ?_
    refine ib_lt (tgt := 17) hx hb dX2_cellOf_10 (by decide) (fun h_2 => ?_) (fun h_2 => ?_)
    · obtain ⟨j, hj, rfl⟩ := ix_of (n := n) (by omega) h_1 h_2
      have e_ix := ix_at (n := n) (by omega) hj
      refine lv_aload_n hx hb dX2_cellOf_17 rfl (lv_at hl 0 rfl) ?_
      refine va_get (D := D) (ci := 3) (v := .ref (a 1)) (C := RX2) (T := TX2) (N := 8) hx hb hts iX2_cellOf_X2 hown hK hP 0 rfl rfl 0 (by decide) (hts (.fieldLink RX2 11 "CellRows2" "cells" "[LCellRows2$Cell;") (by decide +kernel)) (fun _ h9 => h9) rfl dX2_cellOf_18 ?_
      refine lv_iload_n hx hb dX2_cellOf_21 rfl (lv_at hl 1 rfl) ?_
      refine ra_q hx hb hK hP 1 0 rfl rfl j rfl (by omega) (by omega) dX2_cellOf_22 ?_
      refine W.eqs (st2 := [.ref (a (9 + j))]) rfl ?_
      exact W.aret hx hb hr (Or.inl ⟨_, rfl⟩) (Or.inr ⟨_, rfl⟩) (fun t ht hW => ⟨(some (a (9 + j))), rfl, (by simp only [Option.elim_none, Option.map_none, if_neg h_1, if_pos h_2, e_ix, Option.elim_some, Option.map_some]), ht⟩) (fun q hq => absurd hq List.not_mem_nil) dX2_cellOf_23
    · refine lv_null hx hb dX2_cellOf_13 ?_
      refine lv_goto (tgt := 23) hx hb dX2_cellOf_14 (by decide) ?_
      exact W.aret hx hb hr (Or.inl ⟨_, rfl⟩) (Or.inl rfl) (fun t ht hW => ⟨none, rfl, (by simp only [Option.elim_none, Option.map_none, if_neg h_1, if_neg h_2, ix_big h_2]), ht⟩) (fun q hq => absurd hq List.not_mem_nil) dX2_cellOf_23
set_option maxRecDepth 20000 in
theorem iX2_charge_X0 : ∀ w ∈ wsX00, w ∈ wsX2_charge := by decide +kernel
set_option maxHeartbeats 4000000 in
set_option maxRecDepth 100000 in
theorem kX2_charge (l : Launch) (D : va_G) (cy : Nat → ClassId) (a : Nat → Nat) (n : Nat) (S : CS) (sz : Nat) (p0 : Int32) (hn : n ≤ 24) : Met l yX2_charge wsX2_charge ({ frames := 1, cells := 0, slots := 0, locals := 21 }) (va_Pc [.ref (a 0), .int p0] (pX D cy a n S sz)) (vp_Sl (fun r => r = (ix n p0).elim 0 (cs_ch S))) 0 0 (fun _ => False) := by
  refine Met.ofW (cc := cX2_charge) (maxL := 3) (ret := (some .long)) (by decide) rfl ?_
  intro p e s m args below meth c s₁ B hml hv
  obtain ⟨rfl, hsz, hP, hK, hD0, hN⟩ := hv
  have hx := B.exec
  have hb := B.bytes
  have hr := B.returns
  have hts := atoms_spec (ws := wsX2_charge) B.pre
  have hown : s.vm.findClass RX2 = some m.cls := findClass_of_methodNamed B.named
  have hlocks := B.notSynchronized
  have hD := hD0
  have hl := lv_entry ([.ref (a 0), .int p0]) (n := 3) (Nat.le_of_ble_eq_true rfl)
  rw [lg_entry_eq]
  generalize (lg_sl ([.ref (a 0), .int p0]) ++ List.replicate (3 - (lg_sl ([.ref (a 0), .int p0])).length) Slot.unset).toArray = ls at hl ⊢
  have hl : lv_has ls 3 [(0, .ref (a 0)), (1, .int p0)] := hl
  refine lv_aload_n hx hb dX2_charge_0 rfl (lv_at hl 0 rfl) ?_
  refine lv_iload_n hx hb dX2_charge_1 rfl (lv_at hl 1 rfl) ?_
  refine va_csq (W.runV (As := [.int p0]) (rest := []) ⟨hx, hb, hml, hown, hts⟩ (kX2_cellOf l D cy a n S s.heap.size p0 hn) (cwV 1 hts gX2_charge_X2_cellOf rfl rfl rfl (by decide +kernel) ⟨Nat.le_of_ble_eq_true rfl, Nat.le_of_ble_eq_true rfl⟩) ⟨pX_blind, va_recv hK hP (ci := 3) (q0 := 0) rfl rfl, fun U hU hW => ⟨rfl, pX_mk hP hK hD hN hU hW⟩⟩ rfl rfl hl.1 rfl (lv_room (Nat.le_of_ble_eq_true rfl)) dX2_charge_2 ⟨Nat.le_of_ble_eq_true rfl, Nat.le_of_ble_eq_true rfl⟩) (fun r1 hr1 => ?_)
  obtain rfl : r1 = (ix n p0).map (fun j => a (9 + j)) := hr1
  rcases hix : ix n p0 with _ | j
  · refine W.eqs (st2 := [.null]) rfl ?_
    refine lv_astore_nN (lv' := [(2, .null), (0, .ref (a 0)), (1, .int p0)]) hx hb dX2_charge_5 rfl hl (by decide) rfl (fun ls hl => ?_)
    refine lv_aload_nN hx hb dX2_charge_6 rfl (lv_at hl 0 rfl) ?_
    refine lv_ifnonnullN hx hb dX2_charge_7 ?_
    refine lv_lconst (v := 0) hx hb dX2_charge_10 (by decide) ?_
    refine lv_goto (tgt := 18) hx hb dX2_charge_11 (by decide) ?_
    exact W.lret (v := 0) hx hb hr (fun t ht hW => ⟨0, rfl, (by simp only [Option.elim_none, Option.map_none, Option.elim_some, hix]), ht⟩) (fun q hq => absurd hq List.not_mem_nil) dX2_charge_18
  · obtain ⟨hj, rfl⟩ := ix_some hix
    refine W.eqs (st2 := [.ref (a (9 + j))]) rfl ?_
    refine lv_astore_n (lv' := [(2, .ref (a (9 + j))), (0, .ref (a 0)), (1, .int (nI j))]) hx hb dX2_charge_5 rfl hl (by decide) rfl (fun ls hl => ?_)
    refine lv_aload_n hx hb dX2_charge_6 rfl (lv_at hl 0 rfl) ?_
    refine lv_ifnonnull (tgt := 14) hx hb dX2_charge_7 (by decide) ?_
    refine lv_aload_n hx hb dX2_charge_14 rfl (lv_at hl 0 rfl) ?_
    refine va_getN (D := D) (ci := 1) (v := .long ((cs_ch S) j)) (C := RX0) (T := TX0) (N := 6) hx hb hts iX2_charge_X0 hown hK hP (9 + j) (wX_c hj) rfl 0 (by decide) (va_Nw.use rfl (hN _ (List.mem_of_getElem? (i := 6) rfl))) (fun _ h9 => h9) rfl dX2_charge_15 ?_
    exact W.lret (v := (cs_ch S) j) hx hb hr (fun t ht hW => ⟨(cs_ch S) j, rfl, (by simp only [Option.elim_none, Option.map_none, Option.elim_some, hix]), ht⟩) (fun q hq => absurd hq List.not_mem_nil) dX2_charge_18
set_option maxRecDepth 20000 in
theorem iX2_share_X0 : ∀ w ∈ wsX00, w ∈ wsX2_share := by decide +kernel
set_option maxHeartbeats 4000000 in
set_option maxRecDepth 100000 in
theorem kX2_share (l : Launch) (D : va_G) (cy : Nat → ClassId) (a : Nat → Nat) (n : Nat) (S : CS) (sz : Nat) (p0 : Int32) (hn : n ≤ 24) : Met l yX2_share wsX2_share ({ frames := 1, cells := 0, slots := 0, locals := 21 }) (va_Pc [.ref (a 0), .int p0] (pX D cy a n S sz)) (vp_Sd (fun r => r = (ix n p0).elim FP.dconst0 (cs_es S))) 0 0 (fun _ => False) := by
  refine Met.ofW (cc := cX2_share) (maxL := 3) (ret := (some .double)) (by decide) rfl ?_
  intro p e s m args below meth c s₁ B hml hv
  obtain ⟨rfl, hsz, hP, hK, hD0, hN⟩ := hv
  have hx := B.exec
  have hb := B.bytes
  have hr := B.returns
  have hts := atoms_spec (ws := wsX2_share) B.pre
  have hown : s.vm.findClass RX2 = some m.cls := findClass_of_methodNamed B.named
  have hlocks := B.notSynchronized
  have hD := hD0
  have hl := lv_entry ([.ref (a 0), .int p0]) (n := 3) (Nat.le_of_ble_eq_true rfl)
  rw [lg_entry_eq]
  generalize (lg_sl ([.ref (a 0), .int p0]) ++ List.replicate (3 - (lg_sl ([.ref (a 0), .int p0])).length) Slot.unset).toArray = ls at hl ⊢
  have hl : lv_has ls 3 [(0, .ref (a 0)), (1, .int p0)] := hl
  refine lv_aload_n hx hb dX2_share_0 rfl (lv_at hl 0 rfl) ?_
  refine lv_iload_n hx hb dX2_share_1 rfl (lv_at hl 1 rfl) ?_
  refine va_csq (W.runV (As := [.int p0]) (rest := []) ⟨hx, hb, hml, hown, hts⟩ (kX2_cellOf l D cy a n S s.heap.size p0 hn) (cwV 1 hts gX2_share_X2_cellOf rfl rfl rfl (by decide +kernel) ⟨Nat.le_of_ble_eq_true rfl, Nat.le_of_ble_eq_true rfl⟩) ⟨pX_blind, va_recv hK hP (ci := 3) (q0 := 0) rfl rfl, fun U hU hW => ⟨rfl, pX_mk hP hK hD hN hU hW⟩⟩ rfl rfl hl.1 rfl (lv_room (Nat.le_of_ble_eq_true rfl)) dX2_share_2 ⟨Nat.le_of_ble_eq_true rfl, Nat.le_of_ble_eq_true rfl⟩) (fun r1 hr1 => ?_)
  obtain rfl : r1 = (ix n p0).map (fun j => a (9 + j)) := hr1
  rcases hix : ix n p0 with _ | j
  · refine W.eqs (st2 := [.null]) rfl ?_
    refine lv_astore_nN (lv' := [(2, .null), (0, .ref (a 0)), (1, .int p0)]) hx hb dX2_share_5 rfl hl (by decide) rfl (fun ls hl => ?_)
    refine lv_aload_nN hx hb dX2_share_6 rfl (lv_at hl 0 rfl) ?_
    refine lv_ifnonnullN hx hb dX2_share_7 ?_
    refine lv_dconst0 hx hb dX2_share_10 ?_
    refine lv_goto (tgt := 18) hx hb dX2_share_11 (by decide) ?_
    exact W.dret (v := FP.dconst0) hx hb hr (fun t ht hW => ⟨FP.dconst0, rfl, (by simp only [Option.elim_none, Option.map_none, Option.elim_some, hix]), ht⟩) (fun q hq => absurd hq List.not_mem_nil) dX2_share_18
  · obtain ⟨hj, rfl⟩ := ix_some hix
    refine W.eqs (st2 := [.ref (a (9 + j))]) rfl ?_
    refine lv_astore_n (lv' := [(2, .ref (a (9 + j))), (0, .ref (a 0)), (1, .int (nI j))]) hx hb dX2_share_5 rfl hl (by decide) rfl (fun ls hl => ?_)
    refine lv_aload_n hx hb dX2_share_6 rfl (lv_at hl 0 rfl) ?_
    refine lv_ifnonnull (tgt := 14) hx hb dX2_share_7 (by decide) ?_
    refine lv_aload_n hx hb dX2_share_14 rfl (lv_at hl 0 rfl) ?_
    refine va_getN (D := D) (ci := 1) (v := .double ((cs_es S) j)) (C := RX0) (T := TX0) (N := 6) hx hb hts iX2_share_X0 hown hK hP (9 + j) (wX_c hj) rfl 1 (by decide) (va_Nw.use rfl (hN _ (List.mem_of_getElem? (i := 8) rfl))) (fun _ h9 => h9) rfl dX2_share_15 ?_
    exact W.dret (v := (cs_es S) j) hx hb hr (fun t ht hW => ⟨(cs_es S) j, rfl, (by simp only [Option.elim_none, Option.map_none, Option.elim_some, hix]), ht⟩) (fun q hq => absurd hq List.not_mem_nil) dX2_share_18
set_option maxRecDepth 20000 in
theorem iX2_isBeyond_X0 : ∀ w ∈ wsX00, w ∈ wsX2_isBeyond := by decide +kernel
set_option maxRecDepth 20000 in
theorem iX2_isBeyond_X2 : ∀ w ∈ wsX20, w ∈ wsX2_isBeyond := by decide +kernel
set_option maxHeartbeats 4000000 in
set_option maxRecDepth 100000 in
theorem kX2_isBeyond (l : Launch) (D : va_G) (cy : Nat → ClassId) (a : Nat → Nat) (n : Nat) (S : CS) (sz : Nat) (j : Nat) (hj : j < n) (cur : Int64) : Met l yX2_isBeyond wsX2_isBeyond ({ frames := 1, cells := 0, slots := 0, locals := 25 }) (va_Pc [.ref (a 0), .ref (a (9 + j)), .long cur] (pX D cy a n S sz)) (vp_Si (fun r => r = sBey S j cur)) 0 0 (fun _ => False) := by
  refine Met.ofW (cc := cX2_isBeyond) (maxL := 4) (ret := (some .boolean)) (by decide) rfl ?_
  intro p e s m args below meth c s₁ B hml hv
  obtain ⟨rfl, hsz, hP, hK, hD0, hN⟩ := hv
  have hx := B.exec
  have hb := B.bytes
  have hr := B.returns
  have hts := atoms_spec (ws := wsX2_isBeyond) B.pre
  have hown : s.vm.findClass RX2 = some m.cls := findClass_of_methodNamed B.named
  have hlocks := B.notSynchronized
  have hD := hD0
  have hl := lv_entry ([.ref (a 0), .ref (a (9 + j)), .long cur]) (n := 4) (Nat.le_of_ble_eq_true rfl)
  rw [lg_entry_eq]
  generalize (lg_sl ([.ref (a 0), .ref (a (9 + j)), .long cur]) ++ List.replicate (4 - (lg_sl ([.ref (a 0), .ref (a (9 + j)), .long cur])).length) Slot.unset).toArray = ls at hl ⊢
  have hl : lv_has ls 4 [(0, .ref (a 0)), (1, .ref (a (9 + j))), (2, .long cur)] := hl
  refine lv_aload_n hx hb dX2_isBeyond_0 rfl (lv_at hl 1 rfl) ?_
  refine va_getN (D := D) (ci := 1) (v := .long ((cs_vo S) j)) (C := RX0) (T := TX0) (N := 6) hx hb hts iX2_isBeyond_X0 hown hK hP (9 + j) (wX_c hj) rfl 2 (by decide) (va_Nw.use rfl (hN _ (List.mem_of_getElem? (i := 4) rfl))) (fun _ h9 => h9) rfl dX2_isBeyond_1 ?_
  refine lv_aload_n hx hb dX2_isBeyond_4 rfl (lv_at hl 0 rfl) ?_
  refine va_get (D := D) (ci := 3) (v := .ref (a 2)) (C := RX2) (T := TX2) (N := 8) hx hb hts iX2_isBeyond_X2 hown hK hP 0 rfl rfl 1 (by decide) (hts (.fieldLink RX2 25 "CellRows2" "limits" "[J") (by decide +kernel)) (fun _ h9 => h9) rfl dX2_isBeyond_5 ?_
  refine lv_iconst (v := 0) hx hb dX2_isBeyond_8 (by decide) ?_
  refine ra_l (f := (cs_lim S)) hx hb hK hP 2 1 rfl rfl 0 rfl (Nat.le_of_ble_eq_true rfl) (Nat.le_of_ble_eq_true rfl) dX2_isBeyond_9 ?_
  refine lv_aload_n hx hb dX2_isBeyond_10 rfl (lv_at hl 0 rfl) ?_
  refine va_get (D := D) (ci := 3) (v := .ref (a 2)) (C := RX2) (T := TX2) (N := 8) hx hb hts iX2_isBeyond_X2 hown hK hP 0 rfl rfl 1 (by decide) (hts (.fieldLink RX2 25 "CellRows2" "limits" "[J") (by decide +kernel)) (fun _ h9 => h9) rfl dX2_isBeyond_11 ?_
  refine lv_iconst (v := 1) hx hb dX2_isBeyond_14 (by decide) ?_
  refine ra_l (f := (cs_lim S)) hx hb hK hP 2 1 rfl rfl 1 rfl (Nat.le_of_ble_eq_true rfl) (Nat.le_of_ble_eq_true rfl) dX2_isBeyond_15 ?_
  refine vp_callSi (W.runS (As := [.long ((cs_vo S) j), .long ((cs_lim S) 0), .long ((cs_lim S) 1)]) (rest := []) ⟨hx, hb, hml, hown, hts⟩ (kX2_isOutside l ((cs_vo S) j) ((cs_lim S) 0) ((cs_lim S) 1)) (va_cwS 3 hts gX2_isBeyond_X2_isOutside rfl rfl rfl (by decide +kernel) ⟨Nat.le_of_ble_eq_true rfl, Nat.le_of_ble_eq_true rfl⟩) ⟨fun _ _ _ _ q => q, fun U hU hW => ⟨rfl, trivial⟩⟩ rfl rfl hl.1 rfl (lv_room (Nat.le_of_ble_eq_true rfl)) dX2_isBeyond_16 ⟨Nat.le_of_ble_eq_true rfl, Nat.le_of_ble_eq_true rfl⟩) (fun r1 hr1 => ?_)
  obtain rfl : r1 = sOut ((cs_vo S) j) ((cs_lim S) 0) ((cs_lim S) 1) := hr1
  refine iz_ne (tgt := 50) hx hb dX2_isBeyond_19 (by decide) (fun h_2 => ?_) (fun h_2 => ?_)
  · refine lv_iconst (v := 1) hx hb dX2_isBeyond_50 (by decide) ?_
    refine lv_goto (tgt := 55) hx hb dX2_isBeyond_51 (by decide) ?_
    exact W.zret (v := 1) hx hb hr rfl (fun t ht hW => ⟨1, rfl, (by simp only [sBey, if_neg h_2]), ht⟩) (fun q hq => absurd hq List.not_mem_nil) dX2_isBeyond_55
  · refine lv_aload_n hx hb dX2_isBeyond_22 rfl (lv_at hl 1 rfl) ?_
    refine va_getN (D := D) (ci := 1) (v := .long ((cs_wa S) j)) (C := RX0) (T := TX0) (N := 6) hx hb hts iX2_isBeyond_X0 hown hK hP (9 + j) (wX_c hj) rfl 3 (by decide) (va_Nw.use rfl (hN _ (List.mem_of_getElem? (i := 5) rfl))) (fun _ h9 => h9) rfl dX2_isBeyond_23 ?_
    refine lv_aload_n hx hb dX2_isBeyond_26 rfl (lv_at hl 0 rfl) ?_
    refine va_get (D := D) (ci := 3) (v := .ref (a 2)) (C := RX2) (T := TX2) (N := 8) hx hb hts iX2_isBeyond_X2 hown hK hP 0 rfl rfl 1 (by decide) (hts (.fieldLink RX2 25 "CellRows2" "limits" "[J") (by decide +kernel)) (fun _ h9 => h9) rfl dX2_isBeyond_27 ?_
    refine lv_iconst (v := 2) hx hb dX2_isBeyond_30 (by decide) ?_
    refine ra_l (f := (cs_lim S)) hx hb hK hP 2 1 rfl rfl 2 rfl (Nat.le_of_ble_eq_true rfl) (Nat.le_of_ble_eq_true rfl) dX2_isBeyond_31 ?_
    refine il_gt (tgt := 50) hx hb dX2_isBeyond_32 dX2_isBeyond_33 (by decide) (fun h_3 => ?_) (fun h_3 => ?_)
    · refine lv_iconst (v := 1) hx hb dX2_isBeyond_50 (by decide) ?_
      refine lv_goto (tgt := 55) hx hb dX2_isBeyond_51 (by decide) ?_
      exact W.zret (v := 1) hx hb hr rfl (fun t ht hW => ⟨1, rfl, (by simp only [sBey, if_pos h_2, if_pos h_3]), ht⟩) (fun q hq => absurd hq List.not_mem_nil) dX2_isBeyond_55
    · refine lv_lload_n hx hb dX2_isBeyond_36 rfl (lv_at hl 2 rfl) ?_
      refine va_mabs_long hx hb (hml.trans hl.1.symm) hown (hts (.methodLink RX2 167 Lib.MathLoose.abs_long.x) (by decide +kernel)) (hts (.static Lib.MathLoose.abs_long.x) (by decide +kernel)) (hts (.initialized "java/lang/Math") (by decide +kernel)) (hts (.code Lib.MathLoose.abs_long.x Lib.MathLoose.abs_long.code 2 (some .long)) (by decide +kernel)) (Nat.le_of_ble_eq_true rfl) (Nat.le_of_ble_eq_true rfl) (Nat.le_of_ble_eq_true rfl) (Nat.le_of_ble_eq_true rfl) dX2_isBeyond_37 ?_
      refine W.eqs (st2 := [.long (labs cur)]) rfl ?_
      refine lv_aload_n hx hb dX2_isBeyond_40 rfl (lv_at hl 0 rfl) ?_
      refine va_get (D := D) (ci := 3) (v := .ref (a 2)) (C := RX2) (T := TX2) (N := 8) hx hb hts iX2_isBeyond_X2 hown hK hP 0 rfl rfl 1 (by decide) (hts (.fieldLink RX2 25 "CellRows2" "limits" "[J") (by decide +kernel)) (fun _ h9 => h9) rfl dX2_isBeyond_41 ?_
      refine lv_iconst (v := 3) hx hb dX2_isBeyond_44 (by decide) ?_
      refine ra_l (f := (cs_lim S)) hx hb hK hP 2 1 rfl rfl 3 rfl (Nat.le_of_ble_eq_true rfl) (Nat.le_of_ble_eq_true rfl) dX2_isBeyond_45 ?_
      refine il_le (tgt := 54) hx hb dX2_isBeyond_46 dX2_isBeyond_47 (by decide) (fun h_4 => ?_) (fun h_4 => ?_)
      · refine lv_iconst (v := 0) hx hb dX2_isBeyond_54 (by decide) ?_
        exact W.zret (v := 0) hx hb hr rfl (fun t ht hW => ⟨0, rfl, (by simp only [sBey, if_pos h_2, if_neg h_3, if_neg h_4]), ht⟩) (fun q hq => absurd hq List.not_mem_nil) dX2_isBeyond_55
      · refine lv_iconst (v := 1) hx hb dX2_isBeyond_50 (by decide) ?_
        refine lv_goto (tgt := 55) hx hb dX2_isBeyond_51 (by decide) ?_
        exact W.zret (v := 1) hx hb hr rfl (fun t ht hW => ⟨1, rfl, (by simp only [sBey, if_pos h_2, if_neg h_3, if_pos h_4]), ht⟩) (fun q hq => absurd hq List.not_mem_nil) dX2_isBeyond_55
set_option maxRecDepth 20000 in
theorem iX2_isStuck_X2 : ∀ w ∈ wsX20, w ∈ wsX2_isStuck := by decide +kernel
set_option maxHeartbeats 4000000 in
set_option maxRecDepth 100000 in
theorem kX2_isStuck (l : Launch) (D : va_G) (cy : Nat → ClassId) (a : Nat → Nat) (n : Nat) (S : CS) (sz : Nat) (p0 : Int32) : Met l yX2_isStuck wsX2_isStuck ({ frames := 0, cells := 0, slots := 0, locals := 0 }) (va_Pc [.ref (a 0), .int p0] (pX D cy a n S sz)) (vp_Si (fun r => r = sStk S p0)) 0 0 (fun _ => False) := by
  refine Met.ofW (cc := cX2_isStuck) (maxL := 2) (ret := (some .boolean)) (by decide) rfl ?_
  intro p e s m args below meth c s₁ B hml hv
  obtain ⟨rfl, hsz, hP, hK, hD0, hN⟩ := hv
  have hx := B.exec
  have hb := B.bytes
  have hr := B.returns
  have hts := atoms_spec (ws := wsX2_isStuck) B.pre
  have hown : s.vm.findClass RX2 = some m.cls := findClass_of_methodNamed B.named
  have hlocks := B.notSynchronized
  have hD := hD0
  have hl := lv_entry ([.ref (a 0), .int p0]) (n := 2) (Nat.le_of_ble_eq_true rfl)
  rw [lg_entry_eq]
  generalize (lg_sl ([.ref (a 0), .int p0]) ++ List.replicate (2 - (lg_sl ([.ref (a 0), .int p0])).length) Slot.unset).toArray = ls at hl ⊢
  have hl : lv_has ls 2 [(0, .ref (a 0)), (1, .int p0)] := hl
  refine lv_iload_n hx hb dX2_isStuck_0 rfl (lv_at hl 1 rfl) ?_
  refine iz_lt (tgt := 26) hx hb dX2_isStuck_1 (by decide) (fun h_1 => ?_) (fun h_1 => ?_)
  · refine lv_iconst (v := 0) hx hb dX2_isStuck_26 (by decide) ?_
    exact W.zret (v := 0) hx hb hr rfl (fun t ht hW => ⟨0, rfl, (by simp only [sStk, Option.elim_none, Option.map_none, if_pos h_1, ix_neg h_1]), ht⟩) (fun q hq => absurd hq List.not_mem_nil) dX2_isStuck_27
  · refine lv_iload_n hx hb dX2_isStuck_4 rfl (lv_at hl 1 rfl) ?_
    refine lv_aload_n hx hb dX2_isStuck_5 rfl (lv_at hl 0 rfl) ?_
    refine va_get (D := D) (ci := 3) (v := .ref (a 3)) (C := RX2) (T := TX2) (N := 8) hx hb hts iX2_isStuck_X2 hown hK hP 0 rfl rfl 2 (by decide) (hts (.fieldLink RX2 28 "CellRows2" "stuckContactors" "[Z") (by decide +kernel)) (fun _ h9 => h9) rfl dX2_isStuck_6 ?_
    refine va_alen (v := nI 3) hx hb hK hP 3 2 rfl rfl rfl dX2_isStuck_9 ?_
    refine ib_ge (tgt := 26) hx hb dX2_isStuck_10 (by decide) (fun h_2 => ?_) (fun h_2 => ?_)
    · refine lv_iconst (v := 0) hx hb dX2_isStuck_26 (by decide) ?_
      exact W.zret (v := 0) hx hb hr rfl (fun t ht hW => ⟨0, rfl, (by simp only [sStk, Option.elim_none, Option.map_none, if_neg h_1, if_neg h_2, ix_big h_2]), ht⟩) (fun q hq => absurd hq List.not_mem_nil) dX2_isStuck_27
    · obtain ⟨j, hj, rfl⟩ := ix_of (n := 3) (by omega) h_1 h_2
      have e_ix := ix_at (n := 3) (by omega) hj
      refine lv_aload_n hx hb dX2_isStuck_13 rfl (lv_at hl 0 rfl) ?_
      refine va_get (D := D) (ci := 3) (v := .ref (a 3)) (C := RX2) (T := TX2) (N := 8) hx hb hts iX2_isStuck_X2 hown hK hP 0 rfl rfl 2 (by decide) (hts (.fieldLink RX2 28 "CellRows2" "stuckContactors" "[Z") (by decide +kernel)) (fun _ h9 => h9) rfl dX2_isStuck_14 ?_
      refine lv_iload_n hx hb dX2_isStuck_17 rfl (lv_at hl 1 rfl) ?_
      refine ra_z (f := (cs_stk S)) hx hb hK hP 3 2 rfl rfl j rfl (by omega) (Nat.le_of_ble_eq_true rfl) dX2_isStuck_18 ?_
      refine iz_eq (tgt := 26) hx hb dX2_isStuck_19 (by decide) (fun h_3 => ?_) (fun h_3 => ?_)
      · refine lv_iconst (v := 0) hx hb dX2_isStuck_26 (by decide) ?_
        exact W.zret (v := 0) hx hb hr rfl (fun t ht hW => ⟨0, rfl, (by simp only [sStk, Option.elim_none, Option.map_none, if_neg h_1, if_pos h_2, e_ix, Option.elim_some, Option.map_some, if_pos h_3]), ht⟩) (fun q hq => absurd hq List.not_mem_nil) dX2_isStuck_27
      · refine lv_iconst (v := 1) hx hb dX2_isStuck_22 (by decide) ?_
        refine lv_goto (tgt := 27) hx hb dX2_isStuck_23 (by decide) ?_
        exact W.zret (v := 1) hx hb hr rfl (fun t ht hW => ⟨1, rfl, (by simp only [sStk, Option.elim_none, Option.map_none, if_neg h_1, if_pos h_2, e_ix, Option.elim_some, Option.map_some, if_neg h_3]), ht⟩) (fun q hq => absurd hq List.not_mem_nil) dX2_isStuck_27
set_option maxRecDepth 20000 in
theorem iX2_noteFault_X2 : ∀ w ∈ wsX20, w ∈ wsX2_noteFault := by decide +kernel
set_option maxHeartbeats 4000000 in
set_option maxRecDepth 100000 in
theorem kX2_noteFault (l : Launch) (D : va_G) (cy : Nat → ClassId) (a : Nat → Nat) (n : Nat) (S : CS) (sz : Nat) (k : Int32) (hf : cs_fc S < 1024) : Met l yX2_noteFault wsX2_noteFault ({ frames := 0, cells := 0, slots := 0, locals := 0 }) (va_Pc [.ref (a 0), .int k] (pX D cy a n S sz)) (va_Qv (fun u : CS => u = sNote S k) (eX D cy a n (va_A (wX cy a n S) sz)) (va_A (wX cy a n S) sz)) 0 0 (va_A (wX cy a n S) sz) := by
  refine Met.ofW (cc := cX2_noteFault) (maxL := 2) (ret := none) (by decide) rfl ?_
  intro p e s m args below meth c s₁ B hml hv
  obtain ⟨rfl, hsz, hP, hK, hD0, hN⟩ := hv
  have hx := B.exec
  have hb := B.bytes
  have hr := B.returns
  have hts := atoms_spec (ws := wsX2_noteFault) B.pre
  have hown : s.vm.findClass RX2 = some m.cls := findClass_of_methodNamed B.named
  have hlocks := B.notSynchronized
  subst hsz
  have hD := hD0.self (sz := s.heap.size)
  generalize hAe : va_A (wX cy a n S) s.heap.size = A at hD ⊢
  have hA : ∀ q : Nat, s.heap.size ≤ q → A q := fun q h => by rw [← hAe]; exact Or.inr h
  have hS : va_S A s.heap s.heap [] := va_S.rf
  have hl := lv_entry ([.ref (a 0), .int k]) (n := 2) (Nat.le_of_ble_eq_true rfl)
  rw [lg_entry_eq]
  generalize (lg_sl ([.ref (a 0), .int k]) ++ List.replicate (2 - (lg_sl ([.ref (a 0), .int k])).length) Slot.unset).toArray = ls at hl ⊢
  have hl : lv_has ls 2 [(0, .ref (a 0)), (1, .int k)] := hl
  refine lv_aload_n hx hb dX2_noteFault_0 rfl (lv_at hl 0 rfl) ?_
  refine lv_iconst (v := 0) hx hb dX2_noteFault_1 (by decide) ?_
  refine va_put (D := D) (ci := 3) (v := .int 0) (ty := .int) (C := RX2) (T := TX2) (N := 8) hx hb hts iX2_noteFault_X2 tyX2 tyX2_ok nmX2 hown hK hP hD hS 0 rfl rfl 5 (by decide) (hts (.fieldLink RX2 110 "CellRows2" "stage" "I") (by decide +kernel)) (fun _ h9 => h9) rfl (by decide +kernel) rfl rfl (Nat.le_of_ble_eq_true rfl) dX2_noteFault_2 (fun H1 locs1 hP hD hS => ?_)
  have hP : va_P D vwCl (wX cy a n (cs_set_st S 0)) H1 := hP
  have hD : va_D A (wX cy a n (cs_set_st S 0)) := hD
  refine lv_aload_n hx hb dX2_noteFault_5 rfl (lv_at hl 0 rfl) ?_
  refine va_get (D := D) (ci := 3) (v := .int (nI (cs_fc S))) (C := RX2) (T := TX2) (N := 8) hx hb hts iX2_noteFault_X2 hown hK hP 0 rfl rfl 7 (by decide) (hts (.fieldLink RX2 158 "CellRows2" "faultCount" "I") (by decide +kernel)) (fun _ h9 => h9) rfl dX2_noteFault_6 ?_
  refine lv_aload_n hx hb dX2_noteFault_9 rfl (lv_at hl 0 rfl) ?_
  refine va_get (D := D) (ci := 3) (v := .ref (a 4)) (C := RX2) (T := TX2) (N := 8) hx hb hts iX2_noteFault_X2 hown hK hP 0 rfl rfl 3 (by decide) (hts (.fieldLink RX2 32 "CellRows2" "faults" "[I") (by decide +kernel)) (fun _ h9 => h9) rfl dX2_noteFault_10 ?_
  refine va_alen (v := nI 1024) hx hb hK hP 4 3 rfl rfl rfl dX2_noteFault_13 ?_
  refine ib_ge (tgt := 37) hx hb dX2_noteFault_14 (by decide) (fun h_2 => ?_) (fun h_2 => ?_)
  · exact absurd (nI_lt hf (by omega)) h_2
  · refine lv_aload_n hx hb dX2_noteFault_17 rfl (lv_at hl 0 rfl) ?_
    refine va_get (D := D) (ci := 3) (v := .ref (a 4)) (C := RX2) (T := TX2) (N := 8) hx hb hts iX2_noteFault_X2 hown hK hP 0 rfl rfl 3 (by decide) (hts (.fieldLink RX2 32 "CellRows2" "faults" "[I") (by decide +kernel)) (fun _ h9 => h9) rfl dX2_noteFault_18 ?_
    refine lv_aload_n hx hb dX2_noteFault_21 rfl (lv_at hl 0 rfl) ?_
    refine va_get (D := D) (ci := 3) (v := .int (nI (cs_fc S))) (C := RX2) (T := TX2) (N := 8) hx hb hts iX2_noteFault_X2 hown hK hP 0 rfl rfl 7 (by decide) (hts (.fieldLink RX2 158 "CellRows2" "faultCount" "I") (by decide +kernel)) (fun _ h9 => h9) rfl dX2_noteFault_22 ?_
    refine lv_iload_n hx hb dX2_noteFault_25 rfl (lv_at hl 1 rfl) ?_
    refine rs_i (f := (cs_flt S)) hx hb hK hP hD hS 4 3 rfl rfl (cs_fc S) rfl (by omega) (Nat.le_of_ble_eq_true rfl) dX2_noteFault_26 (fun H3 locs3 hP hD hS => ?_)
    have hP : va_P D vwCl (wX cy a n (cs_set_flt (cs_set_st S 0) (va_up (cs_flt S) (cs_fc S) k))) H3 := hP
    have hD : va_D A (wX cy a n (cs_set_flt (cs_set_st S 0) (va_up (cs_flt S) (cs_fc S) k))) := hD
    refine lv_aload_n hx hb dX2_noteFault_27 rfl (lv_at hl 0 rfl) ?_
    refine lv_dup hx hb dX2_noteFault_28 rfl ?_
    refine va_get (D := D) (ci := 3) (v := .int (nI (cs_fc S))) (C := RX2) (T := TX2) (N := 8) hx hb hts iX2_noteFault_X2 hown hK hP 0 rfl rfl 7 (by decide) (hts (.fieldLink RX2 158 "CellRows2" "faultCount" "I") (by decide +kernel)) (fun _ h9 => h9) rfl dX2_noteFault_29 ?_
    refine lv_iconst (v := 1) hx hb dX2_noteFault_32 (by decide) ?_
    refine lv_iadd hx hb dX2_noteFault_33 ?_
    refine W.eqi (nI_1 (cs_fc S)) ?_
    refine va_put (D := D) (ci := 3) (v := .int (nI ((cs_fc S) + 1))) (ty := .int) (C := RX2) (T := TX2) (N := 8) hx hb hts iX2_noteFault_X2 tyX2 tyX2_ok nmX2 hown hK hP hD hS 0 rfl rfl 7 (by decide) (hts (.fieldLink RX2 158 "CellRows2" "faultCount" "I") (by decide +kernel)) (fun _ h9 => h9) rfl (by decide +kernel) rfl rfl (Nat.le_of_ble_eq_true rfl) dX2_noteFault_34 (fun H4 locs4 hP hD hS => ?_)
    have hP : va_P D vwCl (wX cy a n (cs_set_fc (cs_set_flt (cs_set_st S 0) (va_up (cs_flt S) (cs_fc S) k)) ((cs_fc S) + 1))) H4 := hP
    have hD : va_D A (wX cy a n (cs_set_fc (cs_set_flt (cs_set_st S 0) (va_up (cs_flt S) (cs_fc S) k)) ((cs_fc S) + 1))) := hD
    exact W.vret hx hb hr (fun t ht hW => ⟨⟨(cs_set_fc (cs_set_flt (cs_set_st S 0) (va_up (cs_flt S) (cs_fc S) k)) ((cs_fc S) + 1)), rfl, rfl, by rw [ht]; exact hP, va_K.moved hW.alike hK, hD⟩, hS.F ht⟩) hS.2.2 dX2_noteFault_37
set_option maxRecDepth 20000 in
theorem iX1_keepCycle_X1 : ∀ w ∈ wsX10, w ∈ wsX1_keepCycle := by decide +kernel
set_option maxHeartbeats 4000000 in
set_option maxRecDepth 100000 in
theorem kX1_keepCycle (l : Launch) (D : va_G) (cy : Nat → ClassId) (a : Nat → Nat) (n : Nat) (S : CS) (sz : Nat) (r w : Int64) (hc : cs_cyc S < 256) : Met l yX1_keepCycle wsX1_keepCycle ({ frames := 0, cells := 0, slots := 0, locals := 0 }) (va_Pc [.ref (a 5), .long r, .long w] (pX D cy a n S sz)) (va_Qv (fun u : CS => u = sKeep S r w) (eX D cy a n (va_A (wX cy a n S) sz)) (va_A (wX cy a n S) sz)) 0 0 (va_A (wX cy a n S) sz) := by
  refine Met.ofW (cc := cX1_keepCycle) (maxL := 5) (ret := none) (by decide) rfl ?_
  intro p e s m args below meth c s₁ B hml hv
  obtain ⟨rfl, hsz, hP, hK, hD0, hN⟩ := hv
  have hx := B.exec
  have hb := B.bytes
  have hr := B.returns
  have hts := atoms_spec (ws := wsX1_keepCycle) B.pre
  have hown : s.vm.findClass RX1 = some m.cls := findClass_of_methodNamed B.named
  have hlocks := B.notSynchronized
  subst hsz
  have hD := hD0.self (sz := s.heap.size)
  generalize hAe : va_A (wX cy a n S) s.heap.size = A at hD ⊢
  have hA : ∀ q : Nat, s.heap.size ≤ q → A q := fun q h => by rw [← hAe]; exact Or.inr h
  have hS : va_S A s.heap s.heap [] := va_S.rf
  have hl := lv_entry ([.ref (a 5), .long r, .long w]) (n := 5) (Nat.le_of_ble_eq_true rfl)
  rw [lg_entry_eq]
  generalize (lg_sl ([.ref (a 5), .long r, .long w]) ++ List.replicate (5 - (lg_sl ([.ref (a 5), .long r, .long w])).length) Slot.unset).toArray = ls at hl ⊢
  have hl : lv_has ls 5 [(0, .ref (a 5)), (1, .long r), (3, .long w)] := hl
  refine lv_aload_n hx hb dX1_keepCycle_0 rfl (lv_at hl 0 rfl) ?_
  refine va_get (D := D) (ci := 2) (v := .int (nI (cs_cyc S))) (C := RX1) (T := TX1) (N := 5) hx hb hts iX1_keepCycle_X1 hown hK hP 5 rfl rfl 4 (by decide) (hts (.fieldLink RX1 46 "CellRows2$Turns" "cycleCount" "I") (by decide +kernel)) (fun _ h9 => h9) rfl dX1_keepCycle_1 ?_
  refine lv_aload_n hx hb dX1_keepCycle_4 rfl (lv_at hl 0 rfl) ?_
  refine va_get (D := D) (ci := 2) (v := .ref (a 7)) (C := RX1) (T := TX1) (N := 5) hx hb hts iX1_keepCycle_X1 hown hK hP 5 rfl rfl 1 (by decide) (hts (.fieldLink RX1 15 "CellRows2$Turns" "cycleRanges" "[J") (by decide +kernel)) (fun _ h9 => h9) rfl dX1_keepCycle_5 ?_
  refine va_alen (v := nI 256) hx hb hK hP 7 5 rfl rfl rfl dX1_keepCycle_8 ?_
  refine ib_ge (tgt := 42) hx hb dX1_keepCycle_9 (by decide) (fun h_1 => ?_) (fun h_1 => ?_)
  · exact absurd (nI_lt hc (by omega)) h_1
  · refine lv_aload_n hx hb dX1_keepCycle_12 rfl (lv_at hl 0 rfl) ?_
    refine va_get (D := D) (ci := 2) (v := .ref (a 7)) (C := RX1) (T := TX1) (N := 5) hx hb hts iX1_keepCycle_X1 hown hK hP 5 rfl rfl 1 (by decide) (hts (.fieldLink RX1 15 "CellRows2$Turns" "cycleRanges" "[J") (by decide +kernel)) (fun _ h9 => h9) rfl dX1_keepCycle_13 ?_
    refine lv_aload_n hx hb dX1_keepCycle_16 rfl (lv_at hl 0 rfl) ?_
    refine va_get (D := D) (ci := 2) (v := .int (nI (cs_cyc S))) (C := RX1) (T := TX1) (N := 5) hx hb hts iX1_keepCycle_X1 hown hK hP 5 rfl rfl 4 (by decide) (hts (.fieldLink RX1 46 "CellRows2$Turns" "cycleCount" "I") (by decide +kernel)) (fun _ h9 => h9) rfl dX1_keepCycle_17 ?_
    refine lv_lload_n hx hb dX1_keepCycle_20 rfl (lv_at hl 1 rfl) ?_
    refine rs_l (f := (cs_rng S)) hx hb hK hP hD hS 7 5 rfl rfl (cs_cyc S) rfl (by omega) (Nat.le_of_ble_eq_true rfl) dX1_keepCycle_21 (fun H2 locs2 hP hD hS => ?_)
    have hP : va_P D vwCl (wX cy a n (cs_set_rng S (va_up (cs_rng S) (cs_cyc S) r))) H2 := hP
    have hD : va_D A (wX cy a n (cs_set_rng S (va_up (cs_rng S) (cs_cyc S) r))) := hD
    refine lv_aload_n hx hb dX1_keepCycle_22 rfl (lv_at hl 0 rfl) ?_
    refine va_get (D := D) (ci := 2) (v := .ref (a 8)) (C := RX1) (T := TX1) (N := 5) hx hb hts iX1_keepCycle_X1 hown hK hP 5 rfl rfl 2 (by decide) (hts (.fieldLink RX1 18 "CellRows2$Turns" "cycleLows" "[J") (by decide +kernel)) (fun _ h9 => h9) rfl dX1_keepCycle_23 ?_
    refine lv_aload_n hx hb dX1_keepCycle_26 rfl (lv_at hl 0 rfl) ?_
    refine va_get (D := D) (ci := 2) (v := .int (nI (cs_cyc S))) (C := RX1) (T := TX1) (N := 5) hx hb hts iX1_keepCycle_X1 hown hK hP 5 rfl rfl 4 (by decide) (hts (.fieldLink RX1 46 "CellRows2$Turns" "cycleCount" "I") (by decide +kernel)) (fun _ h9 => h9) rfl dX1_keepCycle_27 ?_
    refine lv_lload_n hx hb dX1_keepCycle_30 rfl (lv_at hl 2 rfl) ?_
    refine rs_l (f := (cs_low S)) hx hb hK hP hD hS 8 6 rfl rfl (cs_cyc S) rfl (by omega) (Nat.le_of_ble_eq_true rfl) dX1_keepCycle_31 (fun H3 locs3 hP hD hS => ?_)
    have hP : va_P D vwCl (wX cy a n (cs_set_low (cs_set_rng S (va_up (cs_rng S) (cs_cyc S) r)) (va_up (cs_low S) (cs_cyc S) w))) H3 := hP
    have hD : va_D A (wX cy a n (cs_set_low (cs_set_rng S (va_up (cs_rng S) (cs_cyc S) r)) (va_up (cs_low S) (cs_cyc S) w))) := hD
    refine lv_aload_n hx hb dX1_keepCycle_32 rfl (lv_at hl 0 rfl) ?_
    refine lv_dup hx hb dX1_keepCycle_33 rfl ?_
    refine va_get (D := D) (ci := 2) (v := .int (nI (cs_cyc S))) (C := RX1) (T := TX1) (N := 5) hx hb hts iX1_keepCycle_X1 hown hK hP 5 rfl rfl 4 (by decide) (hts (.fieldLink RX1 46 "CellRows2$Turns" "cycleCount" "I") (by decide +kernel)) (fun _ h9 => h9) rfl dX1_keepCycle_34 ?_
    refine lv_iconst (v := 1) hx hb dX1_keepCycle_37 (by decide) ?_
    refine lv_iadd hx hb dX1_keepCycle_38 ?_
    refine W.eqi (nI_1 (cs_cyc S)) ?_
    refine va_put (D := D) (ci := 2) (v := .int (nI ((cs_cyc S) + 1))) (ty := .int) (C := RX1) (T := TX1) (N := 5) hx hb hts iX1_keepCycle_X1 tyX1 tyX1_ok nmX1 hown hK hP hD hS 5 rfl rfl 4 (by decide) (hts (.fieldLink RX1 46 "CellRows2$Turns" "cycleCount" "I") (by decide +kernel)) (fun _ h9 => h9) rfl (by decide +kernel) rfl rfl (Nat.le_of_ble_eq_true rfl) dX1_keepCycle_39 (fun H4 locs4 hP hD hS => ?_)
    have hP : va_P D vwCl (wX cy a n (cs_set_cyc (cs_set_low (cs_set_rng S (va_up (cs_rng S) (cs_cyc S) r)) (va_up (cs_low S) (cs_cyc S) w)) ((cs_cyc S) + 1))) H4 := hP
    have hD : va_D A (wX cy a n (cs_set_cyc (cs_set_low (cs_set_rng S (va_up (cs_rng S) (cs_cyc S) r)) (va_up (cs_low S) (cs_cyc S) w)) ((cs_cyc S) + 1))) := hD
    exact W.vret hx hb hr (fun t ht hW => ⟨⟨(cs_set_cyc (cs_set_low (cs_set_rng S (va_up (cs_rng S) (cs_cyc S) r)) (va_up (cs_low S) (cs_cyc S) w)) ((cs_cyc S) + 1)), rfl, rfl, by rw [ht]; exact hP, va_K.moved hW.alike hK, hD⟩, hS.F ht⟩) hS.2.2 dX1_keepCycle_42
set_option maxRecDepth 20000 in
theorem iX1_goesOn_X1 : ∀ w ∈ wsX10, w ∈ wsX1_goesOn := by decide +kernel
set_option maxHeartbeats 4000000 in
set_option maxRecDepth 100000 in
theorem kX1_goesOn (l : Launch) (D : va_G) (cy : Nat → ClassId) (a : Nat → Nat) (n : Nat) (S : CS) (sz : Nat) (v : Int64) (hp : cs_pc S ≤ 500) : Met l yX1_goesOn wsX1_goesOn ({ frames := 0, cells := 0, slots := 0, locals := 0 }) (va_Pc [.ref (a 5), .long v] (pX D cy a n S sz)) (vp_Si (fun r => r = sGo (cs_pts S) (cs_pc S) v)) 0 0 (fun _ => False) := by
  refine Met.ofW (cc := cX1_goesOn) (maxL := 5) (ret := (some .boolean)) (by decide) rfl ?_
  intro p e s m args below meth c s₁ B hml hv
  obtain ⟨rfl, hsz, hP, hK, hD0, hN⟩ := hv
  have hx := B.exec
  have hb := B.bytes
  have hr := B.returns
  have hts := atoms_spec (ws := wsX1_goesOn) B.pre
  have hown : s.vm.findClass RX1 = some m.cls := findClass_of_methodNamed B.named
  have hlocks := B.notSynchronized
  have hD := hD0
  have hl := lv_entry ([.ref (a 5), .long v]) (n := 5) (Nat.le_of_ble_eq_true rfl)
  rw [lg_entry_eq]
  generalize (lg_sl ([.ref (a 5), .long v]) ++ List.replicate (5 - (lg_sl ([.ref (a 5), .long v])).length) Slot.unset).toArray = ls at hl ⊢
  have hl : lv_has ls 5 [(0, .ref (a 5)), (1, .long v)] := hl
  refine lv_aload_n hx hb dX1_goesOn_0 rfl (lv_at hl 0 rfl) ?_
  refine va_get (D := D) (ci := 2) (v := .int (nI (cs_pc S))) (C := RX1) (T := TX1) (N := 5) hx hb hts iX1_goesOn_X1 hown hK hP 5 rfl rfl 3 (by decide) (hts (.fieldLink RX1 25 "CellRows2$Turns" "pointCount" "I") (by decide +kernel)) (fun _ h9 => h9) rfl dX1_goesOn_1 ?_
  refine lv_iconst (v := 1) hx hb dX1_goesOn_4 (by decide) ?_
  refine ib_ge (tgt := 10) hx hb dX1_goesOn_5 (by decide) (fun h_1 => ?_) (fun h_1 => ?_)
  · have g1 : 1 ≤ cs_pc S := nI_notlt (by omega) h_1
    refine lv_aload_n hx hb dX1_goesOn_10 rfl (lv_at hl 0 rfl) ?_
    refine va_get (D := D) (ci := 2) (v := .ref (a 6)) (C := RX1) (T := TX1) (N := 5) hx hb hts iX1_goesOn_X1 hown hK hP 5 rfl rfl 0 (by decide) (hts (.fieldLink RX1 9 "CellRows2$Turns" "points" "[J") (by decide +kernel)) (fun _ h9 => h9) rfl dX1_goesOn_11 ?_
    refine lv_aload_n hx hb dX1_goesOn_14 rfl (lv_at hl 0 rfl) ?_
    refine va_get (D := D) (ci := 2) (v := .int (nI (cs_pc S))) (C := RX1) (T := TX1) (N := 5) hx hb hts iX1_goesOn_X1 hown hK hP 5 rfl rfl 3 (by decide) (hts (.fieldLink RX1 25 "CellRows2$Turns" "pointCount" "I") (by decide +kernel)) (fun _ h9 => h9) rfl dX1_goesOn_15 ?_
    refine lv_iconst (v := 1) hx hb dX1_goesOn_18 (by decide) ?_
    refine lv_isub hx hb dX1_goesOn_19 ?_
    refine W.eqi (pk_sub (a := (cs_pc S)) (b := 1) (by omega)) ?_
    refine ra_l (f := (cs_pts S)) hx hb hK hP 6 4 rfl rfl ((cs_pc S) - 1) rfl (by omega) (Nat.le_of_ble_eq_true rfl) dX1_goesOn_20 ?_
    refine lv_lstore_n (lv' := [(3, .long ((cs_pts S) ((cs_pc S) - 1))), (0, .ref (a 5)), (1, .long v)]) hx hb dX1_goesOn_21 rfl hl (by decide) rfl (fun ls hl => ?_)
    refine lv_lload_n hx hb dX1_goesOn_22 rfl (lv_at hl 2 rfl) ?_
    refine lv_lload_n hx hb dX1_goesOn_23 rfl (lv_at hl 0 rfl) ?_
    refine il_ne (tgt := 30) hx hb dX1_goesOn_24 dX1_goesOn_25 (by decide) (fun h_2 => ?_) (fun h_2 => ?_)
    · refine lv_aload_n hx hb dX1_goesOn_30 rfl (lv_at hl 1 rfl) ?_
      refine va_get (D := D) (ci := 2) (v := .int (nI (cs_pc S))) (C := RX1) (T := TX1) (N := 5) hx hb hts iX1_goesOn_X1 hown hK hP 5 rfl rfl 3 (by decide) (hts (.fieldLink RX1 25 "CellRows2$Turns" "pointCount" "I") (by decide +kernel)) (fun _ h9 => h9) rfl dX1_goesOn_31 ?_
      refine lv_iconst (v := 1) hx hb dX1_goesOn_34 (by decide) ?_
      refine ib_le (tgt := 77) hx hb dX1_goesOn_35 (by decide) (fun h_3 => ?_) (fun h_3 => ?_)
      · refine lv_iconst (v := 0) hx hb dX1_goesOn_77 (by decide) ?_
        exact W.zret (v := 0) hx hb hr rfl (fun t ht hW => ⟨0, rfl, (by simp only [sGo, if_neg h_1, if_neg h_2, if_neg h_3]), ht⟩) (fun q hq => absurd hq List.not_mem_nil) dX1_goesOn_78
      · have g2 : 1 < cs_pc S := nI_islt (a := 1) (by omega) (by omega) h_3
        refine W.join (P := fun v9 : Int32 => v9 = if ((cs_pts S) ((cs_pc S) - 1)) < v then 1 else 0) (g := fun v9 => F0 m 49 ls [.int v9]) (fun v4 hv4 => ?_) (fun J4 => ?_)
        · subst hv4
          refine W.join (P := fun v9 : Int32 => v9 = if ((cs_pts S) ((cs_pc S) - 2)) < (cs_pts S) ((cs_pc S) - 1) then 1 else 0) (g := fun v9 => F0 m 70 ls [.int v9, .int (if ((cs_pts S) ((cs_pc S) - 1)) < v then 1 else 0)]) (fun v6 hv6 => ?_) (fun J6 => ?_)
          · subst hv6
            refine ib_ne (tgt := 77) hx hb dX1_goesOn_70 (by decide) (fun h_8 => ?_) (fun h_8 => ?_)
            · refine lv_iconst (v := 0) hx hb dX1_goesOn_77 (by decide) ?_
              exact W.zret (v := 0) hx hb hr rfl (fun t ht hW => ⟨0, rfl, (by simp only [sGo, if_neg h_1, if_neg h_2, if_pos h_3, if_neg h_8]), ht⟩) (fun q hq => absurd hq List.not_mem_nil) dX1_goesOn_78
            · refine lv_iconst (v := 1) hx hb dX1_goesOn_73 (by decide) ?_
              refine lv_goto (tgt := 78) hx hb dX1_goesOn_74 (by decide) ?_
              exact W.zret (v := 1) hx hb hr rfl (fun t ht hW => ⟨1, rfl, (by simp only [sGo, if_neg h_1, if_neg h_2, if_pos h_3, if_pos h_8]), ht⟩) (fun q hq => absurd hq List.not_mem_nil) dX1_goesOn_78
          · refine lv_lload_n hx hb dX1_goesOn_49 rfl (lv_at hl 0 rfl) ?_
            refine lv_aload_n hx hb dX1_goesOn_50 rfl (lv_at hl 1 rfl) ?_
            refine va_get (D := D) (ci := 2) (v := .ref (a 6)) (C := RX1) (T := TX1) (N := 5) hx hb hts iX1_goesOn_X1 hown hK hP 5 rfl rfl 0 (by decide) (hts (.fieldLink RX1 9 "CellRows2$Turns" "points" "[J") (by decide +kernel)) (fun _ h9 => h9) rfl dX1_goesOn_51 ?_
            refine lv_aload_n hx hb dX1_goesOn_54 rfl (lv_at hl 1 rfl) ?_
            refine va_get (D := D) (ci := 2) (v := .int (nI (cs_pc S))) (C := RX1) (T := TX1) (N := 5) hx hb hts iX1_goesOn_X1 hown hK hP 5 rfl rfl 3 (by decide) (hts (.fieldLink RX1 25 "CellRows2$Turns" "pointCount" "I") (by decide +kernel)) (fun _ h9 => h9) rfl dX1_goesOn_55 ?_
            refine lv_iconst (v := 2) hx hb dX1_goesOn_58 (by decide) ?_
            refine lv_isub hx hb dX1_goesOn_59 ?_
            refine W.eqi (pk_sub (a := (cs_pc S)) (b := 2) (by omega)) ?_
            refine ra_l (f := (cs_pts S)) hx hb hK hP 6 4 rfl rfl ((cs_pc S) - 2) rfl (by omega) (Nat.le_of_ble_eq_true rfl) dX1_goesOn_60 ?_
            refine il_le (tgt := 69) hx hb dX1_goesOn_61 dX1_goesOn_62 (by decide) (fun h_7 => ?_) (fun h_7 => ?_)
            · refine lv_iconst (v := 0) hx hb dX1_goesOn_69 (by decide) ?_
              exact J6 _ (by simp only [if_neg h_7])
            · refine lv_iconst (v := 1) hx hb dX1_goesOn_65 (by decide) ?_
              refine lv_goto (tgt := 70) hx hb dX1_goesOn_66 (by decide) ?_
              exact J6 _ (by simp only [if_pos h_7])
        · refine lv_lload_n hx hb dX1_goesOn_38 rfl (lv_at hl 2 rfl) ?_
          refine lv_lload_n hx hb dX1_goesOn_39 rfl (lv_at hl 0 rfl) ?_
          refine il_le (tgt := 48) hx hb dX1_goesOn_40 dX1_goesOn_41 (by decide) (fun h_5 => ?_) (fun h_5 => ?_)
          · refine lv_iconst (v := 0) hx hb dX1_goesOn_48 (by decide) ?_
            exact J4 _ (by simp only [if_neg h_5])
          · refine lv_iconst (v := 1) hx hb dX1_goesOn_44 (by decide) ?_
            refine lv_goto (tgt := 49) hx hb dX1_goesOn_45 (by decide) ?_
            exact J4 _ (by simp only [if_pos h_5])
    · refine lv_iconst (v := 1) hx hb dX1_goesOn_28 (by decide) ?_
      exact W.zret (v := 1) hx hb hr rfl (fun t ht hW => ⟨1, rfl, (by simp only [sGo, if_neg h_1, if_pos h_2]), ht⟩) (fun q hq => absurd hq List.not_mem_nil) dX1_goesOn_29
  · refine lv_iconst (v := 0) hx hb dX1_goesOn_8 (by decide) ?_
    exact W.zret (v := 0) hx hb hr rfl (fun t ht hW => ⟨0, rfl, (by simp only [sGo, if_pos h_1]), ht⟩) (fun q hq => absurd hq List.not_mem_nil) dX1_goesOn_9
set_option maxRecDepth 20000 in
theorem iX2_fault_X2 : ∀ w ∈ wsX20, w ∈ wsX2_fault := by decide +kernel
set_option maxHeartbeats 4000000 in
set_option maxRecDepth 100000 in
theorem kX2_fault (l : Launch) (D : va_G) (cy : Nat → ClassId) (a : Nat → Nat) (n : Nat) (S : CS) (sz : Nat) (p0 : Int32) (hf : cs_fc S ≤ 1024) : Met l yX2_fault wsX2_fault ({ frames := 0, cells := 0, slots := 0, locals := 0 }) (va_Pc [.ref (a 0), .int p0] (pX D cy a n S sz)) (vp_Si (fun r => r = (ix (cs_fc S) p0).elim 0 (cs_flt S))) 0 0 (fun _ => False) := by
  refine Met.ofW (cc := cX2_fault) (maxL := 2) (ret := (some .int)) (by decide) rfl ?_
  intro p e s m args below meth c s₁ B hml hv
  obtain ⟨rfl, hsz, hP, hK, hD0, hN⟩ := hv
  have hx := B.exec
  have hb := B.bytes
  have hr := B.returns
  have hts := atoms_spec (ws := wsX2_fault) B.pre
  have hown : s.vm.findClass RX2 = some m.cls := findClass_of_methodNamed B.named
  have hlocks := B.notSynchronized
  have hD := hD0
  have hl := lv_entry ([.ref (a 0), .int p0]) (n := 2) (Nat.le_of_ble_eq_true rfl)
  rw [lg_entry_eq]
  generalize (lg_sl ([.ref (a 0), .int p0]) ++ List.replicate (2 - (lg_sl ([.ref (a 0), .int p0])).length) Slot.unset).toArray = ls at hl ⊢
  have hl : lv_has ls 2 [(0, .ref (a 0)), (1, .int p0)] := hl
  refine lv_iload_n hx hb dX2_fault_0 rfl (lv_at hl 1 rfl) ?_
  refine iz_lt (tgt := 12) hx hb dX2_fault_1 (by decide) (fun h_1 => ?_) (fun h_1 => ?_)
  · refine lv_iconst (v := 0) hx hb dX2_fault_12 (by decide) ?_
    refine lv_goto (tgt := 22) hx hb dX2_fault_13 (by decide) ?_
    exact W.iret (v := 0) hx hb hr (fun t ht hW => ⟨0, rfl, (by simp only [Option.elim_none, Option.map_none, if_pos h_1, ix_neg h_1]), ht⟩) (fun q hq => absurd hq List.not_mem_nil) dX2_fault_22
  · refine lv_iload_n hx hb dX2_fault_4 rfl (lv_at hl 1 rfl) ?_
    refine lv_aload_n hx hb dX2_fault_5 rfl (lv_at hl 0 rfl) ?_
    refine va_get (D := D) (ci := 3) (v := .int (nI (cs_fc S))) (C := RX2) (T := TX2) (N := 8) hx hb hts iX2_fault_X2 hown hK hP 0 rfl rfl 7 (by decide) (hts (.fieldLink RX2 158 "CellRows2" "faultCount" "I") (by decide +kernel)) (fun _ h9 => h9) rfl dX2_fault_6 ?_
    refine ib_lt (tgt := 16) hx hb dX2_fault_9 (by decide) (fun h_2 => ?_) (fun h_2 => ?_)
    · obtain ⟨j, hj, rfl⟩ := ix_of (n := cs_fc S) (by omega) h_1 h_2
      have e_ix := ix_at (n := cs_fc S) (by omega) hj
      refine lv_aload_n hx hb dX2_fault_16 rfl (lv_at hl 0 rfl) ?_
      refine va_get (D := D) (ci := 3) (v := .ref (a 4)) (C := RX2) (T := TX2) (N := 8) hx hb hts iX2_fault_X2 hown hK hP 0 rfl rfl 3 (by decide) (hts (.fieldLink RX2 32 "CellRows2" "faults" "[I") (by decide +kernel)) (fun _ h9 => h9) rfl dX2_fault_17 ?_
      refine lv_iload_n hx hb dX2_fault_20 rfl (lv_at hl 1 rfl) ?_
      refine ra_i (f := (cs_flt S)) hx hb hK hP 4 3 rfl rfl j rfl (by omega) (Nat.le_of_ble_eq_true rfl) dX2_fault_21 ?_
      exact W.iret (v := (cs_flt S) j) hx hb hr (fun t ht hW => ⟨(cs_flt S) j, rfl, (by simp only [Option.elim_none, Option.map_none, if_neg h_1, if_pos h_2, e_ix, Option.elim_some, Option.map_some]), ht⟩) (fun q hq => absurd hq List.not_mem_nil) dX2_fault_22
    · refine lv_iconst (v := 0) hx hb dX2_fault_12 (by decide) ?_
      refine lv_goto (tgt := 22) hx hb dX2_fault_13 (by decide) ?_
      exact W.iret (v := 0) hx hb hr (fun t ht hW => ⟨0, rfl, (by simp only [Option.elim_none, Option.map_none, if_neg h_1, if_neg h_2, ix_big h_2]), ht⟩) (fun q hq => absurd hq List.not_mem_nil) dX2_fault_22
set_option maxRecDepth 20000 in
theorem iX2_cycle_X1 : ∀ w ∈ wsX10, w ∈ wsX2_cycle := by decide +kernel
set_option maxRecDepth 20000 in
theorem iX2_cycle_X2 : ∀ w ∈ wsX20, w ∈ wsX2_cycle := by decide +kernel
set_option maxHeartbeats 4000000 in
set_option maxRecDepth 100000 in
theorem kX2_cycle (l : Launch) (D : va_G) (cy : Nat → ClassId) (a : Nat → Nat) (n : Nat) (S : CS) (sz : Nat) (p0 p1 : Int32) (hc : cs_cyc S ≤ 256) : Met l yX2_cycle wsX2_cycle ({ frames := 0, cells := 0, slots := 0, locals := 0 }) (va_Pc [.ref (a 0), .int p0, .int p1] (pX D cy a n S sz)) (vp_Si (fun r => r = rCyc S p0 p1)) 0 0 (fun _ => False) := by
  refine Met.ofW (cc := cX2_cycle) (maxL := 3) (ret := (some .int)) (by decide) rfl ?_
  intro p e s m args below meth c s₁ B hml hv
  obtain ⟨rfl, hsz, hP, hK, hD0, hN⟩ := hv
  have hx := B.exec
  have hb := B.bytes
  have hr := B.returns
  have hts := atoms_spec (ws := wsX2_cycle) B.pre
  have hown : s.vm.findClass RX2 = some m.cls := findClass_of_methodNamed B.named
  have hlocks := B.notSynchronized
  have hD := hD0
  have hl := lv_entry ([.ref (a 0), .int p0, .int p1]) (n := 3) (Nat.le_of_ble_eq_true rfl)
  rw [lg_entry_eq]
  generalize (lg_sl ([.ref (a 0), .int p0, .int p1]) ++ List.replicate (3 - (lg_sl ([.ref (a 0), .int p0, .int p1])).length) Slot.unset).toArray = ls at hl ⊢
  have hl : lv_has ls 3 [(0, .ref (a 0)), (1, .int p0), (2, .int p1)] := hl
  refine lv_iload_n hx hb dX2_cycle_0 rfl (lv_at hl 1 rfl) ?_
  refine lv_iconst (v := (-1)) hx hb dX2_cycle_1 (by decide) ?_
  refine ib_ne (tgt := 17) hx hb dX2_cycle_2 (by decide) (fun h_1 => ?_) (fun h_1 => ?_)
  · refine lv_iload_n hx hb dX2_cycle_17 rfl (lv_at hl 1 rfl) ?_
    refine iz_lt (tgt := 32) hx hb dX2_cycle_18 (by decide) (fun h_2 => ?_) (fun h_2 => ?_)
    · refine lv_iconst (v := (-1)) hx hb dX2_cycle_32 (by decide) ?_
      exact W.iret (v := (-1)) hx hb hr (fun t ht hW => ⟨(-1), rfl, (by simp only [rCyc, rCyc2, Option.elim_none, Option.map_none, if_neg h_1, if_pos h_2, ix_neg h_2]), ht⟩) (fun q hq => absurd hq List.not_mem_nil) dX2_cycle_33
    · refine lv_iload_n hx hb dX2_cycle_21 rfl (lv_at hl 1 rfl) ?_
      refine lv_aload_n hx hb dX2_cycle_22 rfl (lv_at hl 0 rfl) ?_
      refine va_get (D := D) (ci := 3) (v := .ref (a 5)) (C := RX2) (T := TX2) (N := 8) hx hb hts iX2_cycle_X2 hown hK hP 0 rfl rfl 4 (by decide) (hts (.fieldLink RX2 39 "CellRows2" "turns" "LCellRows2$Turns;") (by decide +kernel)) (fun _ h9 => h9) rfl dX2_cycle_23 ?_
      refine va_getN (D := D) (ci := 2) (v := .int (nI (cs_cyc S))) (C := RX1) (T := TX1) (N := 5) hx hb hts iX2_cycle_X1 hown hK hP 5 rfl rfl 4 (by decide) (va_Nw.use rfl (hN _ (List.mem_of_getElem? (i := 1) rfl))) (fun _ h9 => h9) rfl dX2_cycle_26 ?_
      refine ib_lt (tgt := 34) hx hb dX2_cycle_29 (by decide) (fun h_3 => ?_) (fun h_3 => ?_)
      · obtain ⟨j, hj, rfl⟩ := ix_of (n := cs_cyc S) (by omega) h_2 h_3
        have e_ix := ix_at (n := cs_cyc S) (by omega) hj
        refine lv_iload_n hx hb dX2_cycle_34 rfl (lv_at hl 2 rfl) ?_
        refine iz_ne (tgt := 49) hx hb dX2_cycle_35 (by decide) (fun h_4 => ?_) (fun h_4 => ?_)
        · refine lv_iload_n hx hb dX2_cycle_49 rfl (lv_at hl 2 rfl) ?_
          refine lv_iconst (v := 1) hx hb dX2_cycle_50 (by decide) ?_
          refine ib_ne (tgt := 67) hx hb dX2_cycle_51 (by decide) (fun h_5 => ?_) (fun h_5 => ?_)
          · refine lv_bipush (v := (-2)) hx hb dX2_cycle_67 (by decide) ?_
            exact W.iret (v := (-2)) hx hb hr (fun t ht hW => ⟨(-2), rfl, (by simp only [rCyc, rCyc2, Option.elim_none, Option.map_none, if_neg h_1, if_neg h_2, if_pos h_3, e_ix, Option.elim_some, Option.map_some, if_neg h_4, if_neg h_5]), ht⟩) (fun q hq => absurd hq List.not_mem_nil) dX2_cycle_69
          · refine lv_aload_n hx hb dX2_cycle_54 rfl (lv_at hl 0 rfl) ?_
            refine va_get (D := D) (ci := 3) (v := .ref (a 5)) (C := RX2) (T := TX2) (N := 8) hx hb hts iX2_cycle_X2 hown hK hP 0 rfl rfl 4 (by decide) (hts (.fieldLink RX2 39 "CellRows2" "turns" "LCellRows2$Turns;") (by decide +kernel)) (fun _ h9 => h9) rfl dX2_cycle_55 ?_
            refine va_getN (D := D) (ci := 2) (v := .ref (a 8)) (C := RX1) (T := TX1) (N := 5) hx hb hts iX2_cycle_X1 hown hK hP 5 rfl rfl 2 (by decide) (va_Nw.use rfl (hN _ (List.mem_of_getElem? (i := 3) rfl))) (fun _ h9 => h9) rfl dX2_cycle_58 ?_
            refine lv_iload_n hx hb dX2_cycle_61 rfl (lv_at hl 1 rfl) ?_
            refine ra_l (f := (cs_low S)) hx hb hK hP 8 6 rfl rfl j rfl (by omega) (Nat.le_of_ble_eq_true rfl) dX2_cycle_62 ?_
            refine lv_l2i hx hb dX2_cycle_63 rfl ?_
            refine lv_goto (tgt := 69) hx hb dX2_cycle_64 (by decide) ?_
            exact W.iret (v := (((cs_low S) j)).toInt32) hx hb hr (fun t ht hW => ⟨(((cs_low S) j)).toInt32, rfl, (by simp only [rCyc, rCyc2, Option.elim_none, Option.map_none, if_neg h_1, if_neg h_2, if_pos h_3, e_ix, Option.elim_some, Option.map_some, if_neg h_4, if_pos h_5]), ht⟩) (fun q hq => absurd hq List.not_mem_nil) dX2_cycle_69
        · refine lv_aload_n hx hb dX2_cycle_38 rfl (lv_at hl 0 rfl) ?_
          refine va_get (D := D) (ci := 3) (v := .ref (a 5)) (C := RX2) (T := TX2) (N := 8) hx hb hts iX2_cycle_X2 hown hK hP 0 rfl rfl 4 (by decide) (hts (.fieldLink RX2 39 "CellRows2" "turns" "LCellRows2$Turns;") (by decide +kernel)) (fun _ h9 => h9) rfl dX2_cycle_39 ?_
          refine va_getN (D := D) (ci := 2) (v := .ref (a 7)) (C := RX1) (T := TX1) (N := 5) hx hb hts iX2_cycle_X1 hown hK hP 5 rfl rfl 1 (by decide) (va_Nw.use rfl (hN _ (List.mem_of_getElem? (i := 2) rfl))) (fun _ h9 => h9) rfl dX2_cycle_42 ?_
          refine lv_iload_n hx hb dX2_cycle_45 rfl (lv_at hl 1 rfl) ?_
          refine ra_l (f := (cs_rng S)) hx hb hK hP 7 5 rfl rfl j rfl (by omega) (Nat.le_of_ble_eq_true rfl) dX2_cycle_46 ?_
          refine lv_l2i hx hb dX2_cycle_47 rfl ?_
          exact W.iret (v := (((cs_rng S) j)).toInt32) hx hb hr (fun t ht hW => ⟨(((cs_rng S) j)).toInt32, rfl, (by simp only [rCyc, rCyc2, Option.elim_none, Option.map_none, if_neg h_1, if_neg h_2, if_pos h_3, e_ix, Option.elim_some, Option.map_some, if_pos h_4]), ht⟩) (fun q hq => absurd hq List.not_mem_nil) dX2_cycle_48
      · refine lv_iconst (v := (-1)) hx hb dX2_cycle_32 (by decide) ?_
        exact W.iret (v := (-1)) hx hb hr (fun t ht hW => ⟨(-1), rfl, (by simp only [rCyc, rCyc2, Option.elim_none, Option.map_none, if_neg h_1, if_neg h_2, if_neg h_3, ix_big h_3]), ht⟩) (fun q hq => absurd hq List.not_mem_nil) dX2_cycle_33
  · refine lv_iload_n hx hb dX2_cycle_5 rfl (lv_at hl 2 rfl) ?_
    refine iz_ne (tgt := 17) hx hb dX2_cycle_6 (by decide) (fun h_6 => ?_) (fun h_6 => ?_)
    · refine lv_iload_n hx hb dX2_cycle_17 rfl (lv_at hl 1 rfl) ?_
      refine iz_lt (tgt := 32) hx hb dX2_cycle_18 (by decide) (fun h_7 => ?_) (fun h_7 => ?_)
      · refine lv_iconst (v := (-1)) hx hb dX2_cycle_32 (by decide) ?_
        exact W.iret (v := (-1)) hx hb hr (fun t ht hW => ⟨(-1), rfl, (by simp only [rCyc, rCyc2, Option.elim_none, Option.map_none, if_pos h_1, if_neg h_6, if_pos h_7, ix_neg h_7]), ht⟩) (fun q hq => absurd hq List.not_mem_nil) dX2_cycle_33
      · refine lv_iload_n hx hb dX2_cycle_21 rfl (lv_at hl 1 rfl) ?_
        refine lv_aload_n hx hb dX2_cycle_22 rfl (lv_at hl 0 rfl) ?_
        refine va_get (D := D) (ci := 3) (v := .ref (a 5)) (C := RX2) (T := TX2) (N := 8) hx hb hts iX2_cycle_X2 hown hK hP 0 rfl rfl 4 (by decide) (hts (.fieldLink RX2 39 "CellRows2" "turns" "LCellRows2$Turns;") (by decide +kernel)) (fun _ h9 => h9) rfl dX2_cycle_23 ?_
        refine va_getN (D := D) (ci := 2) (v := .int (nI (cs_cyc S))) (C := RX1) (T := TX1) (N := 5) hx hb hts iX2_cycle_X1 hown hK hP 5 rfl rfl 4 (by decide) (va_Nw.use rfl (hN _ (List.mem_of_getElem? (i := 1) rfl))) (fun _ h9 => h9) rfl dX2_cycle_26 ?_
        refine ib_lt (tgt := 34) hx hb dX2_cycle_29 (by decide) (fun h_8 => ?_) (fun h_8 => ?_)
        · obtain ⟨j, hj, rfl⟩ := ix_of (n := cs_cyc S) (by omega) h_7 h_8
          have e_ix := ix_at (n := cs_cyc S) (by omega) hj
          refine lv_iload_n hx hb dX2_cycle_34 rfl (lv_at hl 2 rfl) ?_
          refine iz_ne (tgt := 49) hx hb dX2_cycle_35 (by decide) (fun h_9 => ?_) (fun h_9 => ?_)
          · refine lv_iload_n hx hb dX2_cycle_49 rfl (lv_at hl 2 rfl) ?_
            refine lv_iconst (v := 1) hx hb dX2_cycle_50 (by decide) ?_
            refine ib_ne (tgt := 67) hx hb dX2_cycle_51 (by decide) (fun h_10 => ?_) (fun h_10 => ?_)
            · refine lv_bipush (v := (-2)) hx hb dX2_cycle_67 (by decide) ?_
              exact W.iret (v := (-2)) hx hb hr (fun t ht hW => ⟨(-2), rfl, (by simp only [rCyc, rCyc2, Option.elim_none, Option.map_none, if_pos h_1, if_neg h_6, if_neg h_7, if_pos h_8, e_ix, Option.elim_some, Option.map_some, if_neg h_9, if_neg h_10]), ht⟩) (fun q hq => absurd hq List.not_mem_nil) dX2_cycle_69
            · refine lv_aload_n hx hb dX2_cycle_54 rfl (lv_at hl 0 rfl) ?_
              refine va_get (D := D) (ci := 3) (v := .ref (a 5)) (C := RX2) (T := TX2) (N := 8) hx hb hts iX2_cycle_X2 hown hK hP 0 rfl rfl 4 (by decide) (hts (.fieldLink RX2 39 "CellRows2" "turns" "LCellRows2$Turns;") (by decide +kernel)) (fun _ h9 => h9) rfl dX2_cycle_55 ?_
              refine va_getN (D := D) (ci := 2) (v := .ref (a 8)) (C := RX1) (T := TX1) (N := 5) hx hb hts iX2_cycle_X1 hown hK hP 5 rfl rfl 2 (by decide) (va_Nw.use rfl (hN _ (List.mem_of_getElem? (i := 3) rfl))) (fun _ h9 => h9) rfl dX2_cycle_58 ?_
              refine lv_iload_n hx hb dX2_cycle_61 rfl (lv_at hl 1 rfl) ?_
              refine ra_l (f := (cs_low S)) hx hb hK hP 8 6 rfl rfl j rfl (by omega) (Nat.le_of_ble_eq_true rfl) dX2_cycle_62 ?_
              refine lv_l2i hx hb dX2_cycle_63 rfl ?_
              refine lv_goto (tgt := 69) hx hb dX2_cycle_64 (by decide) ?_
              exact W.iret (v := (((cs_low S) j)).toInt32) hx hb hr (fun t ht hW => ⟨(((cs_low S) j)).toInt32, rfl, (by simp only [rCyc, rCyc2, Option.elim_none, Option.map_none, if_pos h_1, if_neg h_6, if_neg h_7, if_pos h_8, e_ix, Option.elim_some, Option.map_some, if_neg h_9, if_pos h_10]), ht⟩) (fun q hq => absurd hq List.not_mem_nil) dX2_cycle_69
          · exact absurd h_9 h_6
        · refine lv_iconst (v := (-1)) hx hb dX2_cycle_32 (by decide) ?_
          exact W.iret (v := (-1)) hx hb hr (fun t ht hW => ⟨(-1), rfl, (by simp only [rCyc, rCyc2, Option.elim_none, Option.map_none, if_pos h_1, if_neg h_6, if_neg h_7, if_neg h_8, ix_big h_8]), ht⟩) (fun q hq => absurd hq List.not_mem_nil) dX2_cycle_33
    · refine lv_aload_n hx hb dX2_cycle_9 rfl (lv_at hl 0 rfl) ?_
      refine va_get (D := D) (ci := 3) (v := .ref (a 5)) (C := RX2) (T := TX2) (N := 8) hx hb hts iX2_cycle_X2 hown hK hP 0 rfl rfl 4 (by decide) (hts (.fieldLink RX2 39 "CellRows2" "turns" "LCellRows2$Turns;") (by decide +kernel)) (fun _ h9 => h9) rfl dX2_cycle_10 ?_
      refine va_getN (D := D) (ci := 2) (v := .int (nI (cs_cyc S))) (C := RX1) (T := TX1) (N := 5) hx hb hts iX2_cycle_X1 hown hK hP 5 rfl rfl 4 (by decide) (va_Nw.use rfl (hN _ (List.mem_of_getElem? (i := 1) rfl))) (fun _ h9 => h9) rfl dX2_cycle_13 ?_
      exact W.iret (v := nI (cs_cyc S)) hx hb hr (fun t ht hW => ⟨nI (cs_cyc S), rfl, (by simp only [rCyc, rCyc2, Option.elim_none, Option.map_none, if_pos h_1, if_pos h_6]), ht⟩) (fun q hq => absurd hq List.not_mem_nil) dX2_cycle_16
set_option maxRecDepth 20000 in
theorem iX2_limit_X2 : ∀ w ∈ wsX20, w ∈ wsX2_limit := by decide +kernel
set_option maxHeartbeats 4000000 in
set_option maxRecDepth 100000 in
theorem kX2_limit (l : Launch) (D : va_G) (cy : Nat → ClassId) (a : Nat → Nat) (n : Nat) (S : CS) (sz : Nat) (p0 : Int32) (v : Int64) : Met l yX2_limit wsX2_limit ({ frames := 1, cells := 0, slots := 0, locals := 25 }) (va_Pc [.ref (a 0), .int p0, .long v] (pX D cy a n S sz)) (va_Qi (fun r (u : CS) => r = rLim p0 v ∧ u = gLim S p0 v) (eX D cy a n (va_A (wX cy a n S) sz)) (va_A (wX cy a n S) sz)) 0 0 (va_A (wX cy a n S) sz) := by
  refine Met.ofW (cc := cX2_limit) (maxL := 6) (ret := (some .int)) (by decide) rfl ?_
  intro p e s m args below meth c s₁ B hml hv
  obtain ⟨rfl, hsz, hP, hK, hD0, hN⟩ := hv
  have hx := B.exec
  have hb := B.bytes
  have hr := B.returns
  have hts := atoms_spec (ws := wsX2_limit) B.pre
  have hown : s.vm.findClass RX2 = some m.cls := findClass_of_methodNamed B.named
  have hlocks := B.notSynchronized
  subst hsz
  have hD := hD0.self (sz := s.heap.size)
  generalize hAe : va_A (wX cy a n S) s.heap.size = A at hD ⊢
  have hA : ∀ q : Nat, s.heap.size ≤ q → A q := fun q h => by rw [← hAe]; exact Or.inr h
  have hS : va_S A s.heap s.heap [] := va_S.rf
  have hl := lv_entry ([.ref (a 0), .int p0, .long v]) (n := 6) (Nat.le_of_ble_eq_true rfl)
  rw [lg_entry_eq]
  generalize (lg_sl ([.ref (a 0), .int p0, .long v]) ++ List.replicate (6 - (lg_sl ([.ref (a 0), .int p0, .long v])).length) Slot.unset).toArray = ls at hl ⊢
  have hl : lv_has ls 6 [(0, .ref (a 0)), (1, .int p0), (2, .long v)] := hl
  refine lv_iload_n hx hb dX2_limit_0 rfl (lv_at hl 1 rfl) ?_
  refine iz_lt (tgt := 13) hx hb dX2_limit_1 (by decide) (fun h_1 => ?_) (fun h_1 => ?_)
  · refine lv_iconst (v := (-1)) hx hb dX2_limit_13 (by decide) ?_
    exact W.iret (v := (-1)) hx hb hr (fun t ht hW => ⟨⟨(-1), S, rfl, ⟨(by simp only [rLim, gLim, Option.elim_none, Option.map_none, if_pos h_1, ix_neg h_1]), (by simp only [rLim, gLim, Option.elim_none, Option.map_none, if_pos h_1, ix_neg h_1])⟩, by rw [ht]; exact hP, va_K.moved hW.alike hK, hD⟩, hS.F ht⟩) hS.2.2 dX2_limit_14
  · refine lv_iload_n hx hb dX2_limit_4 rfl (lv_at hl 1 rfl) ?_
    refine lv_aload_n hx hb dX2_limit_5 rfl (lv_at hl 0 rfl) ?_
    refine va_get (D := D) (ci := 3) (v := .ref (a 2)) (C := RX2) (T := TX2) (N := 8) hx hb hts iX2_limit_X2 hown hK hP 0 rfl rfl 1 (by decide) (hts (.fieldLink RX2 25 "CellRows2" "limits" "[J") (by decide +kernel)) (fun _ h9 => h9) rfl dX2_limit_6 ?_
    refine va_alen (v := nI 6) hx hb hK hP 2 1 rfl rfl rfl dX2_limit_9 ?_
    refine ib_lt (tgt := 15) hx hb dX2_limit_10 (by decide) (fun h_2 => ?_) (fun h_2 => ?_)
    · obtain ⟨j, hj, rfl⟩ := ix_of (n := 6) (by omega) h_1 h_2
      have e_ix := ix_at (n := 6) (by omega) hj
      refine W.join (P := fun v9 : Int64 => v9 = if nI j = 5 then 0 else (-1000)) (g := fun v9 => F0 m 27 ls [.long v9]) (fun v3 hv3 => ?_) (fun J3 => ?_)
      · subst hv3
        refine lv_lstore (lv' := [(4, .long (if nI j = 5 then 0 else (-1000))), (0, .ref (a 0)), (1, .int (nI j)), (2, .long v)]) hx hb dX2_limit_27 hl (by decide) rfl (fun ls hl => ?_)
        refine lv_lload_n hx hb dX2_limit_29 rfl (lv_at hl 3 rfl) ?_
        refine lv_lload hx hb dX2_limit_30 (lv_at hl 0 rfl) ?_
        refine lv_ldc2 hx hb hown (hts (.constantLong RX2 127 (1000000)) (by decide +kernel)) dX2_limit_32 ?_
        refine vp_callSi (W.runS (As := [.long v, .long (if nI j = 5 then 0 else (-1000)), .long 1000000]) (rest := []) ⟨hx, hb, hml, hown, hts⟩ (kX2_isOutside l v (if nI j = 5 then 0 else (-1000)) 1000000) (va_cwS 3 hts gX2_limit_X2_isOutside rfl rfl rfl (by decide +kernel) ⟨Nat.le_of_ble_eq_true rfl, Nat.le_of_ble_eq_true rfl⟩) ⟨fun _ _ _ _ q => q, fun U hU hW => ⟨rfl, trivial⟩⟩ rfl rfl hl.1 rfl (lv_room (Nat.le_of_ble_eq_true rfl)) dX2_limit_35 ⟨Nat.le_of_ble_eq_true rfl, Nat.le_of_ble_eq_true rfl⟩) (fun r5 hr5 => ?_)
        obtain rfl : r5 = sOut v (if nI j = 5 then 0 else (-1000)) 1000000 := hr5
        refine iz_eq (tgt := 44) hx hb dX2_limit_38 (by decide) (fun h_6 => ?_) (fun h_6 => ?_)
        · refine lv_aload_n hx hb dX2_limit_44 rfl (lv_at hl 1 rfl) ?_
          refine va_get (D := D) (ci := 3) (v := .ref (a 2)) (C := RX2) (T := TX2) (N := 8) hx hb hts iX2_limit_X2 hown hK hP 0 rfl rfl 1 (by decide) (hts (.fieldLink RX2 25 "CellRows2" "limits" "[J") (by decide +kernel)) (fun _ h9 => h9) rfl dX2_limit_45 ?_
          refine lv_iload_n hx hb dX2_limit_48 rfl (lv_at hl 2 rfl) ?_
          refine lv_lload_n hx hb dX2_limit_49 rfl (lv_at hl 3 rfl) ?_
          refine rs_l (f := (cs_lim S)) hx hb hK hP hD hS 2 1 rfl rfl j rfl (by omega) (Nat.le_of_ble_eq_true rfl) dX2_limit_50 (fun H7 locs7 hP hD hS => ?_)
          have hP : va_P D vwCl (wX cy a n (cs_set_lim S (va_up (cs_lim S) j v))) H7 := hP
          have hD : va_D A (wX cy a n (cs_set_lim S (va_up (cs_lim S) j v))) := hD
          refine lv_iconst (v := 1) hx hb dX2_limit_51 (by decide) ?_
          exact W.iret (v := 1) hx hb hr (fun t ht hW => ⟨⟨1, (cs_set_lim S (va_up (cs_lim S) j v)), rfl, ⟨(by simp only [rLim, gLim, Option.elim_none, Option.map_none, if_neg h_1, if_pos h_2, e_ix, Option.elim_some, Option.map_some, if_pos h_6]), (by simp only [rLim, gLim, Option.elim_none, Option.map_none, if_neg h_1, if_pos h_2, e_ix, Option.elim_some, Option.map_some, if_pos h_6])⟩, by rw [ht]; exact hP, va_K.moved hW.alike hK, hD⟩, hS.F ht⟩) hS.2.2 dX2_limit_52
        · refine lv_bipush (v := (-2)) hx hb dX2_limit_41 (by decide) ?_
          exact W.iret (v := (-2)) hx hb hr (fun t ht hW => ⟨⟨(-2), S, rfl, ⟨(by simp only [rLim, gLim, Option.elim_none, Option.map_none, if_neg h_1, if_pos h_2, e_ix, Option.elim_some, Option.map_some, if_neg h_6]), (by simp only [rLim, gLim, Option.elim_none, Option.map_none, if_neg h_1, if_pos h_2, e_ix, Option.elim_some, Option.map_some, if_neg h_6])⟩, by rw [ht]; exact hP, va_K.moved hW.alike hK, hD⟩, hS.F ht⟩) hS.2.2 dX2_limit_43
      · refine lv_iload_n hx hb dX2_limit_15 rfl (lv_at hl 1 rfl) ?_
        refine lv_iconst (v := 5) hx hb dX2_limit_16 (by decide) ?_
        refine ib_ne (tgt := 24) hx hb dX2_limit_17 (by decide) (fun h_4 => ?_) (fun h_4 => ?_)
        · refine lv_ldc2 hx hb hown (hts (.constantLong RX2 59 (-1000)) (by decide +kernel)) dX2_limit_24 ?_
          exact J3 _ (by simp only [if_neg h_4])
        · refine lv_lconst (v := 0) hx hb dX2_limit_20 (by decide) ?_
          refine lv_goto (tgt := 27) hx hb dX2_limit_21 (by decide) ?_
          exact J3 _ (by simp only [if_pos h_4])
    · refine lv_iconst (v := (-1)) hx hb dX2_limit_13 (by decide) ?_
      exact W.iret (v := (-1)) hx hb hr (fun t ht hW => ⟨⟨(-1), S, rfl, ⟨(by simp only [rLim, gLim, Option.elim_none, Option.map_none, if_neg h_1, if_neg h_2, ix_big h_2]), (by simp only [rLim, gLim, Option.elim_none, Option.map_none, if_neg h_1, if_neg h_2, ix_big h_2])⟩, by rw [ht]; exact hP, va_K.moved hW.alike hK, hD⟩, hS.F ht⟩) hS.2.2 dX2_limit_14
set_option maxRecDepth 20000 in
theorem iX2_stuck_X2 : ∀ w ∈ wsX20, w ∈ wsX2_stuck := by decide +kernel
set_option maxHeartbeats 4000000 in
set_option maxRecDepth 100000 in
theorem kX2_stuck (l : Launch) (D : va_G) (cy : Nat → ClassId) (a : Nat → Nat) (n : Nat) (S : CS) (sz : Nat) (p0 : Int32) : Met l yX2_stuck wsX2_stuck ({ frames := 0, cells := 0, slots := 0, locals := 0 }) (va_Pc [.ref (a 0), .int p0] (pX D cy a n S sz)) (va_Qi (fun r (u : CS) => r = rStu S p0 ∧ u = gStu S p0) (eX D cy a n (va_A (wX cy a n S) sz)) (va_A (wX cy a n S) sz)) 0 0 (va_A (wX cy a n S) sz) := by
  refine Met.ofW (cc := cX2_stuck) (maxL := 2) (ret := (some .int)) (by decide) rfl ?_
  intro p e s m args below meth c s₁ B hml hv
  obtain ⟨rfl, hsz, hP, hK, hD0, hN⟩ := hv
  have hx := B.exec
  have hb := B.bytes
  have hr := B.returns
  have hts := atoms_spec (ws := wsX2_stuck) B.pre
  have hown : s.vm.findClass RX2 = some m.cls := findClass_of_methodNamed B.named
  have hlocks := B.notSynchronized
  subst hsz
  have hD := hD0.self (sz := s.heap.size)
  generalize hAe : va_A (wX cy a n S) s.heap.size = A at hD ⊢
  have hA : ∀ q : Nat, s.heap.size ≤ q → A q := fun q h => by rw [← hAe]; exact Or.inr h
  have hS : va_S A s.heap s.heap [] := va_S.rf
  have hl := lv_entry ([.ref (a 0), .int p0]) (n := 2) (Nat.le_of_ble_eq_true rfl)
  rw [lg_entry_eq]
  generalize (lg_sl ([.ref (a 0), .int p0]) ++ List.replicate (2 - (lg_sl ([.ref (a 0), .int p0])).length) Slot.unset).toArray = ls at hl ⊢
  have hl : lv_has ls 2 [(0, .ref (a 0)), (1, .int p0)] := hl
  refine lv_iload_n hx hb dX2_stuck_0 rfl (lv_at hl 1 rfl) ?_
  refine iz_lt (tgt := 13) hx hb dX2_stuck_1 (by decide) (fun h_1 => ?_) (fun h_1 => ?_)
  · refine lv_iconst (v := (-1)) hx hb dX2_stuck_13 (by decide) ?_
    exact W.iret (v := (-1)) hx hb hr (fun t ht hW => ⟨⟨(-1), S, rfl, ⟨(by simp only [rStu, gStu, Option.elim_none, Option.map_none, if_pos h_1, ix_neg h_1]), (by simp only [rStu, gStu, Option.elim_none, Option.map_none, if_pos h_1, ix_neg h_1])⟩, by rw [ht]; exact hP, va_K.moved hW.alike hK, hD⟩, hS.F ht⟩) hS.2.2 dX2_stuck_14
  · refine lv_iload_n hx hb dX2_stuck_4 rfl (lv_at hl 1 rfl) ?_
    refine lv_aload_n hx hb dX2_stuck_5 rfl (lv_at hl 0 rfl) ?_
    refine va_get (D := D) (ci := 3) (v := .ref (a 3)) (C := RX2) (T := TX2) (N := 8) hx hb hts iX2_stuck_X2 hown hK hP 0 rfl rfl 2 (by decide) (hts (.fieldLink RX2 28 "CellRows2" "stuckContactors" "[Z") (by decide +kernel)) (fun _ h9 => h9) rfl dX2_stuck_6 ?_
    refine va_alen (v := nI 3) hx hb hK hP 3 2 rfl rfl rfl dX2_stuck_9 ?_
    refine ib_lt (tgt := 15) hx hb dX2_stuck_10 (by decide) (fun h_2 => ?_) (fun h_2 => ?_)
    · obtain ⟨j, hj, rfl⟩ := ix_of (n := 3) (by omega) h_1 h_2
      have e_ix := ix_at (n := 3) (by omega) hj
      refine lv_aload_n hx hb dX2_stuck_15 rfl (lv_at hl 0 rfl) ?_
      refine va_get (D := D) (ci := 3) (v := .ref (a 3)) (C := RX2) (T := TX2) (N := 8) hx hb hts iX2_stuck_X2 hown hK hP 0 rfl rfl 2 (by decide) (hts (.fieldLink RX2 28 "CellRows2" "stuckContactors" "[Z") (by decide +kernel)) (fun _ h9 => h9) rfl dX2_stuck_16 ?_
      refine lv_iload_n hx hb dX2_stuck_19 rfl (lv_at hl 1 rfl) ?_
      refine lv_aload_n hx hb dX2_stuck_20 rfl (lv_at hl 0 rfl) ?_
      refine va_get (D := D) (ci := 3) (v := .ref (a 3)) (C := RX2) (T := TX2) (N := 8) hx hb hts iX2_stuck_X2 hown hK hP 0 rfl rfl 2 (by decide) (hts (.fieldLink RX2 28 "CellRows2" "stuckContactors" "[Z") (by decide +kernel)) (fun _ h9 => h9) rfl dX2_stuck_21 ?_
      refine lv_iload_n hx hb dX2_stuck_24 rfl (lv_at hl 1 rfl) ?_
      refine ra_z (f := (cs_stk S)) hx hb hK hP 3 2 rfl rfl j rfl (by omega) (Nat.le_of_ble_eq_true rfl) dX2_stuck_25 ?_
      refine W.join (P := fun v9 : Int32 => v9 = if (cs_stk S) j = 0 then 1 else 0) (g := fun v9 => F0 m 34 ls [.int v9, .int (nI j), .ref (a 3)]) (fun v3 hv3 => ?_) (fun J3 => ?_)
      · subst hv3
        refine rs_z (f := (cs_stk S)) hx hb hK hP hD hS 3 2 rfl rfl i01 j rfl (by omega) (Nat.le_of_ble_eq_true rfl) dX2_stuck_34 (fun H5 locs5 hP hD hS => ?_)
        have hP : va_P D vwCl (wX cy a n (cs_set_stk S (va_up (cs_stk S) j (if (cs_stk S) j = 0 then 1 else 0)))) H5 := hP
        have hD : va_D A (wX cy a n (cs_set_stk S (va_up (cs_stk S) j (if (cs_stk S) j = 0 then 1 else 0)))) := hD
        refine lv_aload_n hx hb dX2_stuck_35 rfl (lv_at hl 0 rfl) ?_
        refine va_get (D := D) (ci := 3) (v := .ref (a 3)) (C := RX2) (T := TX2) (N := 8) hx hb hts iX2_stuck_X2 hown hK hP 0 rfl rfl 2 (by decide) (hts (.fieldLink RX2 28 "CellRows2" "stuckContactors" "[Z") (by decide +kernel)) (fun _ h9 => h9) rfl dX2_stuck_36 ?_
        refine lv_iload_n hx hb dX2_stuck_39 rfl (lv_at hl 1 rfl) ?_
        refine ra_z (f := va_up (cs_stk S) j (if (cs_stk S) j = 0 then 1 else 0)) hx hb hK hP 3 2 rfl rfl j rfl (by omega) (Nat.le_of_ble_eq_true rfl) dX2_stuck_40 ?_
        refine iz_eq (tgt := 48) hx hb dX2_stuck_41 (by decide) (fun h_6 => ?_) (fun h_6 => ?_)
        · refine lv_iconst (v := 0) hx hb dX2_stuck_48 (by decide) ?_
          exact W.iret (v := 0) hx hb hr (fun t ht hW => ⟨⟨0, (cs_set_stk S (va_up (cs_stk S) j (if (cs_stk S) j = 0 then 1 else 0))), rfl, ⟨(by simp only [rStu, gStu, Option.elim_none, Option.map_none, if_neg h_1, if_pos h_2, e_ix, Option.elim_some, Option.map_some, if_pos h_6]), (by simp only [rStu, gStu, Option.elim_none, Option.map_none, if_neg h_1, if_pos h_2, e_ix, Option.elim_some, Option.map_some, if_pos h_6])⟩, by rw [ht]; exact hP, va_K.moved hW.alike hK, hD⟩, hS.F ht⟩) hS.2.2 dX2_stuck_49
        · refine lv_iconst (v := 1) hx hb dX2_stuck_44 (by decide) ?_
          refine lv_goto (tgt := 49) hx hb dX2_stuck_45 (by decide) ?_
          exact W.iret (v := 1) hx hb hr (fun t ht hW => ⟨⟨1, (cs_set_stk S (va_up (cs_stk S) j (if (cs_stk S) j = 0 then 1 else 0))), rfl, ⟨(by simp only [rStu, gStu, Option.elim_none, Option.map_none, if_neg h_1, if_pos h_2, e_ix, Option.elim_some, Option.map_some, if_neg h_6]), (by simp only [rStu, gStu, Option.elim_none, Option.map_none, if_neg h_1, if_pos h_2, e_ix, Option.elim_some, Option.map_some, if_neg h_6])⟩, by rw [ht]; exact hP, va_K.moved hW.alike hK, hD⟩, hS.F ht⟩) hS.2.2 dX2_stuck_49
      · refine iz_ne (tgt := 33) hx hb dX2_stuck_26 (by decide) (fun h_4 => ?_) (fun h_4 => ?_)
        · refine lv_iconst (v := 0) hx hb dX2_stuck_33 (by decide) ?_
          exact J3 _ (by simp only [if_neg h_4])
        · refine lv_iconst (v := 1) hx hb dX2_stuck_29 (by decide) ?_
          refine lv_goto (tgt := 34) hx hb dX2_stuck_30 (by decide) ?_
          exact J3 _ (by simp only [if_pos h_4])
    · refine lv_iconst (v := (-1)) hx hb dX2_stuck_13 (by decide) ?_
      exact W.iret (v := (-1)) hx hb hr (fun t ht hW => ⟨⟨(-1), S, rfl, ⟨(by simp only [rStu, gStu, Option.elim_none, Option.map_none, if_neg h_1, if_neg h_2, ix_big h_2]), (by simp only [rStu, gStu, Option.elim_none, Option.map_none, if_neg h_1, if_neg h_2, ix_big h_2])⟩, by rw [ht]; exact hP, va_K.moved hW.alike hK, hD⟩, hS.F ht⟩) hS.2.2 dX2_stuck_14
set_option maxHeartbeats 4000000 in
set_option maxRecDepth 100000 in
theorem kX2_insulate (l : Launch) (D : va_G) (cy : Nat → ClassId) (a : Nat → Nat) (n : Nat) (S : CS) (sz : Nat) (v : Int64) (hf : cs_fc S < 1024) : Met l yX2_insulate wsX2_insulate ({ frames := 1, cells := 0, slots := 0, locals := 21 }) (va_Pc [.ref (a 0), .long v] (pX D cy a n S sz)) (va_Qi (fun r (u : CS) => r = rIns v ∧ u = gIns S v) (eX D cy a n (va_A (wX cy a n S) sz)) (va_A (wX cy a n S) sz)) 0 0 (va_A (wX cy a n S) sz) := by
  refine Met.ofW (cc := cX2_insulate) (maxL := 3) (ret := (some .int)) (by decide) rfl ?_
  intro p e s m args below meth c s₁ B hml hv
  obtain ⟨rfl, hsz, hP, hK, hD0, hN⟩ := hv
  have hx := B.exec
  have hb := B.bytes
  have hr := B.returns
  have hts := atoms_spec (ws := wsX2_insulate) B.pre
  have hown : s.vm.findClass RX2 = some m.cls := findClass_of_methodNamed B.named
  have hlocks := B.notSynchronized
  subst hsz
  have hD := hD0.self (sz := s.heap.size)
  generalize hAe : va_A (wX cy a n S) s.heap.size = A at hD ⊢
  have hA : ∀ q : Nat, s.heap.size ≤ q → A q := fun q h => by rw [← hAe]; exact Or.inr h
  have hS : va_S A s.heap s.heap [] := va_S.rf
  have hl := lv_entry ([.ref (a 0), .long v]) (n := 3) (Nat.le_of_ble_eq_true rfl)
  rw [lg_entry_eq]
  generalize (lg_sl ([.ref (a 0), .long v]) ++ List.replicate (3 - (lg_sl ([.ref (a 0), .long v])).length) Slot.unset).toArray = ls at hl ⊢
  have hl : lv_has ls 3 [(0, .ref (a 0)), (1, .long v)] := hl
  refine lv_lload_n hx hb dX2_insulate_0 rfl (lv_at hl 1 rfl) ?_
  refine lv_lconst (v := 0) hx hb dX2_insulate_1 (by decide) ?_
  refine il_ge (tgt := 9) hx hb dX2_insulate_2 dX2_insulate_3 (by decide) (fun h_1 => ?_) (fun h_1 => ?_)
  · refine lv_lload_n hx hb dX2_insulate_9 rfl (lv_at hl 1 rfl) ?_
    refine lv_ldc2 hx hb hown (hts (.constantLong RX2 133 (100)) (by decide +kernel)) dX2_insulate_10 ?_
    refine il_ge (tgt := 24) hx hb dX2_insulate_13 dX2_insulate_14 (by decide) (fun h_2 => ?_) (fun h_2 => ?_)
    · refine lv_iconst (v := 1) hx hb dX2_insulate_24 (by decide) ?_
      exact W.iret (v := 1) hx hb hr (fun t ht hW => ⟨⟨1, S, rfl, ⟨(by simp only [rIns, gIns, if_neg h_1, if_neg h_2]), (by simp only [rIns, gIns, if_neg h_1, if_neg h_2])⟩, by rw [ht]; exact hP, va_K.moved hW.alike hK, hD⟩, hS.F ht⟩) hS.2.2 dX2_insulate_25
    · refine lv_aload_n hx hb dX2_insulate_17 rfl (lv_at hl 0 rfl) ?_
      refine lv_iconst (v := 5) hx hb dX2_insulate_18 (by decide) ?_
      have hSo := hS
      refine va_callv (va_runV (As := [.int 5]) (rest := []) ⟨hx, hb, hml, hown, hts⟩ (kX2_noteFault l D cy a n S s.heap.size 5 (by first | assumption | omega | (show cs_fc _ + 1 < 1024; omega))) (cwV 1 hts gX2_insulate_X2_noteFault rfl rfl rfl (by decide +kernel) ⟨Nat.le_of_ble_eq_true rfl, Nat.le_of_ble_eq_true rfl⟩) ⟨pX_blind, va_recv hK hP (ci := 3) (q0 := 0) rfl rfl, fun U hU hW => ⟨rfl, pX_mk hP hK hD hN hU hW⟩⟩ rfl rfl hl.1 rfl (lv_room (Nat.le_of_ble_eq_true rfl)) dX2_insulate_19 ⟨Nat.le_of_ble_eq_true rfl, Nat.le_of_ble_eq_true rfl⟩) hS (fun q _ h => freeAll hD hS hA q h) (freeAll hD hS hA) (fun u3 t3 H3 locs3 ht hvm hw hB hz1 hk1 hS => ?_)
      obtain ⟨hP1, hK1, hD1⟩ := hB
      rw [ht] at hP1
      have hK := va_K.moved hvm.symm hK1
      obtain rfl : u3 = sNote S 5 := hw
      have hD := hD1.weaken (fun _ q _ h => freeAll hD hSo hA q.1 h)
      have hP := hP1
      refine lv_iconst (v := 0) hx hb dX2_insulate_22 (by decide) ?_
      exact W.iret (v := 0) hx hb hr (fun t ht hW => ⟨⟨0, sNote S 5, rfl, ⟨(by simp only [rIns, gIns, if_neg h_1, if_pos h_2]), (by simp only [rIns, gIns, if_neg h_1, if_pos h_2])⟩, by rw [ht]; exact hP, va_K.moved hW.alike hK, hD⟩, hS.F ht⟩) hS.2.2 dX2_insulate_23
  · refine lv_bipush (v := (-2)) hx hb dX2_insulate_6 (by decide) ?_
    exact W.iret (v := (-2)) hx hb hr (fun t ht hW => ⟨⟨(-2), S, rfl, ⟨(by simp only [rIns, gIns, if_pos h_1]), (by simp only [rIns, gIns, if_pos h_1])⟩, by rw [ht]; exact hP, va_K.moved hW.alike hK, hD⟩, hS.F ht⟩) hS.2.2 dX2_insulate_8
set_option maxRecDepth 20000 in
theorem iX2_closeNextContactor_X2 : ∀ w ∈ wsX20, w ∈ wsX2_closeNextContactor := by decide +kernel
set_option maxHeartbeats 4000000 in
set_option maxRecDepth 100000 in
theorem kX2_closeNextContactor (l : Launch) (D : va_G) (cy : Nat → ClassId) (a : Nat → Nat) (n : Nat) (S : CS) (sz : Nat) (hf : cs_fc S < 1024) : Met l yX2_closeNextContactor wsX2_closeNextContactor ({ frames := 1, cells := 0, slots := 0, locals := 21 }) (va_Pc [.ref (a 0)] (pX D cy a n S sz)) (va_Qi (fun r (u : CS) => r = rClo S ∧ u = gClo S) (eX D cy a n (va_A (wX cy a n S) sz)) (va_A (wX cy a n S) sz)) 0 0 (va_A (wX cy a n S) sz) := by
  refine Met.ofW (cc := cX2_closeNextContactor) (maxL := 1) (ret := (some .int)) (by decide) rfl ?_
  intro p e s m args below meth c s₁ B hml hv
  obtain ⟨rfl, hsz, hP, hK, hD0, hN⟩ := hv
  have hx := B.exec
  have hb := B.bytes
  have hr := B.returns
  have hts := atoms_spec (ws := wsX2_closeNextContactor) B.pre
  have hown : s.vm.findClass RX2 = some m.cls := findClass_of_methodNamed B.named
  have hlocks := B.notSynchronized
  subst hsz
  have hD := hD0.self (sz := s.heap.size)
  generalize hAe : va_A (wX cy a n S) s.heap.size = A at hD ⊢
  have hA : ∀ q : Nat, s.heap.size ≤ q → A q := fun q h => by rw [← hAe]; exact Or.inr h
  have hS : va_S A s.heap s.heap [] := va_S.rf
  have hl := lv_entry ([.ref (a 0)]) (n := 1) (Nat.le_of_ble_eq_true rfl)
  rw [lg_entry_eq]
  generalize (lg_sl ([.ref (a 0)]) ++ List.replicate (1 - (lg_sl ([.ref (a 0)])).length) Slot.unset).toArray = ls at hl ⊢
  have hl : lv_has ls 1 [(0, .ref (a 0))] := hl
  refine lv_aload_n hx hb dX2_closeNextContactor_0 rfl (lv_at hl 0 rfl) ?_
  refine va_get (D := D) (ci := 3) (v := .int (nI (cs_st S))) (C := RX2) (T := TX2) (N := 8) hx hb hts iX2_closeNextContactor_X2 hown hK hP 0 rfl rfl 5 (by decide) (hts (.fieldLink RX2 110 "CellRows2" "stage" "I") (by decide +kernel)) (fun _ h9 => h9) rfl dX2_closeNextContactor_1 ?_
  refine lv_iconst (v := 3) hx hb dX2_closeNextContactor_4 (by decide) ?_
  refine ib_eq (tgt := 24) hx hb dX2_closeNextContactor_5 (by decide) (fun h_1 => ?_) (fun h_1 => ?_)
  · refine lv_bipush (v := (-3)) hx hb dX2_closeNextContactor_24 (by decide) ?_
    exact W.iret (v := (-3)) hx hb hr (fun t ht hW => ⟨⟨(-3), S, rfl, ⟨(by simp only [rClo, gClo, rClo2, gClo2, if_pos h_1]), (by simp only [rClo, gClo, rClo2, gClo2, if_pos h_1])⟩, by rw [ht]; exact hP, va_K.moved hW.alike hK, hD⟩, hS.F ht⟩) hS.2.2 dX2_closeNextContactor_26
  · refine lv_aload_n hx hb dX2_closeNextContactor_8 rfl (lv_at hl 0 rfl) ?_
    refine va_get (D := D) (ci := 3) (v := .int (nI (cs_st S))) (C := RX2) (T := TX2) (N := 8) hx hb hts iX2_closeNextContactor_X2 hown hK hP 0 rfl rfl 5 (by decide) (hts (.fieldLink RX2 110 "CellRows2" "stage" "I") (by decide +kernel)) (fun _ h9 => h9) rfl dX2_closeNextContactor_9 ?_
    refine lv_iconst (v := 2) hx hb dX2_closeNextContactor_12 (by decide) ?_
    refine ib_ne (tgt := 27) hx hb dX2_closeNextContactor_13 (by decide) (fun h_2 => ?_) (fun h_2 => ?_)
    · refine lv_aload_n hx hb dX2_closeNextContactor_27 rfl (lv_at hl 0 rfl) ?_
      refine va_get (D := D) (ci := 3) (v := .int (nI (cs_st S))) (C := RX2) (T := TX2) (N := 8) hx hb hts iX2_closeNextContactor_X2 hown hK hP 0 rfl rfl 5 (by decide) (hts (.fieldLink RX2 110 "CellRows2" "stage" "I") (by decide +kernel)) (fun _ h9 => h9) rfl dX2_closeNextContactor_28 ?_
      refine lv_iconst (v := 2) hx hb dX2_closeNextContactor_31 (by decide) ?_
      refine ib_ne (tgt := 52) hx hb dX2_closeNextContactor_32 (by decide) (fun h_3 => ?_) (fun h_3 => ?_)
      · refine lv_aload_n hx hb dX2_closeNextContactor_52 rfl (lv_at hl 0 rfl) ?_
        refine lv_aload_n hx hb dX2_closeNextContactor_53 rfl (lv_at hl 0 rfl) ?_
        refine va_get (D := D) (ci := 3) (v := .int (nI (cs_st S))) (C := RX2) (T := TX2) (N := 8) hx hb hts iX2_closeNextContactor_X2 hown hK hP 0 rfl rfl 5 (by decide) (hts (.fieldLink RX2 110 "CellRows2" "stage" "I") (by decide +kernel)) (fun _ h9 => h9) rfl dX2_closeNextContactor_54 ?_
        refine vp_callSi (W.runV (As := [.int (nI (cs_st S))]) (rest := []) ⟨hx, hb, hml, hown, hts⟩ (kX2_isStuck l D cy a n S s.heap.size (nI (cs_st S))) (cwV 1 hts gX2_closeNextContactor_X2_isStuck rfl rfl rfl (by decide +kernel) ⟨Nat.le_of_ble_eq_true rfl, Nat.le_of_ble_eq_true rfl⟩) ⟨pX_blind, va_recv hK hP (ci := 3) (q0 := 0) rfl rfl, fun U hU hW => ⟨rfl, pX_mk hP hK hD hN hU hW⟩⟩ rfl rfl hl.1 rfl (lv_room (Nat.le_of_ble_eq_true rfl)) dX2_closeNextContactor_57 ⟨Nat.le_of_ble_eq_true rfl, Nat.le_of_ble_eq_true rfl⟩) (fun r4 hr4 => ?_)
        obtain rfl : r4 = sStk S (nI (cs_st S)) := hr4
        refine iz_eq (tgt := 71) hx hb dX2_closeNextContactor_60 (by decide) (fun h_5 => ?_) (fun h_5 => ?_)
        · refine lv_aload_n hx hb dX2_closeNextContactor_71 rfl (lv_at hl 0 rfl) ?_
          refine lv_dup hx hb dX2_closeNextContactor_72 rfl ?_
          refine va_get (D := D) (ci := 3) (v := .int (nI (cs_st S))) (C := RX2) (T := TX2) (N := 8) hx hb hts iX2_closeNextContactor_X2 hown hK hP 0 rfl rfl 5 (by decide) (hts (.fieldLink RX2 110 "CellRows2" "stage" "I") (by decide +kernel)) (fun _ h9 => h9) rfl dX2_closeNextContactor_73 ?_
          refine lv_iconst (v := 1) hx hb dX2_closeNextContactor_76 (by decide) ?_
          refine lv_iadd hx hb dX2_closeNextContactor_77 ?_
          refine W.eqi (nI_1 (cs_st S)) ?_
          refine va_put (D := D) (ci := 3) (v := .int (nI ((cs_st S) + 1))) (ty := .int) (C := RX2) (T := TX2) (N := 8) hx hb hts iX2_closeNextContactor_X2 tyX2 tyX2_ok nmX2 hown hK hP hD hS 0 rfl rfl 5 (by decide) (hts (.fieldLink RX2 110 "CellRows2" "stage" "I") (by decide +kernel)) (fun _ h9 => h9) rfl (by decide +kernel) rfl rfl (Nat.le_of_ble_eq_true rfl) dX2_closeNextContactor_78 (fun H6 locs6 hP hD hS => ?_)
          have hP : va_P D vwCl (wX cy a n (cs_set_st S ((cs_st S) + 1))) H6 := hP
          have hD : va_D A (wX cy a n (cs_set_st S ((cs_st S) + 1))) := hD
          refine lv_aload_n hx hb dX2_closeNextContactor_81 rfl (lv_at hl 0 rfl) ?_
          refine lv_iconst (v := 0) hx hb dX2_closeNextContactor_82 (by decide) ?_
          refine va_put (D := D) (ci := 3) (v := .int 0) (ty := .int) (C := RX2) (T := TX2) (N := 8) hx hb hts iX2_closeNextContactor_X2 tyX2 tyX2_ok nmX2 hown hK hP hD hS 0 rfl rfl 6 (by decide) (hts (.fieldLink RX2 78 "CellRows2" "stepsOfPreCharge" "I") (by decide +kernel)) (fun _ h9 => h9) rfl (by decide +kernel) rfl rfl (Nat.le_of_ble_eq_true rfl) dX2_closeNextContactor_83 (fun H7 locs7 hP hD hS => ?_)
          have hP : va_P D vwCl (wX cy a n (cs_set_pre (cs_set_st S ((cs_st S) + 1)) 0)) H7 := hP
          have hD : va_D A (wX cy a n (cs_set_pre (cs_set_st S ((cs_st S) + 1)) 0)) := hD
          refine lv_aload_n hx hb dX2_closeNextContactor_86 rfl (lv_at hl 0 rfl) ?_
          refine va_get (D := D) (ci := 3) (v := .int (nI ((cs_st S) + 1))) (C := RX2) (T := TX2) (N := 8) hx hb hts iX2_closeNextContactor_X2 hown hK hP 0 rfl rfl 5 (by decide) (hts (.fieldLink RX2 110 "CellRows2" "stage" "I") (by decide +kernel)) (fun _ h9 => h9) rfl dX2_closeNextContactor_87 ?_
          exact W.iret (v := nI ((cs_st S) + 1)) hx hb hr (fun t ht hW => ⟨⟨nI ((cs_st S) + 1), (cs_set_pre (cs_set_st S ((cs_st S) + 1)) 0), rfl, ⟨(by simp only [rClo, gClo, rClo2, gClo2, if_neg h_1, if_neg h_2, if_neg h_3, if_pos h_5]), (by simp only [rClo, gClo, rClo2, gClo2, if_neg h_1, if_neg h_2, if_neg h_3, if_pos h_5])⟩, by rw [ht]; exact hP, va_K.moved hW.alike hK, hD⟩, hS.F ht⟩) hS.2.2 dX2_closeNextContactor_90
        · refine lv_aload_n hx hb dX2_closeNextContactor_63 rfl (lv_at hl 0 rfl) ?_
          refine lv_iconst (v := 4) hx hb dX2_closeNextContactor_64 (by decide) ?_
          have hSo := hS
          refine va_callv (va_runV (As := [.int 4]) (rest := []) ⟨hx, hb, hml, hown, hts⟩ (kX2_noteFault l D cy a n S s.heap.size 4 (by first | assumption | omega | (show cs_fc _ + 1 < 1024; omega))) (cwV 1 hts gX2_closeNextContactor_X2_noteFault rfl rfl rfl (by decide +kernel) ⟨Nat.le_of_ble_eq_true rfl, Nat.le_of_ble_eq_true rfl⟩) ⟨pX_blind, va_recv hK hP (ci := 3) (q0 := 0) rfl rfl, fun U hU hW => ⟨rfl, pX_mk hP hK hD hN hU hW⟩⟩ rfl rfl hl.1 rfl (lv_room (Nat.le_of_ble_eq_true rfl)) dX2_closeNextContactor_65 ⟨Nat.le_of_ble_eq_true rfl, Nat.le_of_ble_eq_true rfl⟩) hS (fun q _ h => freeAll hD hS hA q h) (freeAll hD hS hA) (fun u8 t8 H8 locs8 ht hvm hw hB hz1 hk1 hS => ?_)
          obtain ⟨hP1, hK1, hD1⟩ := hB
          rw [ht] at hP1
          have hK := va_K.moved hvm.symm hK1
          obtain rfl : u8 = sNote S 4 := hw
          have hD := hD1.weaken (fun _ q _ h => freeAll hD hSo hA q.1 h)
          have hP := hP1
          refine lv_goto (tgt := 86) hx hb dX2_closeNextContactor_68 (by decide) ?_
          refine lv_aload_n hx hb dX2_closeNextContactor_86 rfl (lv_at hl 0 rfl) ?_
          refine va_get (D := D) (ci := 3) (v := .int (nI (cs_st (sNote S 4)))) (C := RX2) (T := TX2) (N := 8) hx hb hts iX2_closeNextContactor_X2 hown hK hP 0 rfl rfl 5 (by decide) (hts (.fieldLink RX2 110 "CellRows2" "stage" "I") (by decide +kernel)) (fun _ h9 => h9) rfl dX2_closeNextContactor_87 ?_
          exact W.iret (v := nI (cs_st (sNote S 4))) hx hb hr (fun t ht hW => ⟨⟨nI (cs_st (sNote S 4)), sNote S 4, rfl, ⟨(by simp only [rClo, gClo, rClo2, gClo2, if_neg h_1, if_neg h_2, if_neg h_3, if_neg h_5]), (by simp only [rClo, gClo, rClo2, gClo2, if_neg h_1, if_neg h_2, if_neg h_3, if_neg h_5])⟩, by rw [ht]; exact hP, va_K.moved hW.alike hK, hD⟩, hS.F ht⟩) hS.2.2 dX2_closeNextContactor_90
      · exact absurd h_3 h_2
    · refine lv_aload_n hx hb dX2_closeNextContactor_16 rfl (lv_at hl 0 rfl) ?_
      refine va_get (D := D) (ci := 3) (v := .int (cs_pre S)) (C := RX2) (T := TX2) (N := 8) hx hb hts iX2_closeNextContactor_X2 hown hK hP 0 rfl rfl 6 (by decide) (hts (.fieldLink RX2 78 "CellRows2" "stepsOfPreCharge" "I") (by decide +kernel)) (fun _ h9 => h9) rfl dX2_closeNextContactor_17 ?_
      refine lv_iconst (v := 3) hx hb dX2_closeNextContactor_20 (by decide) ?_
      refine ib_ge (tgt := 27) hx hb dX2_closeNextContactor_21 (by decide) (fun h_9 => ?_) (fun h_9 => ?_)
      · refine lv_aload_n hx hb dX2_closeNextContactor_27 rfl (lv_at hl 0 rfl) ?_
        refine va_get (D := D) (ci := 3) (v := .int (nI (cs_st S))) (C := RX2) (T := TX2) (N := 8) hx hb hts iX2_closeNextContactor_X2 hown hK hP 0 rfl rfl 5 (by decide) (hts (.fieldLink RX2 110 "CellRows2" "stage" "I") (by decide +kernel)) (fun _ h9 => h9) rfl dX2_closeNextContactor_28 ?_
        refine lv_iconst (v := 2) hx hb dX2_closeNextContactor_31 (by decide) ?_
        refine ib_ne (tgt := 52) hx hb dX2_closeNextContactor_32 (by decide) (fun h_10 => ?_) (fun h_10 => ?_)
        · exact absurd h_2 h_10
        · refine lv_aload_n hx hb dX2_closeNextContactor_35 rfl (lv_at hl 0 rfl) ?_
          refine va_get (D := D) (ci := 3) (v := .int (cs_pre S)) (C := RX2) (T := TX2) (N := 8) hx hb hts iX2_closeNextContactor_X2 hown hK hP 0 rfl rfl 6 (by decide) (hts (.fieldLink RX2 78 "CellRows2" "stepsOfPreCharge" "I") (by decide +kernel)) (fun _ h9 => h9) rfl dX2_closeNextContactor_36 ?_
          refine lv_bipush (v := 20) hx hb dX2_closeNextContactor_39 (by decide) ?_
          refine ib_lt (tgt := 52) hx hb dX2_closeNextContactor_41 (by decide) (fun h_11 => ?_) (fun h_11 => ?_)
          · refine lv_aload_n hx hb dX2_closeNextContactor_52 rfl (lv_at hl 0 rfl) ?_
            refine lv_aload_n hx hb dX2_closeNextContactor_53 rfl (lv_at hl 0 rfl) ?_
            refine va_get (D := D) (ci := 3) (v := .int (nI (cs_st S))) (C := RX2) (T := TX2) (N := 8) hx hb hts iX2_closeNextContactor_X2 hown hK hP 0 rfl rfl 5 (by decide) (hts (.fieldLink RX2 110 "CellRows2" "stage" "I") (by decide +kernel)) (fun _ h9 => h9) rfl dX2_closeNextContactor_54 ?_
            refine vp_callSi (W.runV (As := [.int (nI (cs_st S))]) (rest := []) ⟨hx, hb, hml, hown, hts⟩ (kX2_isStuck l D cy a n S s.heap.size (nI (cs_st S))) (cwV 1 hts gX2_closeNextContactor_X2_isStuck rfl rfl rfl (by decide +kernel) ⟨Nat.le_of_ble_eq_true rfl, Nat.le_of_ble_eq_true rfl⟩) ⟨pX_blind, va_recv hK hP (ci := 3) (q0 := 0) rfl rfl, fun U hU hW => ⟨rfl, pX_mk hP hK hD hN hU hW⟩⟩ rfl rfl hl.1 rfl (lv_room (Nat.le_of_ble_eq_true rfl)) dX2_closeNextContactor_57 ⟨Nat.le_of_ble_eq_true rfl, Nat.le_of_ble_eq_true rfl⟩) (fun r12 hr12 => ?_)
            obtain rfl : r12 = sStk S (nI (cs_st S)) := hr12
            refine iz_eq (tgt := 71) hx hb dX2_closeNextContactor_60 (by decide) (fun h_13 => ?_) (fun h_13 => ?_)
            · refine lv_aload_n hx hb dX2_closeNextContactor_71 rfl (lv_at hl 0 rfl) ?_
              refine lv_dup hx hb dX2_closeNextContactor_72 rfl ?_
              refine va_get (D := D) (ci := 3) (v := .int (nI (cs_st S))) (C := RX2) (T := TX2) (N := 8) hx hb hts iX2_closeNextContactor_X2 hown hK hP 0 rfl rfl 5 (by decide) (hts (.fieldLink RX2 110 "CellRows2" "stage" "I") (by decide +kernel)) (fun _ h9 => h9) rfl dX2_closeNextContactor_73 ?_
              refine lv_iconst (v := 1) hx hb dX2_closeNextContactor_76 (by decide) ?_
              refine lv_iadd hx hb dX2_closeNextContactor_77 ?_
              refine W.eqi (nI_1 (cs_st S)) ?_
              refine va_put (D := D) (ci := 3) (v := .int (nI ((cs_st S) + 1))) (ty := .int) (C := RX2) (T := TX2) (N := 8) hx hb hts iX2_closeNextContactor_X2 tyX2 tyX2_ok nmX2 hown hK hP hD hS 0 rfl rfl 5 (by decide) (hts (.fieldLink RX2 110 "CellRows2" "stage" "I") (by decide +kernel)) (fun _ h9 => h9) rfl (by decide +kernel) rfl rfl (Nat.le_of_ble_eq_true rfl) dX2_closeNextContactor_78 (fun H14 locs14 hP hD hS => ?_)
              have hP : va_P D vwCl (wX cy a n (cs_set_st S ((cs_st S) + 1))) H14 := hP
              have hD : va_D A (wX cy a n (cs_set_st S ((cs_st S) + 1))) := hD
              refine lv_aload_n hx hb dX2_closeNextContactor_81 rfl (lv_at hl 0 rfl) ?_
              refine lv_iconst (v := 0) hx hb dX2_closeNextContactor_82 (by decide) ?_
              refine va_put (D := D) (ci := 3) (v := .int 0) (ty := .int) (C := RX2) (T := TX2) (N := 8) hx hb hts iX2_closeNextContactor_X2 tyX2 tyX2_ok nmX2 hown hK hP hD hS 0 rfl rfl 6 (by decide) (hts (.fieldLink RX2 78 "CellRows2" "stepsOfPreCharge" "I") (by decide +kernel)) (fun _ h9 => h9) rfl (by decide +kernel) rfl rfl (Nat.le_of_ble_eq_true rfl) dX2_closeNextContactor_83 (fun H15 locs15 hP hD hS => ?_)
              have hP : va_P D vwCl (wX cy a n (cs_set_pre (cs_set_st S ((cs_st S) + 1)) 0)) H15 := hP
              have hD : va_D A (wX cy a n (cs_set_pre (cs_set_st S ((cs_st S) + 1)) 0)) := hD
              refine lv_aload_n hx hb dX2_closeNextContactor_86 rfl (lv_at hl 0 rfl) ?_
              refine va_get (D := D) (ci := 3) (v := .int (nI ((cs_st S) + 1))) (C := RX2) (T := TX2) (N := 8) hx hb hts iX2_closeNextContactor_X2 hown hK hP 0 rfl rfl 5 (by decide) (hts (.fieldLink RX2 110 "CellRows2" "stage" "I") (by decide +kernel)) (fun _ h9 => h9) rfl dX2_closeNextContactor_87 ?_
              exact W.iret (v := nI ((cs_st S) + 1)) hx hb hr (fun t ht hW => ⟨⟨nI ((cs_st S) + 1), (cs_set_pre (cs_set_st S ((cs_st S) + 1)) 0), rfl, ⟨(by simp only [rClo, gClo, rClo2, gClo2, if_neg h_1, if_pos h_2, if_neg h_9, if_pos h_10, if_pos h_11, if_pos h_13]), (by simp only [rClo, gClo, rClo2, gClo2, if_neg h_1, if_pos h_2, if_neg h_9, if_pos h_10, if_pos h_11, if_pos h_13])⟩, by rw [ht]; exact hP, va_K.moved hW.alike hK, hD⟩, hS.F ht⟩) hS.2.2 dX2_closeNextContactor_90
            · refine lv_aload_n hx hb dX2_closeNextContactor_63 rfl (lv_at hl 0 rfl) ?_
              refine lv_iconst (v := 4) hx hb dX2_closeNextContactor_64 (by decide) ?_
              have hSo := hS
              refine va_callv (va_runV (As := [.int 4]) (rest := []) ⟨hx, hb, hml, hown, hts⟩ (kX2_noteFault l D cy a n S s.heap.size 4 (by first | assumption | omega | (show cs_fc _ + 1 < 1024; omega))) (cwV 1 hts gX2_closeNextContactor_X2_noteFault rfl rfl rfl (by decide +kernel) ⟨Nat.le_of_ble_eq_true rfl, Nat.le_of_ble_eq_true rfl⟩) ⟨pX_blind, va_recv hK hP (ci := 3) (q0 := 0) rfl rfl, fun U hU hW => ⟨rfl, pX_mk hP hK hD hN hU hW⟩⟩ rfl rfl hl.1 rfl (lv_room (Nat.le_of_ble_eq_true rfl)) dX2_closeNextContactor_65 ⟨Nat.le_of_ble_eq_true rfl, Nat.le_of_ble_eq_true rfl⟩) hS (fun q _ h => freeAll hD hS hA q h) (freeAll hD hS hA) (fun u16 t16 H16 locs16 ht hvm hw hB hz1 hk1 hS => ?_)
              obtain ⟨hP1, hK1, hD1⟩ := hB
              rw [ht] at hP1
              have hK := va_K.moved hvm.symm hK1
              obtain rfl : u16 = sNote S 4 := hw
              have hD := hD1.weaken (fun _ q _ h => freeAll hD hSo hA q.1 h)
              have hP := hP1
              refine lv_goto (tgt := 86) hx hb dX2_closeNextContactor_68 (by decide) ?_
              refine lv_aload_n hx hb dX2_closeNextContactor_86 rfl (lv_at hl 0 rfl) ?_
              refine va_get (D := D) (ci := 3) (v := .int (nI (cs_st (sNote S 4)))) (C := RX2) (T := TX2) (N := 8) hx hb hts iX2_closeNextContactor_X2 hown hK hP 0 rfl rfl 5 (by decide) (hts (.fieldLink RX2 110 "CellRows2" "stage" "I") (by decide +kernel)) (fun _ h9 => h9) rfl dX2_closeNextContactor_87 ?_
              exact W.iret (v := nI (cs_st (sNote S 4))) hx hb hr (fun t ht hW => ⟨⟨nI (cs_st (sNote S 4)), sNote S 4, rfl, ⟨(by simp only [rClo, gClo, rClo2, gClo2, if_neg h_1, if_pos h_2, if_neg h_9, if_pos h_10, if_pos h_11, if_neg h_13]), (by simp only [rClo, gClo, rClo2, gClo2, if_neg h_1, if_pos h_2, if_neg h_9, if_pos h_10, if_pos h_11, if_neg h_13])⟩, by rw [ht]; exact hP, va_K.moved hW.alike hK, hD⟩, hS.F ht⟩) hS.2.2 dX2_closeNextContactor_90
          · refine lv_aload_n hx hb dX2_closeNextContactor_44 rfl (lv_at hl 0 rfl) ?_
            refine lv_iconst (v := 3) hx hb dX2_closeNextContactor_45 (by decide) ?_
            have hSo := hS
            refine va_callv (va_runV (As := [.int 3]) (rest := []) ⟨hx, hb, hml, hown, hts⟩ (kX2_noteFault l D cy a n S s.heap.size 3 (by first | assumption | omega | (show cs_fc _ + 1 < 1024; omega))) (cwV 1 hts gX2_closeNextContactor_X2_noteFault rfl rfl rfl (by decide +kernel) ⟨Nat.le_of_ble_eq_true rfl, Nat.le_of_ble_eq_true rfl⟩) ⟨pX_blind, va_recv hK hP (ci := 3) (q0 := 0) rfl rfl, fun U hU hW => ⟨rfl, pX_mk hP hK hD hN hU hW⟩⟩ rfl rfl hl.1 rfl (lv_room (Nat.le_of_ble_eq_true rfl)) dX2_closeNextContactor_46 ⟨Nat.le_of_ble_eq_true rfl, Nat.le_of_ble_eq_true rfl⟩) hS (fun q _ h => freeAll hD hS hA q h) (freeAll hD hS hA) (fun u17 t17 H17 locs17 ht hvm hw hB hz1 hk1 hS => ?_)
            obtain ⟨hP1, hK1, hD1⟩ := hB
            rw [ht] at hP1
            have hK := va_K.moved hvm.symm hK1
            obtain rfl : u17 = sNote S 3 := hw
            have hD := hD1.weaken (fun _ q _ h => freeAll hD hSo hA q.1 h)
            have hP := hP1
            refine lv_goto (tgt := 86) hx hb dX2_closeNextContactor_49 (by decide) ?_
            refine lv_aload_n hx hb dX2_closeNextContactor_86 rfl (lv_at hl 0 rfl) ?_
            refine va_get (D := D) (ci := 3) (v := .int (nI (cs_st (sNote S 3)))) (C := RX2) (T := TX2) (N := 8) hx hb hts iX2_closeNextContactor_X2 hown hK hP 0 rfl rfl 5 (by decide) (hts (.fieldLink RX2 110 "CellRows2" "stage" "I") (by decide +kernel)) (fun _ h9 => h9) rfl dX2_closeNextContactor_87 ?_
            exact W.iret (v := nI (cs_st (sNote S 3))) hx hb hr (fun t ht hW => ⟨⟨nI (cs_st (sNote S 3)), sNote S 3, rfl, ⟨(by simp only [rClo, gClo, rClo2, gClo2, if_neg h_1, if_pos h_2, if_neg h_9, if_pos h_10, if_neg h_11]), (by simp only [rClo, gClo, rClo2, gClo2, if_neg h_1, if_pos h_2, if_neg h_9, if_pos h_10, if_neg h_11])⟩, by rw [ht]; exact hP, va_K.moved hW.alike hK, hD⟩, hS.F ht⟩) hS.2.2 dX2_closeNextContactor_90
      · refine lv_bipush (v := (-3)) hx hb dX2_closeNextContactor_24 (by decide) ?_
        exact W.iret (v := (-3)) hx hb hr (fun t ht hW => ⟨⟨(-3), S, rfl, ⟨(by simp only [rClo, gClo, rClo2, gClo2, if_neg h_1, if_pos h_2, if_pos h_9]), (by simp only [rClo, gClo, rClo2, gClo2, if_neg h_1, if_pos h_2, if_pos h_9])⟩, by rw [ht]; exact hP, va_K.moved hW.alike hK, hD⟩, hS.F ht⟩) hS.2.2 dX2_closeNextContactor_26
set_option maxRecDepth 20000 in
theorem iX2_contactor_X2 : ∀ w ∈ wsX20, w ∈ wsX2_contactor := by decide +kernel
set_option maxHeartbeats 4000000 in
set_option maxRecDepth 100000 in
theorem kX2_contactor (l : Launch) (D : va_G) (cy : Nat → ClassId) (a : Nat → Nat) (n : Nat) (S : CS) (sz : Nat) (p0 : Int32) (hf : cs_fc S < 1024) : Met l yX2_contactor wsX2_contactor ({ frames := 2, cells := 0, slots := 0, locals := 41 }) (va_Pc [.ref (a 0), .int p0] (pX D cy a n S sz)) (va_Qi (fun r (u : CS) => r = rCon S p0 ∧ u = gCon S p0) (eX D cy a n (va_A (wX cy a n S) sz)) (va_A (wX cy a n S) sz)) 0 0 (va_A (wX cy a n S) sz) := by
  refine Met.ofW (cc := cX2_contactor) (maxL := 2) (ret := (some .int)) (by decide) rfl ?_
  intro p e s m args below meth c s₁ B hml hv
  obtain ⟨rfl, hsz, hP, hK, hD0, hN⟩ := hv
  have hx := B.exec
  have hb := B.bytes
  have hr := B.returns
  have hts := atoms_spec (ws := wsX2_contactor) B.pre
  have hown : s.vm.findClass RX2 = some m.cls := findClass_of_methodNamed B.named
  have hlocks := B.notSynchronized
  subst hsz
  have hD := hD0.self (sz := s.heap.size)
  generalize hAe : va_A (wX cy a n S) s.heap.size = A at hD ⊢
  have hA : ∀ q : Nat, s.heap.size ≤ q → A q := fun q h => by rw [← hAe]; exact Or.inr h
  have hS : va_S A s.heap s.heap [] := va_S.rf
  have hl := lv_entry ([.ref (a 0), .int p0]) (n := 2) (Nat.le_of_ble_eq_true rfl)
  rw [lg_entry_eq]
  generalize (lg_sl ([.ref (a 0), .int p0]) ++ List.replicate (2 - (lg_sl ([.ref (a 0), .int p0])).length) Slot.unset).toArray = ls at hl ⊢
  have hl : lv_has ls 2 [(0, .ref (a 0)), (1, .int p0)] := hl
  refine lv_iload_n hx hb dX2_contactor_0 rfl (lv_at hl 1 rfl) ?_
  refine iz_ne (tgt := 14) hx hb dX2_contactor_1 (by decide) (fun h_1 => ?_) (fun h_1 => ?_)
  · refine lv_aload_n hx hb dX2_contactor_14 rfl (lv_at hl 0 rfl) ?_
    have hSo := hS
    refine va_calli (va_runV (As := []) (rest := []) ⟨hx, hb, hml, hown, hts⟩ (kX2_closeNextContactor l D cy a n S s.heap.size (by omega)) (cwV 0 hts gX2_contactor_X2_closeNextContactor rfl rfl rfl (by decide +kernel) ⟨Nat.le_of_ble_eq_true rfl, Nat.le_of_ble_eq_true rfl⟩) ⟨pX_blind, va_recv hK hP (ci := 3) (q0 := 0) rfl rfl, fun U hU hW => ⟨rfl, pX_mk hP hK hD hN hU hW⟩⟩ rfl rfl hl.1 rfl (lv_room (Nat.le_of_ble_eq_true rfl)) dX2_contactor_15 ⟨Nat.le_of_ble_eq_true rfl, Nat.le_of_ble_eq_true rfl⟩) hS (fun q _ h => freeAll hD hS hA q h) (freeAll hD hS hA) (fun r2 u2 t2 H2 locs2 ht hvm hw hB hz1 hk1 hS => ?_)
    obtain ⟨hP1, hK1, hD1⟩ := hB
    rw [ht] at hP1
    have hK := va_K.moved hvm.symm hK1
    obtain ⟨hw1, hw2⟩ := hw
    obtain rfl : r2 = rClo S := hw1
    obtain rfl : u2 = gClo S := hw2
    have hD := hD1.weaken (fun _ q _ h => freeAll hD hSo hA q.1 h)
    have hP := hP1
    exact W.iret (v := rClo S) hx hb hr (fun t ht hW => ⟨⟨rClo S, gClo S, rfl, ⟨(by simp only [rCon, gCon, if_neg h_1]), (by simp only [rCon, gCon, if_neg h_1])⟩, by rw [ht]; exact hP, va_K.moved hW.alike hK, hD⟩, hS.F ht⟩) hS.2.2 dX2_contactor_18
  · refine lv_aload_n hx hb dX2_contactor_4 rfl (lv_at hl 0 rfl) ?_
    refine lv_iconst (v := 0) hx hb dX2_contactor_5 (by decide) ?_
    refine va_put (D := D) (ci := 3) (v := .int 0) (ty := .int) (C := RX2) (T := TX2) (N := 8) hx hb hts iX2_contactor_X2 tyX2 tyX2_ok nmX2 hown hK hP hD hS 0 rfl rfl 5 (by decide) (hts (.fieldLink RX2 110 "CellRows2" "stage" "I") (by decide +kernel)) (fun _ h9 => h9) rfl (by decide +kernel) rfl rfl (Nat.le_of_ble_eq_true rfl) dX2_contactor_6 (fun H3 locs3 hP hD hS => ?_)
    have hP : va_P D vwCl (wX cy a n (cs_set_st S 0)) H3 := hP
    have hD : va_D A (wX cy a n (cs_set_st S 0)) := hD
    refine lv_aload_n hx hb dX2_contactor_9 rfl (lv_at hl 0 rfl) ?_
    refine va_get (D := D) (ci := 3) (v := .int (nI 0)) (C := RX2) (T := TX2) (N := 8) hx hb hts iX2_contactor_X2 hown hK hP 0 rfl rfl 5 (by decide) (hts (.fieldLink RX2 110 "CellRows2" "stage" "I") (by decide +kernel)) (fun _ h9 => h9) rfl dX2_contactor_10 ?_
    exact W.iret (v := nI 0) hx hb hr (fun t ht hW => ⟨⟨nI 0, (cs_set_st S 0), rfl, ⟨(by simp only [rCon, gCon, if_pos h_1]), (by simp only [rCon, gCon, if_pos h_1])⟩, by rw [ht]; exact hP, va_K.moved hW.alike hK, hD⟩, hS.F ht⟩) hS.2.2 dX2_contactor_13
set_option maxRecDepth 20000 in
theorem iX2_noteFaultsOfStep_X0 : ∀ w ∈ wsX00, w ∈ wsX2_noteFaultsOfStep := by decide +kernel
set_option maxRecDepth 20000 in
theorem iX2_noteFaultsOfStep_X2 : ∀ w ∈ wsX20, w ∈ wsX2_noteFaultsOfStep := by decide +kernel
set_option maxHeartbeats 4000000 in
set_option maxRecDepth 100000 in
theorem kX2_noteFaultsOfStep (l : Launch) (D : va_G) (cy : Nat → ClassId) (a : Nat → Nat) (n : Nat) (S : CS) (sz : Nat) (j : Nat) (hj : j < n) (hf : cs_fc S + 1 < 1024) : Met l yX2_noteFaultsOfStep wsX2_noteFaultsOfStep ({ frames := 1, cells := 0, slots := 0, locals := 25 }) (va_Pc [.ref (a 0), .ref (a (9 + j))] (pX D cy a n S sz)) (va_Qi (fun r (u : CS) => r = rNfs S j ∧ u = gNfs S j) (eX D cy a n (va_A (wX cy a n S) sz)) (va_A (wX cy a n S) sz)) 0 0 (va_A (wX cy a n S) sz) := by
  refine Met.ofW (cc := cX2_noteFaultsOfStep) (maxL := 4) (ret := (some .boolean)) (by decide) rfl ?_
  intro p e s m args below meth c s₁ B hml hv
  obtain ⟨rfl, hsz, hP, hK, hD0, hN⟩ := hv
  have hx := B.exec
  have hb := B.bytes
  have hr := B.returns
  have hts := atoms_spec (ws := wsX2_noteFaultsOfStep) B.pre
  have hown : s.vm.findClass RX2 = some m.cls := findClass_of_methodNamed B.named
  have hlocks := B.notSynchronized
  subst hsz
  have hD := hD0.self (sz := s.heap.size)
  generalize hAe : va_A (wX cy a n S) s.heap.size = A at hD ⊢
  have hA : ∀ q : Nat, s.heap.size ≤ q → A q := fun q h => by rw [← hAe]; exact Or.inr h
  have hS : va_S A s.heap s.heap [] := va_S.rf
  have hl := lv_entry ([.ref (a 0), .ref (a (9 + j))]) (n := 4) (Nat.le_of_ble_eq_true rfl)
  rw [lg_entry_eq]
  generalize (lg_sl ([.ref (a 0), .ref (a (9 + j))]) ++ List.replicate (4 - (lg_sl ([.ref (a 0), .ref (a (9 + j))])).length) Slot.unset).toArray = ls at hl ⊢
  have hl : lv_has ls 4 [(0, .ref (a 0)), (1, .ref (a (9 + j)))] := hl
  refine lv_aload_n hx hb dX2_noteFaultsOfStep_0 rfl (lv_at hl 1 rfl) ?_
  refine va_getN (D := D) (ci := 1) (v := .int ((cs_be S) j)) (C := RX0) (T := TX0) (N := 6) hx hb hts iX2_noteFaultsOfStep_X0 hown hK hP (9 + j) (wX_c hj) rfl 4 (by decide) (va_Nw.use rfl (hN _ (List.mem_of_getElem? (i := 7) rfl))) (fun _ h9 => h9) rfl dX2_noteFaultsOfStep_1 ?_
  refine W.join (P := fun v9 : Int32 => v9 = sTw S j) (g := fun v9 => F0 m 21 ls [.int v9]) (fun v1 hv1 => ?_) (fun J1 => ?_)
  · subst hv1
    refine lv_istore_n (lv' := [(2, .int (sTw S j)), (0, .ref (a 0)), (1, .ref (a (9 + j)))]) hx hb dX2_noteFaultsOfStep_21 rfl hl (by decide) rfl (fun ls hl => ?_)
    refine lv_aload_n hx hb dX2_noteFaultsOfStep_22 rfl (lv_at hl 2 rfl) ?_
    refine va_getN (D := D) (ci := 1) (v := .long ((cs_ch S) j)) (C := RX0) (T := TX0) (N := 6) hx hb hts iX2_noteFaultsOfStep_X0 hown hK hP (9 + j) (wX_c hj) rfl 0 (by decide) (va_Nw.use rfl (hN _ (List.mem_of_getElem? (i := 6) rfl))) (fun _ h9 => h9) rfl dX2_noteFaultsOfStep_23 ?_
    refine lv_lconst (v := 0) hx hb dX2_noteFaultsOfStep_26 (by decide) ?_
    refine lv_aload_n hx hb dX2_noteFaultsOfStep_27 rfl (lv_at hl 1 rfl) ?_
    refine va_get (D := D) (ci := 3) (v := .ref (a 2)) (C := RX2) (T := TX2) (N := 8) hx hb hts iX2_noteFaultsOfStep_X2 hown hK hP 0 rfl rfl 1 (by decide) (hts (.fieldLink RX2 25 "CellRows2" "limits" "[J") (by decide +kernel)) (fun _ h9 => h9) rfl dX2_noteFaultsOfStep_28 ?_
    refine lv_iconst (v := 5) hx hb dX2_noteFaultsOfStep_31 (by decide) ?_
    refine ra_l (f := (cs_lim S)) hx hb hK hP 2 1 rfl rfl 5 rfl (Nat.le_of_ble_eq_true rfl) (Nat.le_of_ble_eq_true rfl) dX2_noteFaultsOfStep_32 ?_
    refine vp_callSi (W.runS (As := [.long ((cs_ch S) j), .long 0, .long ((cs_lim S) 5)]) (rest := []) ⟨hx, hb, hml, hown, hts⟩ (kX2_isOutside l ((cs_ch S) j) 0 ((cs_lim S) 5)) (va_cwS 3 hts gX2_noteFaultsOfStep_X2_isOutside rfl rfl rfl (by decide +kernel) ⟨Nat.le_of_ble_eq_true rfl, Nat.le_of_ble_eq_true rfl⟩) ⟨fun _ _ _ _ q => q, fun U hU hW => ⟨rfl, trivial⟩⟩ rfl rfl hl.1 rfl (lv_room (Nat.le_of_ble_eq_true rfl)) dX2_noteFaultsOfStep_33 ⟨Nat.le_of_ble_eq_true rfl, Nat.le_of_ble_eq_true rfl⟩) (fun r4 hr4 => ?_)
    obtain rfl : r4 = sWr S j := hr4
    refine lv_istore_n (lv' := [(3, .int (sWr S j)), (2, .int (sTw S j)), (0, .ref (a 0)), (1, .ref (a (9 + j)))]) hx hb dX2_noteFaultsOfStep_36 rfl hl (by decide) rfl (fun ls hl => ?_)
    refine lv_iload_n hx hb dX2_noteFaultsOfStep_37 rfl (lv_at hl 1 rfl) ?_
    refine iz_eq (tgt := 46) hx hb dX2_noteFaultsOfStep_38 (by decide) (fun h_5 => ?_) (fun h_5 => ?_)
    · refine lv_iload_n hx hb dX2_noteFaultsOfStep_46 rfl (lv_at hl 0 rfl) ?_
      refine iz_eq (tgt := 55) hx hb dX2_noteFaultsOfStep_47 (by decide) (fun h_6 => ?_) (fun h_6 => ?_)
      · refine lv_iload_n hx hb dX2_noteFaultsOfStep_55 rfl (lv_at hl 1 rfl) ?_
        refine iz_ne (tgt := 63) hx hb dX2_noteFaultsOfStep_56 (by decide) (fun h_7 => ?_) (fun h_7 => ?_)
        · exact absurd h_5 h_7
        · refine lv_iload_n hx hb dX2_noteFaultsOfStep_59 rfl (lv_at hl 0 rfl) ?_
          refine iz_eq (tgt := 67) hx hb dX2_noteFaultsOfStep_60 (by decide) (fun h_8 => ?_) (fun h_8 => ?_)
          · refine lv_iconst (v := 0) hx hb dX2_noteFaultsOfStep_67 (by decide) ?_
            exact W.zret (v := 0) hx hb hr rfl (fun t ht hW => ⟨⟨0, S, rfl, ⟨(by simp only [rNfs, gNfs, if_pos h_5, if_pos h_6, if_pos h_7, if_pos h_8]), (by simp only [rNfs, gNfs, if_pos h_5, if_pos h_6, if_pos h_7, if_pos h_8])⟩, by rw [ht]; exact hP, va_K.moved hW.alike hK, hD⟩, hS.F ht⟩) hS.2.2 dX2_noteFaultsOfStep_68
          · exact absurd h_6 h_8
      · refine lv_aload_n hx hb dX2_noteFaultsOfStep_50 rfl (lv_at hl 2 rfl) ?_
        refine lv_iconst (v := 2) hx hb dX2_noteFaultsOfStep_51 (by decide) ?_
        have hSo := hS
        refine va_callv (va_runV (As := [.int 2]) (rest := []) ⟨hx, hb, hml, hown, hts⟩ (kX2_noteFault l D cy a n S s.heap.size 2 (by first | assumption | omega | (show cs_fc _ + 1 < 1024; omega))) (cwV 1 hts gX2_noteFaultsOfStep_X2_noteFault rfl rfl rfl (by decide +kernel) ⟨Nat.le_of_ble_eq_true rfl, Nat.le_of_ble_eq_true rfl⟩) ⟨pX_blind, va_recv hK hP (ci := 3) (q0 := 0) rfl rfl, fun U hU hW => ⟨rfl, pX_mk hP hK hD hN hU hW⟩⟩ rfl rfl hl.1 rfl (lv_room (Nat.le_of_ble_eq_true rfl)) dX2_noteFaultsOfStep_52 ⟨Nat.le_of_ble_eq_true rfl, Nat.le_of_ble_eq_true rfl⟩) hS (fun q _ h => freeAll hD hS hA q h) (freeAll hD hS hA) (fun u9 t9 H9 locs9 ht hvm hw hB hz1 hk1 hS => ?_)
        obtain ⟨hP1, hK1, hD1⟩ := hB
        rw [ht] at hP1
        have hK := va_K.moved hvm.symm hK1
        obtain rfl : u9 = sNote S 2 := hw
        have hD := hD1.weaken (fun _ q _ h => freeAll hD hSo hA q.1 h)
        have hP := hP1
        refine lv_iload_n hx hb dX2_noteFaultsOfStep_55 rfl (lv_at hl 1 rfl) ?_
        refine iz_ne (tgt := 63) hx hb dX2_noteFaultsOfStep_56 (by decide) (fun h_10 => ?_) (fun h_10 => ?_)
        · exact absurd h_5 h_10
        · refine lv_iload_n hx hb dX2_noteFaultsOfStep_59 rfl (lv_at hl 0 rfl) ?_
          refine iz_eq (tgt := 67) hx hb dX2_noteFaultsOfStep_60 (by decide) (fun h_11 => ?_) (fun h_11 => ?_)
          · exact absurd h_11 h_6
          · refine lv_iconst (v := 1) hx hb dX2_noteFaultsOfStep_63 (by decide) ?_
            refine lv_goto (tgt := 68) hx hb dX2_noteFaultsOfStep_64 (by decide) ?_
            exact W.zret (v := 1) hx hb hr rfl (fun t ht hW => ⟨⟨1, sNote S 2, rfl, ⟨(by simp only [rNfs, gNfs, if_pos h_5, if_neg h_6, if_pos h_10, if_neg h_11]), (by simp only [rNfs, gNfs, if_pos h_5, if_neg h_6, if_pos h_10, if_neg h_11])⟩, by rw [ht]; exact hP, va_K.moved hW.alike hK, hD⟩, hS.F ht⟩) hS.2.2 dX2_noteFaultsOfStep_68
    · refine lv_aload_n hx hb dX2_noteFaultsOfStep_41 rfl (lv_at hl 2 rfl) ?_
      refine lv_iconst (v := 1) hx hb dX2_noteFaultsOfStep_42 (by decide) ?_
      have hSo := hS
      refine va_callv (va_runV (As := [.int 1]) (rest := []) ⟨hx, hb, hml, hown, hts⟩ (kX2_noteFault l D cy a n S s.heap.size 1 (by first | assumption | omega | (show cs_fc _ + 1 < 1024; omega))) (cwV 1 hts gX2_noteFaultsOfStep_X2_noteFault rfl rfl rfl (by decide +kernel) ⟨Nat.le_of_ble_eq_true rfl, Nat.le_of_ble_eq_true rfl⟩) ⟨pX_blind, va_recv hK hP (ci := 3) (q0 := 0) rfl rfl, fun U hU hW => ⟨rfl, pX_mk hP hK hD hN hU hW⟩⟩ rfl rfl hl.1 rfl (lv_room (Nat.le_of_ble_eq_true rfl)) dX2_noteFaultsOfStep_43 ⟨Nat.le_of_ble_eq_true rfl, Nat.le_of_ble_eq_true rfl⟩) hS (fun q _ h => freeAll hD hS hA q h) (freeAll hD hS hA) (fun u12 t12 H12 locs12 ht hvm hw hB hz1 hk1 hS => ?_)
      obtain ⟨hP1, hK1, hD1⟩ := hB
      rw [ht] at hP1
      have hK := va_K.moved hvm.symm hK1
      obtain rfl : u12 = sNote S 1 := hw
      have hD := hD1.weaken (fun _ q _ h => freeAll hD hSo hA q.1 h)
      have hP := hP1
      refine lv_iload_n hx hb dX2_noteFaultsOfStep_46 rfl (lv_at hl 0 rfl) ?_
      refine iz_eq (tgt := 55) hx hb dX2_noteFaultsOfStep_47 (by decide) (fun h_13 => ?_) (fun h_13 => ?_)
      · refine lv_iload_n hx hb dX2_noteFaultsOfStep_55 rfl (lv_at hl 1 rfl) ?_
        refine iz_ne (tgt := 63) hx hb dX2_noteFaultsOfStep_56 (by decide) (fun h_14 => ?_) (fun h_14 => ?_)
        · refine lv_iconst (v := 1) hx hb dX2_noteFaultsOfStep_63 (by decide) ?_
          refine lv_goto (tgt := 68) hx hb dX2_noteFaultsOfStep_64 (by decide) ?_
          exact W.zret (v := 1) hx hb hr rfl (fun t ht hW => ⟨⟨1, sNote S 1, rfl, ⟨(by simp only [rNfs, gNfs, if_neg h_5, if_pos h_13, if_neg h_14]), (by simp only [rNfs, gNfs, if_neg h_5, if_pos h_13, if_neg h_14])⟩, by rw [ht]; exact hP, va_K.moved hW.alike hK, hD⟩, hS.F ht⟩) hS.2.2 dX2_noteFaultsOfStep_68
        · exact absurd h_14 h_5
      · refine lv_aload_n hx hb dX2_noteFaultsOfStep_50 rfl (lv_at hl 2 rfl) ?_
        refine lv_iconst (v := 2) hx hb dX2_noteFaultsOfStep_51 (by decide) ?_
        have hSo := hS
        refine va_callv (va_runV (As := [.int 2]) (rest := []) ⟨hx, hb, hml, hown, hts⟩ (kX2_noteFault l D cy a n (sNote S 1) H12.size 2 (by first | assumption | omega | (show cs_fc _ + 1 < 1024; omega))) (cwV 1 hts gX2_noteFaultsOfStep_X2_noteFault rfl rfl rfl (by decide +kernel) ⟨Nat.le_of_ble_eq_true rfl, Nat.le_of_ble_eq_true rfl⟩) ⟨pX_blind, va_recv hK hP (ci := 3) (q0 := 0) rfl rfl, fun U hU hW => ⟨rfl, pX_mk hP hK hD hN hU hW⟩⟩ rfl rfl hl.1 rfl (lv_room (Nat.le_of_ble_eq_true rfl)) dX2_noteFaultsOfStep_52 ⟨Nat.le_of_ble_eq_true rfl, Nat.le_of_ble_eq_true rfl⟩) hS (fun q _ h => freeAll hD hS hA q h) (freeAll hD hS hA) (fun u15 t15 H15 locs15 ht hvm hw hB hz1 hk1 hS => ?_)
        obtain ⟨hP1, hK1, hD1⟩ := hB
        rw [ht] at hP1
        have hK := va_K.moved hvm.symm hK1
        obtain rfl : u15 = sNote (sNote S 1) 2 := hw
        have hD := hD1.weaken (fun _ q _ h => freeAll hD hSo hA q.1 h)
        have hP := hP1
        refine lv_iload_n hx hb dX2_noteFaultsOfStep_55 rfl (lv_at hl 1 rfl) ?_
        refine iz_ne (tgt := 63) hx hb dX2_noteFaultsOfStep_56 (by decide) (fun h_16 => ?_) (fun h_16 => ?_)
        · refine lv_iconst (v := 1) hx hb dX2_noteFaultsOfStep_63 (by decide) ?_
          refine lv_goto (tgt := 68) hx hb dX2_noteFaultsOfStep_64 (by decide) ?_
          exact W.zret (v := 1) hx hb hr rfl (fun t ht hW => ⟨⟨1, sNote (sNote S 1) 2, rfl, ⟨(by simp only [rNfs, gNfs, if_neg h_5, if_neg h_13, if_neg h_16]), (by simp only [rNfs, gNfs, if_neg h_5, if_neg h_13, if_neg h_16])⟩, by rw [ht]; exact hP, va_K.moved hW.alike hK, hD⟩, hS.F ht⟩) hS.2.2 dX2_noteFaultsOfStep_68
        · exact absurd h_16 h_5
  · refine iz_le (tgt := 20) hx hb dX2_noteFaultsOfStep_4 (by decide) (fun h_2 => ?_) (fun h_2 => ?_)
    · refine lv_iconst (v := 0) hx hb dX2_noteFaultsOfStep_20 (by decide) ?_
      exact J1 _ (by simp only [sTw, if_neg h_2])
    · refine lv_aload_n hx hb dX2_noteFaultsOfStep_7 rfl (lv_at hl 1 rfl) ?_
      refine va_getN (D := D) (ci := 1) (v := .int ((cs_be S) j)) (C := RX0) (T := TX0) (N := 6) hx hb hts iX2_noteFaultsOfStep_X0 hown hK hP (9 + j) (wX_c hj) rfl 4 (by decide) (va_Nw.use rfl (hN _ (List.mem_of_getElem? (i := 7) rfl))) (fun _ h9 => h9) rfl dX2_noteFaultsOfStep_8 ?_
      refine lv_iconst (v := 2) hx hb dX2_noteFaultsOfStep_11 (by decide) ?_
      refine lv_irem hx hb dX2_noteFaultsOfStep_12 (by decide) ?_
      refine iz_ne (tgt := 20) hx hb dX2_noteFaultsOfStep_13 (by decide) (fun h_3 => ?_) (fun h_3 => ?_)
      · refine lv_iconst (v := 0) hx hb dX2_noteFaultsOfStep_20 (by decide) ?_
        exact J1 _ (by simp only [sTw, if_pos h_2, if_neg h_3])
      · refine lv_iconst (v := 1) hx hb dX2_noteFaultsOfStep_16 (by decide) ?_
        refine lv_goto (tgt := 21) hx hb dX2_noteFaultsOfStep_17 (by decide) ?_
        exact J1 _ (by simp only [sTw, if_pos h_2, if_pos h_3])
end
section
/-! doubles that are small: none of them is a NaN -/
def okD (K : Nat) (x : UInt64) : Prop := x.toNat % 2 ^ 63 < K * 2 ^ 52
theorem okD_n64 {K : Nat} {x : UInt64} (hK : K ≤ 2047) (h : okD K x) : vf_n64 x := by
  unfold okD at h
  show x &&& 0x7fffffffffffffff ≤ 0x7ff0000000000000
  rw [UInt64.le_iff_toNat_le, UInt64.toNat_and]
  have e : (0x7fffffffffffffff : UInt64).toNat = 2 ^ 63 - 1 := by decide
  have e2 : (0x7ff0000000000000 : UInt64).toNat = 2047 * 2 ^ 52 := by decide
  rw [e, e2, Nat.and_two_pow_sub_one_eq_mod]
  exact Nat.le_of_lt (Nat.lt_of_lt_of_le h (Nat.mul_le_mul_right _ hK))
theorem okD_mono {K L : Nat} {x : UInt64} (h : okD K x) (hKL : K ≤ L) : okD L x := by
  exact Nat.lt_of_lt_of_le h (Nat.mul_le_mul_right _ hKL)
theorem okD_ne {K : Nat} {x : UInt64} (hK : K ≤ 2047) (h : okD K x) : FP.Core.val64 x ≠ .nan := by
  rw [FP.Core.ne_nan]
  unfold okD at h
  omega
theorem okD_l2d (x : Int64) : okD 1088 (FP.l2d x) := FP.Core.l2d_mag x
theorem okD_quo {x y : Int64} (h : y ≠ 0) : okD 1089 (FP.ddiv (FP.l2d x) (FP.l2d y)) := by
  have h1 : y.toInt ≠ 0 := fun q => h (by rw [← Int64.toInt_inj]; exact q)
  have h2 := FP.Core.l2d_big h1
  have h3 := FP.Core.ddiv_mag (a := FP.l2d x) (b := FP.l2d y) (K := 1088) (L := 1023) (FP.Core.l2d_mag x) h2.1 h2.2 (by omega) (by omega)
  unfold okD
  exact Nat.lt_of_lt_of_le h3 (by omega)
theorem okD_quo2 (x : Int64) : okD 1079 (FP.ddiv (FP.l2d x) 4652992471259676672) := by
  have h3 := FP.Core.ddiv_mag (a := FP.l2d x) (b := 4652992471259676672) (K := 1088) (L := 1033) (FP.Core.l2d_mag x) (by decide) (by decide) (by omega) (by omega)
  unfold okD
  exact Nat.lt_of_lt_of_le h3 (by omega)
theorem okD_add {K : Nat} {x y : UInt64} (hK : K ≤ 2047) (hx : okD K x) (hy : okD K y) : okD (K + 2) (FP.dadd x y) := FP.Core.dadd_mag hx hy hK
theorem okD_sub {K : Nat} {x y : UInt64} (hK : K ≤ 2047) (hx : okD K x) (hy : okD K y) : okD (K + 2) (FP.dsub x y) := FP.Core.dsub_mag hx hy hK
theorem okD_mul {x : UInt64} (hx : okD 1026 x) : okD 1024 (FP.dmul 4589168020290535424 x) := by
  have h := FP.Core.dmul_mag (a := 4589168020290535424) (b := x) (Ka := 1020) (Kb := 1026) (by decide) hx (by omega) (by omega)
  unfold okD
  exact Nat.lt_of_lt_of_le h (by omega)
def sWin (x : UInt64) : UInt64 := if Op.cmpValue (FP.dcmp x FP.dconst0) .g < 0 then FP.dconst0 else if 0 < Op.cmpValue (FP.dcmp x FP.dconst1) .l then FP.dconst1 else x
theorem okD_win {x : UInt64} (h : okD 2047 x) : okD 1024 (sWin x) := by
  have hn := okD_ne (Nat.le_refl _) h
  unfold sWin
  by_cases h1 : Op.cmpValue (FP.dcmp x FP.dconst0) .g < 0
  · rw [if_pos h1]; unfold okD; decide
  · rw [if_neg h1]
    by_cases h2 : 0 < Op.cmpValue (FP.dcmp x FP.dconst1) .l
    · rw [if_pos h2]; unfold okD; decide
    · rw [if_neg h2]
      have e0 : FP.Core.val64 FP.dconst0 ≠ .nan := by decide +kernel
      have e1 : FP.Core.val64 FP.dconst1 ≠ .nan := by decide +kernel
      have k0 : ¬ FP.Core.dkey x < FP.Core.dkey FP.dconst0 := fun q => h1 (by
        have := (FP.Core.dcmp_lt_key hn e0).mpr q
        rw [show FP.dcmp x FP.dconst0 = some .lt from this]; decide)
      have k1 : ¬ FP.Core.dkey FP.dconst1 < FP.Core.dkey x := fun q => h2 (by
        have := (FP.Core.dcmp_gt_key hn e1).mpr q
        rw [show FP.dcmp x FP.dconst1 = some .gt from this]; decide)
      have d0 : FP.Core.dkey FP.dconst0 = 0 := by decide +kernel
      have d1 : FP.Core.dkey FP.dconst1 = 1023 * 2 ^ 52 := by decide +kernel
      rw [d0] at k0
      rw [d1] at k1
      have hx := x.toNat_lt
      unfold okD
      unfold FP.Core.dkey at k0 k1
      by_cases hs : 2 ^ 63 ≤ x.toNat
      · rw [if_pos hs] at k0; omega
      · rw [if_neg hs] at k1; omega
section RW3
variable {p : Program} {l : Launch} {e : Env} {R : Room} {s : State} {m : MethodId} {args : Array Value} {below : List Frame} {meth : Method} {c : Code} {H : Heap} {locs : List Loc} {cells slots : Nat} {Q : State → Prop}
theorem W.loop {α : Type} {g : α → JFrame} (P : Nat → α → Prop) (b0 : ∀ v, P 0 v → W p l e R s m args below meth c H locs cells slots Q (g v)) (st : ∀ k, (∀ v, P k v → W p l e R s m args below meth c H locs cells slots Q (g v)) → ∀ v, P (k + 1) v → W p l e R s m args below meth c H locs cells slots Q (g v)) (k : Nat) (v : α) (h : P k v) : W p l e R s m args below meth c H locs cells slots Q (g v) := by
  induction k generalizing v with
  | zero => exact b0 v h
  | succ k ih => exact st k ih v h
theorem W.loopH {α : Type} {g : α → JFrame} (P : Nat → α → Heap → List Loc → Prop) (b0 : ∀ v H' L', P 0 v H' L' → W p l e R s m args below meth c H' L' cells slots Q (g v)) (st : ∀ k, (∀ v H' L', P k v H' L' → W p l e R s m args below meth c H' L' cells slots Q (g v)) → ∀ v H' L', P (k + 1) v H' L' → W p l e R s m args below meth c H' L' cells slots Q (g v)) (k : Nat) (v : α) (h : P k v H locs) : W p l e R s m args below meth c H locs cells slots Q (g v) := by
  induction k generalizing v H locs with
  | zero => exact b0 v H locs h
  | succ k ih => exact st k (fun v H' L' hv => ih v hv) v H locs h
end RW3
end
section
/-! the loops of the class, and what stands on them -/
def sLv (f : Nat → Int64) : Nat → Int64
  | 0 => 9223372036854775807
  | i + 1 => if f i < sLv f i then f i else sLv f i
def sGw (f : Nat → Int64) : Nat → Int64
  | 0 => (-9223372036854775808)
  | i + 1 => if f i < sGw f i then sGw f i else f i
def sBc (f : Nat → Int32) : Nat → Int32
  | 0 => 0
  | i + 1 => if f i = 0 then sBc f i else sBc f i + 1
def sWk (f : Nat → Int64) : Nat → Nat
  | 0 => 0
  | i + 1 => if f i < sLv f i then i else sWk f i
def gcdF : Nat → Int64 → Int64 → Int64
  | 0, d, _ => d
  | k + 1, d, r => if r = 0 then d else gcdF k r (d - d / r * r)
def sMay (S : CS) (n j : Nat) : Int32 := if cs_ch S j < cs_lim S 4 then 0 else if cs_vo S j < sLv (cs_vo S) n + 10 then 0 else 1
def rCool (S : CS) (n : Nat) : Int32 := if 550 < sGw (cs_wa S) n then 3 else if 450 < sGw (cs_wa S) n then 2 else if 350 < sGw (cs_wa S) n then 1 else 0
def sFlip (S : CS) (j : Nat) : CS := cs_set_bl S (va_up (cs_bl S) j (if cs_bl S j = 0 then 1 else 0))
def rBle (S : CS) (n : Nat) (p : Int32) : Int32 := (ix n p).elim (-1) (fun j => if cs_bl S j = 0 then (if sMay S n j = 0 then (-3) else sBc (cs_bl (sFlip S j)) n) else sBc (cs_bl (sFlip S j)) n)
def gBle (S : CS) (n : Nat) (p : Int32) : CS := (ix n p).elim S (fun j => if cs_bl S j = 0 then (if sMay S n j = 0 then S else sFlip S j) else sFlip S j)
def sTco1 (S : CS) : CS := cs_set_pc (cs_set_pts (sKeep S (labs (cs_pts S (cs_pc S - 3) - cs_pts S (cs_pc S - 2))) (if cs_pts S (cs_pc S - 2) < cs_pts S (cs_pc S - 3) then cs_pts S (cs_pc S - 2) else cs_pts S (cs_pc S - 3))) (va_up (cs_pts S) (cs_pc S - 3) (cs_pts S (cs_pc S - 1)))) (cs_pc S - 2)
def sTco : Nat → CS → CS
  | 0, S => S
  | k + 1, S => if nI (cs_pc S) < 4 then S else if labs (cs_pts S (cs_pc S - 4) - cs_pts S (cs_pc S - 3)) < labs (cs_pts S (cs_pc S - 3) - cs_pts S (cs_pc S - 2)) then S else if labs (cs_pts S (cs_pc S - 2) - cs_pts S (cs_pc S - 1)) < labs (cs_pts S (cs_pc S - 3) - cs_pts S (cs_pc S - 2)) then S else sTco k (sTco1 S)
def sFol (S : CS) (v : Int64) : CS := sTco 250 (sPut S v)
theorem sGo_pos {f : Nat → Int64} {n : Nat} {v : Int64} (h : ¬ sGo f n v = 0) : 1 ≤ n := by
  rcases Nat.eq_zero_or_pos n with q | q
  · subst q
    exact absurd (by unfold sGo; rw [if_pos (by decide)]) h
  · exact q
theorem sPut_ok {S : CS} {v : Int64} (hp : cs_pc S ≤ 500) (hc : cs_pc S + 2 * cs_cyc S ≤ 513) : cs_pc (sPut S v) ≤ 500 ∧ cs_pc (sPut S v) + 2 * cs_cyc (sPut S v) ≤ 514 := by
  unfold sPut
  by_cases h : sGo (cs_pts S) (cs_pc S) v = 0
  · rw [if_pos h]
    by_cases h2 : nI (cs_pc S) < nI 500
    · rw [if_pos h2]
      have h3 := nI_islt (by omega) (by omega) h2
      constructor
      · show cs_pc S + 1 ≤ 500; omega
      · show cs_pc S + 1 + 2 * cs_cyc S ≤ 514; omega
    · rw [if_neg h2]; omega
  · rw [if_neg h]
    exact ⟨hp, by show cs_pc S + 2 * cs_cyc S ≤ 514; omega⟩
/-- the estimate of a step -/
def sCnt (e : UInt64) (cur cap : Int64) : UInt64 := if cap = 0 then e else FP.dadd e (FP.ddiv (FP.l2d cur) (FP.l2d cap))
def sTold (vo : Int64) : UInt64 := sWin (FP.ddiv (FP.l2d (vo - 3000)) 4652992471259676672)
def sEst (e : UInt64) (cur vo cap : Int64) : UInt64 := FP.dadd (sWin (sCnt e cur cap)) (FP.dmul 4589168020290535424 (FP.dsub (sTold vo) (sWin (sCnt e cur cap))))
theorem okD_cnt {e : UInt64} (h : okD 1026 e) (cur cap : Int64) : okD 2047 (sCnt e cur cap) := by
  unfold sCnt
  by_cases h0 : cap = 0
  · rw [if_pos h0]; exact okD_mono h (by omega)
  · rw [if_neg h0]; exact okD_mono (okD_add (K := 1089) (by omega) (okD_mono h (by omega)) (okD_quo h0)) (by omega)
theorem okD_told (vo : Int64) : okD 1024 (sTold vo) := okD_win (okD_mono (okD_quo2 _) (by omega))
theorem okD_dif {e : UInt64} (h : okD 1026 e) (cur vo cap : Int64) : okD 1026 (FP.dsub (sTold vo) (sWin (sCnt e cur cap))) := okD_sub (by omega) (okD_told vo) (okD_win (okD_cnt h cur cap))
theorem okD_est {e : UInt64} (h : okD 1026 e) (cur vo cap : Int64) : okD 1026 (sEst e cur vo cap) := okD_add (by omega) (okD_win (okD_cnt h cur cap)) (okD_mul (okD_dif h cur vo cap))
def sTake (S : CS) (j : Nat) (cur vo wa cap : Int64) : CS := cs_set_es (cs_set_ch (cs_set_wa (cs_set_vo S (va_up (cs_vo S) j vo)) (va_up (cs_wa S) j wa)) (va_up (cs_ch S) j (cs_ch S j + (if cs_bl S j = 0 then cur else cur - 5)))) (va_up (cs_es S) j (sEst (cs_es S j) cur vo cap))
end
section
set_option maxHeartbeats 4000000 in
set_option maxRecDepth 100000 in
theorem kX0_withinShare (l : Launch) (x : UInt64) : Met l yX0_withinShare wsX0_withinShare ({ frames := 0, cells := 0, slots := 0, locals := 0 }) (va_Pc [.double x] (fun _ => True)) (vp_Sd (fun r => r = sWin x)) 0 0 (fun _ => False) := by
  refine Met.ofW (cc := cX0_withinShare) (maxL := 2) (ret := (some .double)) (by decide) rfl ?_
  intro p e s m args below meth c s₁ B hml hv
  obtain ⟨rfl, -⟩ := hv
  have hx := B.exec
  have hb := B.bytes
  have hr := B.returns
  have hts := atoms_spec (ws := wsX0_withinShare) B.pre
  have hown : s.vm.findClass RX0 = some m.cls := findClass_of_methodNamed B.named
  have hlocks := B.notSynchronized
  have hl := lv_entry ([.double x]) (n := 2) (Nat.le_of_ble_eq_true rfl)
  rw [lg_entry_eq]
  generalize (lg_sl ([.double x]) ++ List.replicate (2 - (lg_sl ([.double x])).length) Slot.unset).toArray = ls at hl ⊢
  have hl : lv_has ls 2 [(0, .double x)] := hl
  refine lv_dload_n hx hb dX0_withinShare_0 rfl (lv_at hl 0 rfl) ?_
  refine lv_dconst0 hx hb dX0_withinShare_1 ?_
  refine lv_dcmp hx hb dX0_withinShare_2 ?_
  refine iz_ge (tgt := 8) hx hb dX0_withinShare_3 (by decide) (fun h_1 => ?_) (fun h_1 => ?_)
  · refine lv_dload_n hx hb dX0_withinShare_8 rfl (lv_at hl 0 rfl) ?_
    refine lv_dconst1 hx hb dX0_withinShare_9 ?_
    refine lv_dcmp hx hb dX0_withinShare_10 ?_
    refine iz_le (tgt := 18) hx hb dX0_withinShare_11 (by decide) (fun h_2 => ?_) (fun h_2 => ?_)
    · refine lv_dload_n hx hb dX0_withinShare_18 rfl (lv_at hl 0 rfl) ?_
      exact W.dret (v := x) hx hb hr (fun t ht hW => ⟨x, rfl, (by simp only [sWin, if_neg h_1, if_neg h_2]), ht⟩) (fun q hq => absurd hq List.not_mem_nil) dX0_withinShare_19
    · refine lv_dconst1 hx hb dX0_withinShare_14 ?_
      refine lv_goto (tgt := 19) hx hb dX0_withinShare_15 (by decide) ?_
      exact W.dret (v := FP.dconst1) hx hb hr (fun t ht hW => ⟨FP.dconst1, rfl, (by simp only [sWin, if_neg h_1, if_pos h_2]), ht⟩) (fun q hq => absurd hq List.not_mem_nil) dX0_withinShare_19
  · refine lv_dconst0 hx hb dX0_withinShare_6 ?_
    exact W.dret (v := FP.dconst0) hx hb hr (fun t ht hW => ⟨FP.dconst0, rfl, (by simp only [sWin, if_pos h_1]), ht⟩) (fun q hq => absurd hq List.not_mem_nil) dX0_withinShare_7
set_option maxRecDepth 20000 in
theorem iX2_leastVoltage_X0 : ∀ w ∈ wsX00, w ∈ wsX2_leastVoltage := by decide +kernel
set_option maxRecDepth 20000 in
theorem iX2_leastVoltage_X2 : ∀ w ∈ wsX20, w ∈ wsX2_leastVoltage := by decide +kernel
set_option maxHeartbeats 4000000 in
set_option maxRecDepth 100000 in
theorem kX2_leastVoltage (l : Launch) (D : va_G) (cy : Nat → ClassId) (a : Nat → Nat) (n : Nat) (S : CS) (sz : Nat) (hn : n ≤ 24) : Met l yX2_leastVoltage wsX2_leastVoltage ({ frames := 1, cells := 0, slots := 0, locals := 24 }) (va_Pc [.ref (a 0)] (pX D cy a n S sz)) (vp_Sl (fun r => r = sLv (cs_vo S) n)) 0 0 (fun _ => False) := by
  refine Met.ofW (cc := cX2_leastVoltage) (maxL := 7) (ret := (some .long)) (by decide) rfl ?_
  intro p e s m args below meth c s₁ B hml hv
  obtain ⟨rfl, hsz, hP, hK, hD0, hN⟩ := hv
  have hx := B.exec
  have hb := B.bytes
  have hr := B.returns
  have hts := atoms_spec (ws := wsX2_leastVoltage) B.pre
  have hown : s.vm.findClass RX2 = some m.cls := findClass_of_methodNamed B.named
  have hlocks := B.notSynchronized
  have hD := hD0
  have hl := lv_entry ([.ref (a 0)]) (n := 7) (Nat.le_of_ble_eq_true rfl)
  rw [lg_entry_eq]
  generalize (lg_sl ([.ref (a 0)]) ++ List.replicate (7 - (lg_sl ([.ref (a 0)])).length) Slot.unset).toArray = ls at hl ⊢
  have hl : lv_has ls 7 [(0, .ref (a 0))] := hl
  refine lv_ldc2 hx hb hown (hts (.constantLong RX2 131 (9223372036854775807)) (by decide +kernel)) dX2_leastVoltage_0 ?_
  refine lv_lstore_n (lv' := [(1, .long 9223372036854775807), (0, .ref (a 0))]) hx hb dX2_leastVoltage_3 rfl hl (by decide) rfl (fun ls hl => ?_)
  refine lv_aload_n hx hb dX2_leastVoltage_4 rfl (lv_at hl 1 rfl) ?_
  refine va_get (D := D) (ci := 3) (v := .ref (a 1)) (C := RX2) (T := TX2) (N := 8) hx hb hts iX2_leastVoltage_X2 hown hK hP 0 rfl rfl 0 (by decide) (hts (.fieldLink RX2 11 "CellRows2" "cells" "[LCellRows2$Cell;") (by decide +kernel)) (fun _ h9 => h9) rfl dX2_leastVoltage_5 ?_
  refine lv_astore_n (lv' := [(3, .ref (a 1)), (1, .long 9223372036854775807), (0, .ref (a 0))]) hx hb dX2_leastVoltage_8 rfl hl (by decide) rfl (fun ls hl => ?_)
  refine lv_aload_n hx hb dX2_leastVoltage_9 rfl (lv_at hl 0 rfl) ?_
  refine va_alen (v := nI n) hx hb hK hP 1 0 rfl rfl rfl dX2_leastVoltage_10 ?_
  refine lv_istore (lv' := [(4, .int (nI n)), (3, .ref (a 1)), (1, .long 9223372036854775807), (0, .ref (a 0))]) hx hb dX2_leastVoltage_11 hl (by decide) rfl (fun ls hl => ?_)
  refine lv_iconst (v := 0) hx hb dX2_leastVoltage_13 (by decide) ?_
  refine lv_istore (lv' := [(5, .int 0), (4, .int (nI n)), (3, .ref (a 1)), (1, .long 9223372036854775807), (0, .ref (a 0))]) hx hb dX2_leastVoltage_14 hl (by decide) rfl (fun ls hl => ?_)
  refine W.loop (α := Nat × Array Slot) (g := fun v9 => F0 m 16 v9.2 []) (fun k9 v9 => v9.1 + k9 = n ∧ lv_has v9.2 7 [(1, .long (sLv (cs_vo S) v9.1)), (3, .ref (a 1)), (4, .int (nI n)), (5, .int (nI v9.1))]) ?_ ?_ n (0, ls) ⟨by omega, lv_sub hl [3, 2, 1, 0] rfl⟩
  · rintro ⟨i, ls⟩ ⟨h9, hl⟩
    have h9 : i + 0 = n := h9
    have e9 : i = n := by omega
    have hl : lv_has ls 7 [(1, .long (sLv (cs_vo S) i)), (3, .ref (a 1)), (4, .int (nI n)), (5, .int (nI i))] := hl
    rw [e9] at hl
    have hl : lv_has ls 7 [(1, .long (sLv (cs_vo S) n)), (3, .ref (a 1)), (4, .int (nI n)), (5, .int (nI n))] := hl
    refine lv_iload hx hb dX2_leastVoltage_16 (lv_at hl 3 rfl) ?_
    refine lv_iload hx hb dX2_leastVoltage_18 (lv_at hl 2 rfl) ?_
    refine ib_ge (tgt := 45) hx hb dX2_leastVoltage_20 (by decide) (fun h_2 => ?_) (fun h_2 => ?_)
    · refine lv_lload_n hx hb dX2_leastVoltage_45 rfl (lv_at hl 0 rfl) ?_
      exact W.lret (v := sLv (cs_vo S) n) hx hb hr (fun t ht hW => ⟨sLv (cs_vo S) n, rfl, rfl, ht⟩) (fun q hq => absurd hq List.not_mem_nil) dX2_leastVoltage_46
    · exact absurd h_2 (nI_nlt (a := n) (b := n) (Nat.le_refl _) (by omega))
  · rintro k9 ih ⟨i, ls⟩ ⟨h9, hl⟩
    have h9 : i + (k9 + 1) = n := h9
    have hi : i < n := by omega
    have hl : lv_has ls 7 [(1, .long (sLv (cs_vo S) i)), (3, .ref (a 1)), (4, .int (nI n)), (5, .int (nI i))] := hl
    refine lv_iload hx hb dX2_leastVoltage_16 (lv_at hl 3 rfl) ?_
    refine lv_iload hx hb dX2_leastVoltage_18 (lv_at hl 2 rfl) ?_
    refine ib_ge (tgt := 45) hx hb dX2_leastVoltage_20 (by decide) (fun h_3 => ?_) (fun h_3 => ?_)
    · exact absurd (nI_lt (a := i) (b := n) (by omega) (by omega)) h_3
    · refine lv_aload_n hx hb dX2_leastVoltage_23 rfl (lv_at hl 1 rfl) ?_
      refine lv_iload hx hb dX2_leastVoltage_24 (lv_at hl 3 rfl) ?_
      refine ra_q hx hb hK hP 1 0 rfl rfl i rfl (by omega) (by omega) dX2_leastVoltage_26 ?_
      refine W.eqs (st2 := [.ref (a (9 + i))]) rfl ?_
      refine lv_astore (lv' := [(6, .ref (a (9 + i))), (1, .long (sLv (cs_vo S) i)), (3, .ref (a 1)), (4, .int (nI n)), (5, .int (nI i))]) hx hb dX2_leastVoltage_27 hl (by decide) rfl (fun ls hl => ?_)
      refine lv_lload_n hx hb dX2_leastVoltage_29 rfl (lv_at hl 1 rfl) ?_
      refine lv_aload hx hb dX2_leastVoltage_30 (lv_at hl 0 rfl) ?_
      refine va_getN (D := D) (ci := 1) (v := .long ((cs_vo S) i)) (C := RX0) (T := TX0) (N := 6) hx hb hts iX2_leastVoltage_X0 hown hK hP (9 + i) (wX_c hi) rfl 2 (by decide) (va_Nw.use rfl (hN _ (List.mem_of_getElem? (i := 4) rfl))) (fun _ h9 => h9) rfl dX2_leastVoltage_32 ?_
      refine va_mmin_long hx hb (hml.trans hl.1.symm) hown (hts (.methodLink RX2 182 Lib.MathLoose.min_long.x) (by decide +kernel)) (hts (.static Lib.MathLoose.min_long.x) (by decide +kernel)) (hts (.initialized "java/lang/Math") (by decide +kernel)) (hts (.code Lib.MathLoose.min_long.x Lib.MathLoose.min_long.code 4 (some .long)) (by decide +kernel)) (Nat.le_of_ble_eq_true rfl) (Nat.le_of_ble_eq_true rfl) (Nat.le_of_ble_eq_true rfl) (Nat.le_of_ble_eq_true rfl) dX2_leastVoltage_35 ?_
      refine lv_lstore_n (lv' := [(1, .long (if (cs_vo S) i < sLv (cs_vo S) i then (cs_vo S) i else sLv (cs_vo S) i)), (6, .ref (a (9 + i))), (3, .ref (a 1)), (4, .int (nI n)), (5, .int (nI i))]) hx hb dX2_leastVoltage_38 rfl hl (by decide) rfl (fun ls hl => ?_)
      refine lv_iinc (v := nI (i + 1)) (lv' := [(5, .int (nI (i + 1))), (1, .long (if (cs_vo S) i < sLv (cs_vo S) i then (cs_vo S) i else sLv (cs_vo S) i)), (6, .ref (a (9 + i))), (3, .ref (a 1)), (4, .int (nI n))]) hx hb dX2_leastVoltage_39 hl (k := 4) rfl (nI_1 i) (by decide) rfl (fun ls hl => ?_)
      refine lv_goto (tgt := 16) hx hb dX2_leastVoltage_42 (by decide) ?_
      exact ih ((i + 1), ls) ⟨by show i + 1 + k9 = n; omega, lv_sub hl [1, 3, 4, 0] rfl⟩
set_option maxRecDepth 20000 in
theorem iX2_greatestWarmth_X0 : ∀ w ∈ wsX00, w ∈ wsX2_greatestWarmth := by decide +kernel
set_option maxRecDepth 20000 in
theorem iX2_greatestWarmth_X2 : ∀ w ∈ wsX20, w ∈ wsX2_greatestWarmth := by decide +kernel
set_option maxHeartbeats 4000000 in
set_option maxRecDepth 100000 in
theorem kX2_greatestWarmth (l : Launch) (D : va_G) (cy : Nat → ClassId) (a : Nat → Nat) (n : Nat) (S : CS) (sz : Nat) (hn : n ≤ 24) : Met l yX2_greatestWarmth wsX2_greatestWarmth ({ frames := 1, cells := 0, slots := 0, locals := 24 }) (va_Pc [.ref (a 0)] (pX D cy a n S sz)) (vp_Sl (fun r => r = sGw (cs_wa S) n)) 0 0 (fun _ => False) := by
  refine Met.ofW (cc := cX2_greatestWarmth) (maxL := 7) (ret := (some .long)) (by decide) rfl ?_
  intro p e s m args below meth c s₁ B hml hv
  obtain ⟨rfl, hsz, hP, hK, hD0, hN⟩ := hv
  have hx := B.exec
  have hb := B.bytes
  have hr := B.returns
  have hts := atoms_spec (ws := wsX2_greatestWarmth) B.pre
  have hown : s.vm.findClass RX2 = some m.cls := findClass_of_methodNamed B.named
  have hlocks := B.notSynchronized
  have hD := hD0
  have hl := lv_entry ([.ref (a 0)]) (n := 7) (Nat.le_of_ble_eq_true rfl)
  rw [lg_entry_eq]
  generalize (lg_sl ([.ref (a 0)]) ++ List.replicate (7 - (lg_sl ([.ref (a 0)])).length) Slot.unset).toArray = ls at hl ⊢
  have hl : lv_has ls 7 [(0, .ref (a 0))] := hl
  refine lv_ldc2 hx hb hown (hts (.constantLong RX2 185 (-9223372036854775808)) (by decide +kernel)) dX2_greatestWarmth_0 ?_
  refine lv_lstore_n (lv' := [(1, .long (-9223372036854775808)), (0, .ref (a 0))]) hx hb dX2_greatestWarmth_3 rfl hl (by decide) rfl (fun ls hl => ?_)
  refine lv_aload_n hx hb dX2_greatestWarmth_4 rfl (lv_at hl 1 rfl) ?_
  refine va_get (D := D) (ci := 3) (v := .ref (a 1)) (C := RX2) (T := TX2) (N := 8) hx hb hts iX2_greatestWarmth_X2 hown hK hP 0 rfl rfl 0 (by decide) (hts (.fieldLink RX2 11 "CellRows2" "cells" "[LCellRows2$Cell;") (by decide +kernel)) (fun _ h9 => h9) rfl dX2_greatestWarmth_5 ?_
  refine lv_astore_n (lv' := [(3, .ref (a 1)), (1, .long (-9223372036854775808)), (0, .ref (a 0))]) hx hb dX2_greatestWarmth_8 rfl hl (by decide) rfl (fun ls hl => ?_)
  refine lv_aload_n hx hb dX2_greatestWarmth_9 rfl (lv_at hl 0 rfl) ?_
  refine va_alen (v := nI n) hx hb hK hP 1 0 rfl rfl rfl dX2_greatestWarmth_10 ?_
  refine lv_istore (lv' := [(4, .int (nI n)), (3, .ref (a 1)), (1, .long (-9223372036854775808)), (0, .ref (a 0))]) hx hb dX2_greatestWarmth_11 hl (by decide) rfl (fun ls hl => ?_)
  refine lv_iconst (v := 0) hx hb dX2_greatestWarmth_13 (by decide) ?_
  refine lv_istore (lv' := [(5, .int 0), (4, .int (nI n)), (3, .ref (a 1)), (1, .long (-9223372036854775808)), (0, .ref (a 0))]) hx hb dX2_greatestWarmth_14 hl (by decide) rfl (fun ls hl => ?_)
  refine W.loop (α := Nat × Array Slot) (g := fun v9 => F0 m 16 v9.2 []) (fun k9 v9 => v9.1 + k9 = n ∧ lv_has v9.2 7 [(1, .long (sGw (cs_wa S) v9.1)), (3, .ref (a 1)), (4, .int (nI n)), (5, .int (nI v9.1))]) ?_ ?_ n (0, ls) ⟨by omega, lv_sub hl [3, 2, 1, 0] rfl⟩
  · rintro ⟨i, ls⟩ ⟨h9, hl⟩
    have h9 : i + 0 = n := h9
    have e9 : i = n := by omega
    have hl : lv_has ls 7 [(1, .long (sGw (cs_wa S) i)), (3, .ref (a 1)), (4, .int (nI n)), (5, .int (nI i))] := hl
    rw [e9] at hl
    have hl : lv_has ls 7 [(1, .long (sGw (cs_wa S) n)), (3, .ref (a 1)), (4, .int (nI n)), (5, .int (nI n))] := hl
    refine lv_iload hx hb dX2_greatestWarmth_16 (lv_at hl 3 rfl) ?_
    refine lv_iload hx hb dX2_greatestWarmth_18 (lv_at hl 2 rfl) ?_
    refine ib_ge (tgt := 45) hx hb dX2_greatestWarmth_20 (by decide) (fun h_2 => ?_) (fun h_2 => ?_)
    · refine lv_lload_n hx hb dX2_greatestWarmth_45 rfl (lv_at hl 0 rfl) ?_
      exact W.lret (v := sGw (cs_wa S) n) hx hb hr (fun t ht hW => ⟨sGw (cs_wa S) n, rfl, rfl, ht⟩) (fun q hq => absurd hq List.not_mem_nil) dX2_greatestWarmth_46
    · exact absurd h_2 (nI_nlt (a := n) (b := n) (Nat.le_refl _) (by omega))
  · rintro k9 ih ⟨i, ls⟩ ⟨h9, hl⟩
    have h9 : i + (k9 + 1) = n := h9
    have hi : i < n := by omega
    have hl : lv_has ls 7 [(1, .long (sGw (cs_wa S) i)), (3, .ref (a 1)), (4, .int (nI n)), (5, .int (nI i))] := hl
    refine lv_iload hx hb dX2_greatestWarmth_16 (lv_at hl 3 rfl) ?_
    refine lv_iload hx hb dX2_greatestWarmth_18 (lv_at hl 2 rfl) ?_
    refine ib_ge (tgt := 45) hx hb dX2_greatestWarmth_20 (by decide) (fun h_3 => ?_) (fun h_3 => ?_)
    · exact absurd (nI_lt (a := i) (b := n) (by omega) (by omega)) h_3
    · refine lv_aload_n hx hb dX2_greatestWarmth_23 rfl (lv_at hl 1 rfl) ?_
      refine lv_iload hx hb dX2_greatestWarmth_24 (lv_at hl 3 rfl) ?_
      refine ra_q hx hb hK hP 1 0 rfl rfl i rfl (by omega) (by omega) dX2_greatestWarmth_26 ?_
      refine W.eqs (st2 := [.ref (a (9 + i))]) rfl ?_
      refine lv_astore (lv' := [(6, .ref (a (9 + i))), (1, .long (sGw (cs_wa S) i)), (3, .ref (a 1)), (4, .int (nI n)), (5, .int (nI i))]) hx hb dX2_greatestWarmth_27 hl (by decide) rfl (fun ls hl => ?_)
      refine lv_lload_n hx hb dX2_greatestWarmth_29 rfl (lv_at hl 1 rfl) ?_
      refine lv_aload hx hb dX2_greatestWarmth_30 (lv_at hl 0 rfl) ?_
      refine va_getN (D := D) (ci := 1) (v := .long ((cs_wa S) i)) (C := RX0) (T := TX0) (N := 6) hx hb hts iX2_greatestWarmth_X0 hown hK hP (9 + i) (wX_c hi) rfl 3 (by decide) (va_Nw.use rfl (hN _ (List.mem_of_getElem? (i := 5) rfl))) (fun _ h9 => h9) rfl dX2_greatestWarmth_32 ?_
      refine va_mmax_long hx hb (hml.trans hl.1.symm) hown (hts (.methodLink RX2 187 Lib.MathLoose.max_long.x) (by decide +kernel)) (hts (.static Lib.MathLoose.max_long.x) (by decide +kernel)) (hts (.initialized "java/lang/Math") (by decide +kernel)) (hts (.code Lib.MathLoose.max_long.x Lib.MathLoose.max_long.code 4 (some .long)) (by decide +kernel)) (Nat.le_of_ble_eq_true rfl) (Nat.le_of_ble_eq_true rfl) (Nat.le_of_ble_eq_true rfl) (Nat.le_of_ble_eq_true rfl) dX2_greatestWarmth_35 ?_
      refine lv_lstore_n (lv' := [(1, .long (if (cs_wa S) i < sGw (cs_wa S) i then sGw (cs_wa S) i else (cs_wa S) i)), (6, .ref (a (9 + i))), (3, .ref (a 1)), (4, .int (nI n)), (5, .int (nI i))]) hx hb dX2_greatestWarmth_38 rfl hl (by decide) rfl (fun ls hl => ?_)
      refine lv_iinc (v := nI (i + 1)) (lv' := [(5, .int (nI (i + 1))), (1, .long (if (cs_wa S) i < sGw (cs_wa S) i then sGw (cs_wa S) i else (cs_wa S) i)), (6, .ref (a (9 + i))), (3, .ref (a 1)), (4, .int (nI n))]) hx hb dX2_greatestWarmth_39 hl (k := 4) rfl (nI_1 i) (by decide) rfl (fun ls hl => ?_)
      refine lv_goto (tgt := 16) hx hb dX2_greatestWarmth_42 (by decide) ?_
      exact ih ((i + 1), ls) ⟨by show i + 1 + k9 = n; omega, lv_sub hl [1, 3, 4, 0] rfl⟩
set_option maxRecDepth 20000 in
theorem iX2_bleedingCells_X0 : ∀ w ∈ wsX00, w ∈ wsX2_bleedingCells := by decide +kernel
set_option maxRecDepth 20000 in
theorem iX2_bleedingCells_X2 : ∀ w ∈ wsX20, w ∈ wsX2_bleedingCells := by decide +kernel
set_option maxHeartbeats 4000000 in
set_option maxRecDepth 100000 in
theorem kX2_bleedingCells (l : Launch) (D : va_G) (cy : Nat → ClassId) (a : Nat → Nat) (n : Nat) (S : CS) (sz : Nat) (hn : n ≤ 24) : Met l yX2_bleedingCells wsX2_bleedingCells ({ frames := 0, cells := 0, slots := 0, locals := 0 }) (va_Pc [.ref (a 0)] (pX D cy a n S sz)) (vp_Si (fun r => r = sBc (cs_bl S) n)) 0 0 (fun _ => False) := by
  refine Met.ofW (cc := cX2_bleedingCells) (maxL := 6) (ret := (some .int)) (by decide) rfl ?_
  intro p e s m args below meth c s₁ B hml hv
  obtain ⟨rfl, hsz, hP, hK, hD0, hN⟩ := hv
  have hx := B.exec
  have hb := B.bytes
  have hr := B.returns
  have hts := atoms_spec (ws := wsX2_bleedingCells) B.pre
  have hown : s.vm.findClass RX2 = some m.cls := findClass_of_methodNamed B.named
  have hlocks := B.notSynchronized
  have hD := hD0
  have hl := lv_entry ([.ref (a 0)]) (n := 6) (Nat.le_of_ble_eq_true rfl)
  rw [lg_entry_eq]
  generalize (lg_sl ([.ref (a 0)]) ++ List.replicate (6 - (lg_sl ([.ref (a 0)])).length) Slot.unset).toArray = ls at hl ⊢
  have hl : lv_has ls 6 [(0, .ref (a 0))] := hl
  refine lv_iconst (v := 0) hx hb dX2_bleedingCells_0 (by decide) ?_
  refine lv_istore_n (lv' := [(1, .int 0), (0, .ref (a 0))]) hx hb dX2_bleedingCells_1 rfl hl (by decide) rfl (fun ls hl => ?_)
  refine lv_aload_n hx hb dX2_bleedingCells_2 rfl (lv_at hl 1 rfl) ?_
  refine va_get (D := D) (ci := 3) (v := .ref (a 1)) (C := RX2) (T := TX2) (N := 8) hx hb hts iX2_bleedingCells_X2 hown hK hP 0 rfl rfl 0 (by decide) (hts (.fieldLink RX2 11 "CellRows2" "cells" "[LCellRows2$Cell;") (by decide +kernel)) (fun _ h9 => h9) rfl dX2_bleedingCells_3 ?_
  refine lv_astore_n (lv' := [(2, .ref (a 1)), (1, .int 0), (0, .ref (a 0))]) hx hb dX2_bleedingCells_6 rfl hl (by decide) rfl (fun ls hl => ?_)
  refine lv_aload_n hx hb dX2_bleedingCells_7 rfl (lv_at hl 0 rfl) ?_
  refine va_alen (v := nI n) hx hb hK hP 1 0 rfl rfl rfl dX2_bleedingCells_8 ?_
  refine lv_istore_n (lv' := [(3, .int (nI n)), (2, .ref (a 1)), (1, .int 0), (0, .ref (a 0))]) hx hb dX2_bleedingCells_9 rfl hl (by decide) rfl (fun ls hl => ?_)
  refine lv_iconst (v := 0) hx hb dX2_bleedingCells_10 (by decide) ?_
  refine lv_istore (lv' := [(4, .int 0), (3, .int (nI n)), (2, .ref (a 1)), (1, .int 0), (0, .ref (a 0))]) hx hb dX2_bleedingCells_11 hl (by decide) rfl (fun ls hl => ?_)
  refine W.loop (α := Nat × Array Slot) (g := fun v9 => F0 m 13 v9.2 []) (fun k9 v9 => v9.1 + k9 = n ∧ lv_has v9.2 6 [(1, .int (sBc (cs_bl S) v9.1)), (2, .ref (a 1)), (3, .int (nI n)), (4, .int (nI v9.1))]) ?_ ?_ n (0, ls) ⟨by omega, lv_sub hl [3, 2, 1, 0] rfl⟩
  · rintro ⟨i, ls⟩ ⟨h9, hl⟩
    have h9 : i + 0 = n := h9
    have e9 : i = n := by omega
    have hl : lv_has ls 6 [(1, .int (sBc (cs_bl S) i)), (2, .ref (a 1)), (3, .int (nI n)), (4, .int (nI i))] := hl
    rw [e9] at hl
    have hl : lv_has ls 6 [(1, .int (sBc (cs_bl S) n)), (2, .ref (a 1)), (3, .int (nI n)), (4, .int (nI n))] := hl
    refine lv_iload hx hb dX2_bleedingCells_13 (lv_at hl 3 rfl) ?_
    refine lv_iload_n hx hb dX2_bleedingCells_15 rfl (lv_at hl 2 rfl) ?_
    refine ib_ge (tgt := 42) hx hb dX2_bleedingCells_16 (by decide) (fun h_2 => ?_) (fun h_2 => ?_)
    · refine lv_iload_n hx hb dX2_bleedingCells_42 rfl (lv_at hl 0 rfl) ?_
      exact W.iret (v := sBc (cs_bl S) n) hx hb hr (fun t ht hW => ⟨sBc (cs_bl S) n, rfl, rfl, ht⟩) (fun q hq => absurd hq List.not_mem_nil) dX2_bleedingCells_43
    · exact absurd h_2 (nI_nlt (a := n) (b := n) (Nat.le_refl _) (by omega))
  · rintro k9 ih ⟨i, ls⟩ ⟨h9, hl⟩
    have h9 : i + (k9 + 1) = n := h9
    have hi : i < n := by omega
    have hl : lv_has ls 6 [(1, .int (sBc (cs_bl S) i)), (2, .ref (a 1)), (3, .int (nI n)), (4, .int (nI i))] := hl
    refine lv_iload hx hb dX2_bleedingCells_13 (lv_at hl 3 rfl) ?_
    refine lv_iload_n hx hb dX2_bleedingCells_15 rfl (lv_at hl 2 rfl) ?_
    refine ib_ge (tgt := 42) hx hb dX2_bleedingCells_16 (by decide) (fun h_3 => ?_) (fun h_3 => ?_)
    · exact absurd (nI_lt (a := i) (b := n) (by omega) (by omega)) h_3
    · refine lv_aload_n hx hb dX2_bleedingCells_19 rfl (lv_at hl 1 rfl) ?_
      refine lv_iload hx hb dX2_bleedingCells_20 (lv_at hl 3 rfl) ?_
      refine ra_q hx hb hK hP 1 0 rfl rfl i rfl (by omega) (by omega) dX2_bleedingCells_22 ?_
      refine W.eqs (st2 := [.ref (a (9 + i))]) rfl ?_
      refine lv_astore (lv' := [(5, .ref (a (9 + i))), (1, .int (sBc (cs_bl S) i)), (2, .ref (a 1)), (3, .int (nI n)), (4, .int (nI i))]) hx hb dX2_bleedingCells_23 hl (by decide) rfl (fun ls hl => ?_)
      refine lv_aload hx hb dX2_bleedingCells_25 (lv_at hl 0 rfl) ?_
      refine va_getN (D := D) (ci := 1) (v := .int ((cs_bl S) i)) (C := RX0) (T := TX0) (N := 6) hx hb hts iX2_bleedingCells_X0 hown hK hP (9 + i) (wX_c hi) rfl 5 (by decide) (va_Nw.use rfl (hN _ (List.mem_of_getElem? (i := 0) rfl))) (fun _ h9 => h9) rfl dX2_bleedingCells_27 ?_
      refine iz_eq (tgt := 36) hx hb dX2_bleedingCells_30 (by decide) (fun h_4 => ?_) (fun h_4 => ?_)
      · refine lv_iinc (v := nI (i + 1)) (lv' := [(4, .int (nI (i + 1))), (5, .ref (a (9 + i))), (1, .int (sBc (cs_bl S) i)), (2, .ref (a 1)), (3, .int (nI n))]) hx hb dX2_bleedingCells_36 hl (k := 4) rfl (nI_1 i) (by decide) rfl (fun ls hl => ?_)
        refine lv_goto (tgt := 13) hx hb dX2_bleedingCells_39 (by decide) ?_
        exact ih ((i + 1), ls) ⟨by show i + 1 + k9 = n; omega, (by show lv_has ls 6 [(1, .int (sBc (cs_bl S) (i + 1))), (2, .ref (a 1)), (3, .int (nI n)), (4, .int (nI (i + 1)))]; rw [(show sBc (cs_bl S) (i + 1) = sBc (cs_bl S) i from by simp only [sBc, if_pos h_3, if_pos h_4])]; exact lv_sub hl [2, 3, 4, 0] rfl)⟩
      · refine lv_iinc (v := (sBc (cs_bl S) i) + 1) (lv' := [(1, .int ((sBc (cs_bl S) i) + 1)), (5, .ref (a (9 + i))), (2, .ref (a 1)), (3, .int (nI n)), (4, .int (nI i))]) hx hb dX2_bleedingCells_33 hl (k := 1) rfl rfl (by decide) rfl (fun ls hl => ?_)
        refine lv_iinc (v := nI (i + 1)) (lv' := [(4, .int (nI (i + 1))), (1, .int ((sBc (cs_bl S) i) + 1)), (5, .ref (a (9 + i))), (2, .ref (a 1)), (3, .int (nI n))]) hx hb dX2_bleedingCells_36 hl (k := 4) rfl (nI_1 i) (by decide) rfl (fun ls hl => ?_)
        refine lv_goto (tgt := 13) hx hb dX2_bleedingCells_39 (by decide) ?_
        exact ih ((i + 1), ls) ⟨by show i + 1 + k9 = n; omega, (by show lv_has ls 6 [(1, .int (sBc (cs_bl S) (i + 1))), (2, .ref (a 1)), (3, .int (nI n)), (4, .int (nI (i + 1)))]; rw [(show sBc (cs_bl S) (i + 1) = (sBc (cs_bl S) i) + 1 from by simp only [sBc, if_pos h_3, if_neg h_4])]; exact lv_sub hl [1, 3, 4, 0] rfl)⟩
set_option maxRecDepth 20000 in
theorem iX2_weakest_X0 : ∀ w ∈ wsX00, w ∈ wsX2_weakest := by decide +kernel
set_option maxRecDepth 20000 in
theorem iX2_weakest_X2 : ∀ w ∈ wsX20, w ∈ wsX2_weakest := by decide +kernel
set_option maxHeartbeats 4000000 in
set_option maxRecDepth 100000 in
theorem kX2_weakest (l : Launch) (D : va_G) (cy : Nat → ClassId) (a : Nat → Nat) (n : Nat) (S : CS) (sz : Nat) (hn : n ≤ 24) : Met l yX2_weakest wsX2_weakest ({ frames := 0, cells := 0, slots := 0, locals := 0 }) (va_Pc [.ref (a 0)] (pX D cy a n S sz)) (vp_Si (fun r => r = nI (sWk (cs_ch S) n))) 0 0 (fun _ => False) := by
  refine Met.ofW (cc := cX2_weakest) (maxL := 5) (ret := (some .int)) (by decide) rfl ?_
  intro p e s m args below meth c s₁ B hml hv
  obtain ⟨rfl, hsz, hP, hK, hD0, hN⟩ := hv
  have hx := B.exec
  have hb := B.bytes
  have hr := B.returns
  have hts := atoms_spec (ws := wsX2_weakest) B.pre
  have hown : s.vm.findClass RX2 = some m.cls := findClass_of_methodNamed B.named
  have hlocks := B.notSynchronized
  have hD := hD0
  have hl := lv_entry ([.ref (a 0)]) (n := 5) (Nat.le_of_ble_eq_true rfl)
  rw [lg_entry_eq]
  generalize (lg_sl ([.ref (a 0)]) ++ List.replicate (5 - (lg_sl ([.ref (a 0)])).length) Slot.unset).toArray = ls at hl ⊢
  have hl : lv_has ls 5 [(0, .ref (a 0))] := hl
  refine lv_iconst (v := 0) hx hb dX2_weakest_0 (by decide) ?_
  refine lv_istore_n (lv' := [(1, .int 0), (0, .ref (a 0))]) hx hb dX2_weakest_1 rfl hl (by decide) rfl (fun ls hl => ?_)
  refine lv_ldc2 hx hb hown (hts (.constantLong RX2 131 (9223372036854775807)) (by decide +kernel)) dX2_weakest_2 ?_
  refine lv_lstore_n (lv' := [(2, .long 9223372036854775807), (1, .int 0), (0, .ref (a 0))]) hx hb dX2_weakest_5 rfl hl (by decide) rfl (fun ls hl => ?_)
  refine lv_iconst (v := 0) hx hb dX2_weakest_6 (by decide) ?_
  refine lv_istore (lv' := [(4, .int 0), (2, .long 9223372036854775807), (1, .int 0), (0, .ref (a 0))]) hx hb dX2_weakest_7 hl (by decide) rfl (fun ls hl => ?_)
  refine W.loop (α := Nat × Array Slot) (g := fun v9 => F0 m 9 v9.2 []) (fun k9 v9 => v9.1 + k9 = n ∧ lv_has v9.2 5 [(0, .ref (a 0)), (1, .int (nI (sWk (cs_ch S) v9.1))), (2, .long (sLv (cs_ch S) v9.1)), (4, .int (nI v9.1))]) ?_ ?_ n (0, ls) ⟨by omega, lv_sub hl [3, 2, 1, 0] rfl⟩
  · rintro ⟨i, ls⟩ ⟨h9, hl⟩
    have h9 : i + 0 = n := h9
    have e9 : i = n := by omega
    have hl : lv_has ls 5 [(0, .ref (a 0)), (1, .int (nI (sWk (cs_ch S) i))), (2, .long (sLv (cs_ch S) i)), (4, .int (nI i))] := hl
    rw [e9] at hl
    have hl : lv_has ls 5 [(0, .ref (a 0)), (1, .int (nI (sWk (cs_ch S) n))), (2, .long (sLv (cs_ch S) n)), (4, .int (nI n))] := hl
    refine lv_iload hx hb dX2_weakest_9 (lv_at hl 3 rfl) ?_
    refine lv_aload_n hx hb dX2_weakest_11 rfl (lv_at hl 0 rfl) ?_
    refine va_get (D := D) (ci := 3) (v := .ref (a 1)) (C := RX2) (T := TX2) (N := 8) hx hb hts iX2_weakest_X2 hown hK hP 0 rfl rfl 0 (by decide) (hts (.fieldLink RX2 11 "CellRows2" "cells" "[LCellRows2$Cell;") (by decide +kernel)) (fun _ h9 => h9) rfl dX2_weakest_12 ?_
    refine va_alen (v := nI n) hx hb hK hP 1 0 rfl rfl rfl dX2_weakest_15 ?_
    refine ib_ge (tgt := 54) hx hb dX2_weakest_16 (by decide) (fun h_2 => ?_) (fun h_2 => ?_)
    · refine lv_iload_n hx hb dX2_weakest_54 rfl (lv_at hl 1 rfl) ?_
      exact W.iret (v := nI (sWk (cs_ch S) n)) hx hb hr (fun t ht hW => ⟨nI (sWk (cs_ch S) n), rfl, rfl, ht⟩) (fun q hq => absurd hq List.not_mem_nil) dX2_weakest_55
    · exact absurd h_2 (nI_nlt (a := n) (b := n) (Nat.le_refl _) (by omega))
  · rintro k9 ih ⟨i, ls⟩ ⟨h9, hl⟩
    have h9 : i + (k9 + 1) = n := h9
    have hi : i < n := by omega
    have hl : lv_has ls 5 [(0, .ref (a 0)), (1, .int (nI (sWk (cs_ch S) i))), (2, .long (sLv (cs_ch S) i)), (4, .int (nI i))] := hl
    refine lv_iload hx hb dX2_weakest_9 (lv_at hl 3 rfl) ?_
    refine lv_aload_n hx hb dX2_weakest_11 rfl (lv_at hl 0 rfl) ?_
    refine va_get (D := D) (ci := 3) (v := .ref (a 1)) (C := RX2) (T := TX2) (N := 8) hx hb hts iX2_weakest_X2 hown hK hP 0 rfl rfl 0 (by decide) (hts (.fieldLink RX2 11 "CellRows2" "cells" "[LCellRows2$Cell;") (by decide +kernel)) (fun _ h9 => h9) rfl dX2_weakest_12 ?_
    refine va_alen (v := nI n) hx hb hK hP 1 0 rfl rfl rfl dX2_weakest_15 ?_
    refine ib_ge (tgt := 54) hx hb dX2_weakest_16 (by decide) (fun h_3 => ?_) (fun h_3 => ?_)
    · exact absurd (nI_lt (a := i) (b := n) (by omega) (by omega)) h_3
    · refine lv_aload_n hx hb dX2_weakest_19 rfl (lv_at hl 0 rfl) ?_
      refine va_get (D := D) (ci := 3) (v := .ref (a 1)) (C := RX2) (T := TX2) (N := 8) hx hb hts iX2_weakest_X2 hown hK hP 0 rfl rfl 0 (by decide) (hts (.fieldLink RX2 11 "CellRows2" "cells" "[LCellRows2$Cell;") (by decide +kernel)) (fun _ h9 => h9) rfl dX2_weakest_20 ?_
      refine lv_iload hx hb dX2_weakest_23 (lv_at hl 3 rfl) ?_
      refine ra_q hx hb hK hP 1 0 rfl rfl i rfl (by omega) (by omega) dX2_weakest_25 ?_
      refine W.eqs (st2 := [.ref (a (9 + i))]) rfl ?_
      refine va_getN (D := D) (ci := 1) (v := .long ((cs_ch S) i)) (C := RX0) (T := TX0) (N := 6) hx hb hts iX2_weakest_X0 hown hK hP (9 + i) (wX_c hi) rfl 0 (by decide) (va_Nw.use rfl (hN _ (List.mem_of_getElem? (i := 6) rfl))) (fun _ h9 => h9) rfl dX2_weakest_26 ?_
      refine lv_lload_n hx hb dX2_weakest_29 rfl (lv_at hl 2 rfl) ?_
      refine il_ge (tgt := 48) hx hb dX2_weakest_30 dX2_weakest_31 (by decide) (fun h_4 => ?_) (fun h_4 => ?_)
      · refine lv_iinc (v := nI (i + 1)) (lv' := [(4, .int (nI (i + 1))), (0, .ref (a 0)), (1, .int (nI (sWk (cs_ch S) i))), (2, .long (sLv (cs_ch S) i))]) hx hb dX2_weakest_48 hl (k := 3) rfl (nI_1 i) (by decide) rfl (fun ls hl => ?_)
        refine lv_goto (tgt := 9) hx hb dX2_weakest_51 (by decide) ?_
        exact ih ((i + 1), ls) ⟨by show i + 1 + k9 = n; omega, (by show lv_has ls 5 [(0, .ref (a 0)), (1, .int (nI (sWk (cs_ch S) (i + 1)))), (2, .long (sLv (cs_ch S) (i + 1))), (4, .int (nI (i + 1)))]; rw [(show nI (sWk (cs_ch S) (i + 1)) = nI (sWk (cs_ch S) i) from by simp only [sWk, sLv, if_pos h_3, if_neg h_4]), (show sLv (cs_ch S) (i + 1) = sLv (cs_ch S) i from by simp only [sWk, sLv, if_pos h_3, if_neg h_4])]; exact lv_sub hl [1, 2, 3, 0] rfl)⟩
      · refine lv_aload_n hx hb dX2_weakest_34 rfl (lv_at hl 0 rfl) ?_
        refine va_get (D := D) (ci := 3) (v := .ref (a 1)) (C := RX2) (T := TX2) (N := 8) hx hb hts iX2_weakest_X2 hown hK hP 0 rfl rfl 0 (by decide) (hts (.fieldLink RX2 11 "CellRows2" "cells" "[LCellRows2$Cell;") (by decide +kernel)) (fun _ h9 => h9) rfl dX2_weakest_35 ?_
        refine lv_iload hx hb dX2_weakest_38 (lv_at hl 3 rfl) ?_
        refine ra_q hx hb hK hP 1 0 rfl rfl i rfl (by omega) (by omega) dX2_weakest_40 ?_
        refine W.eqs (st2 := [.ref (a (9 + i))]) rfl ?_
        refine va_getN (D := D) (ci := 1) (v := .long ((cs_ch S) i)) (C := RX0) (T := TX0) (N := 6) hx hb hts iX2_weakest_X0 hown hK hP (9 + i) (wX_c hi) rfl 0 (by decide) (va_Nw.use rfl (hN _ (List.mem_of_getElem? (i := 6) rfl))) (fun _ h9 => h9) rfl dX2_weakest_41 ?_
        refine lv_lstore_n (lv' := [(2, .long ((cs_ch S) i)), (0, .ref (a 0)), (1, .int (nI (sWk (cs_ch S) i))), (4, .int (nI i))]) hx hb dX2_weakest_44 rfl hl (by decide) rfl (fun ls hl => ?_)
        refine lv_iload hx hb dX2_weakest_45 (lv_at hl 3 rfl) ?_
        refine lv_istore_n (lv' := [(1, .int (nI i)), (2, .long ((cs_ch S) i)), (0, .ref (a 0)), (4, .int (nI i))]) hx hb dX2_weakest_47 rfl hl (by decide) rfl (fun ls hl => ?_)
        refine lv_iinc (v := nI (i + 1)) (lv' := [(4, .int (nI (i + 1))), (1, .int (nI i)), (2, .long ((cs_ch S) i)), (0, .ref (a 0))]) hx hb dX2_weakest_48 hl (k := 3) rfl (nI_1 i) (by decide) rfl (fun ls hl => ?_)
        refine lv_goto (tgt := 9) hx hb dX2_weakest_51 (by decide) ?_
        exact ih ((i + 1), ls) ⟨by show i + 1 + k9 = n; omega, (by show lv_has ls 5 [(0, .ref (a 0)), (1, .int (nI (sWk (cs_ch S) (i + 1)))), (2, .long (sLv (cs_ch S) (i + 1))), (4, .int (nI (i + 1)))]; rw [(show nI (sWk (cs_ch S) (i + 1)) = nI i from by simp only [sWk, sLv, if_pos h_3, if_pos h_4]), (show sLv (cs_ch S) (i + 1) = (cs_ch S) i from by simp only [sWk, sLv, if_pos h_3, if_pos h_4])]; exact lv_sub hl [3, 1, 2, 0] rfl)⟩
set_option maxRecDepth 20000 in
theorem iX2_mayBleed_X0 : ∀ w ∈ wsX00, w ∈ wsX2_mayBleed := by decide +kernel
set_option maxRecDepth 20000 in
theorem iX2_mayBleed_X2 : ∀ w ∈ wsX20, w ∈ wsX2_mayBleed := by decide +kernel
set_option maxHeartbeats 4000000 in
set_option maxRecDepth 100000 in
theorem kX2_mayBleed (l : Launch) (D : va_G) (cy : Nat → ClassId) (a : Nat → Nat) (n : Nat) (S : CS) (sz : Nat) (j : Nat) (hj : j < n) (hn : n ≤ 24) : Met l yX2_mayBleed wsX2_mayBleed ({ frames := 2, cells := 0, slots := 0, locals := 50 }) (va_Pc [.ref (a 0), .ref (a (9 + j))] (pX D cy a n S sz)) (vp_Si (fun r => r = sMay S n j)) 0 0 (fun _ => False) := by
  refine Met.ofW (cc := cX2_mayBleed) (maxL := 2) (ret := (some .boolean)) (by decide) rfl ?_
  intro p e s m args below meth c s₁ B hml hv
  obtain ⟨rfl, hsz, hP, hK, hD0, hN⟩ := hv
  have hx := B.exec
  have hb := B.bytes
  have hr := B.returns
  have hts := atoms_spec (ws := wsX2_mayBleed) B.pre
  have hown : s.vm.findClass RX2 = some m.cls := findClass_of_methodNamed B.named
  have hlocks := B.notSynchronized
  have hD := hD0
  have hl := lv_entry ([.ref (a 0), .ref (a (9 + j))]) (n := 2) (Nat.le_of_ble_eq_true rfl)
  rw [lg_entry_eq]
  generalize (lg_sl ([.ref (a 0), .ref (a (9 + j))]) ++ List.replicate (2 - (lg_sl ([.ref (a 0), .ref (a (9 + j))])).length) Slot.unset).toArray = ls at hl ⊢
  have hl : lv_has ls 2 [(0, .ref (a 0)), (1, .ref (a (9 + j)))] := hl
  refine lv_aload_n hx hb dX2_mayBleed_0 rfl (lv_at hl 1 rfl) ?_
  refine va_getN (D := D) (ci := 1) (v := .long ((cs_ch S) j)) (C := RX0) (T := TX0) (N := 6) hx hb hts iX2_mayBleed_X0 hown hK hP (9 + j) (wX_c hj) rfl 0 (by decide) (va_Nw.use rfl (hN _ (List.mem_of_getElem? (i := 6) rfl))) (fun _ h9 => h9) rfl dX2_mayBleed_1 ?_
  refine lv_aload_n hx hb dX2_mayBleed_4 rfl (lv_at hl 0 rfl) ?_
  refine va_get (D := D) (ci := 3) (v := .ref (a 2)) (C := RX2) (T := TX2) (N := 8) hx hb hts iX2_mayBleed_X2 hown hK hP 0 rfl rfl 1 (by decide) (hts (.fieldLink RX2 25 "CellRows2" "limits" "[J") (by decide +kernel)) (fun _ h9 => h9) rfl dX2_mayBleed_5 ?_
  refine lv_iconst (v := 4) hx hb dX2_mayBleed_8 (by decide) ?_
  refine ra_l (f := (cs_lim S)) hx hb hK hP 2 1 rfl rfl 4 rfl (Nat.le_of_ble_eq_true rfl) (Nat.le_of_ble_eq_true rfl) dX2_mayBleed_9 ?_
  refine il_lt (tgt := 34) hx hb dX2_mayBleed_10 dX2_mayBleed_11 (by decide) (fun h_1 => ?_) (fun h_1 => ?_)
  · refine lv_iconst (v := 0) hx hb dX2_mayBleed_34 (by decide) ?_
    exact W.zret (v := 0) hx hb hr rfl (fun t ht hW => ⟨0, rfl, (by simp only [sMay, if_pos h_1]), ht⟩) (fun q hq => absurd hq List.not_mem_nil) dX2_mayBleed_35
  · refine lv_aload_n hx hb dX2_mayBleed_14 rfl (lv_at hl 1 rfl) ?_
    refine va_getN (D := D) (ci := 1) (v := .long ((cs_vo S) j)) (C := RX0) (T := TX0) (N := 6) hx hb hts iX2_mayBleed_X0 hown hK hP (9 + j) (wX_c hj) rfl 2 (by decide) (va_Nw.use rfl (hN _ (List.mem_of_getElem? (i := 4) rfl))) (fun _ h9 => h9) rfl dX2_mayBleed_15 ?_
    refine lv_aload_n hx hb dX2_mayBleed_18 rfl (lv_at hl 0 rfl) ?_
    refine vp_callSl (W.runV (As := []) (rest := [.long ((cs_vo S) j)]) ⟨hx, hb, hml, hown, hts⟩ (kX2_leastVoltage l D cy a n S s.heap.size hn) (cwV 0 hts gX2_mayBleed_X2_leastVoltage rfl rfl rfl (by decide +kernel) ⟨Nat.le_of_ble_eq_true rfl, Nat.le_of_ble_eq_true rfl⟩) ⟨pX_blind, va_recv hK hP (ci := 3) (q0 := 0) rfl rfl, fun U hU hW => ⟨rfl, pX_mk hP hK hD hN hU hW⟩⟩ rfl rfl hl.1 rfl (lv_room (Nat.le_of_ble_eq_true rfl)) dX2_mayBleed_19 ⟨Nat.le_of_ble_eq_true rfl, Nat.le_of_ble_eq_true rfl⟩) (fun r2 hr2 => ?_)
    obtain rfl : r2 = sLv (cs_vo S) n := hr2
    refine lv_ldc2 hx hb hown (hts (.constantLong RX2 180 (10)) (by decide +kernel)) dX2_mayBleed_22 ?_
    refine lv_ladd hx hb dX2_mayBleed_25 ?_
    refine il_lt (tgt := 34) hx hb dX2_mayBleed_26 dX2_mayBleed_27 (by decide) (fun h_3 => ?_) (fun h_3 => ?_)
    · refine lv_iconst (v := 0) hx hb dX2_mayBleed_34 (by decide) ?_
      exact W.zret (v := 0) hx hb hr rfl (fun t ht hW => ⟨0, rfl, (by simp only [sMay, if_neg h_1, if_pos h_3]), ht⟩) (fun q hq => absurd hq List.not_mem_nil) dX2_mayBleed_35
    · refine lv_iconst (v := 1) hx hb dX2_mayBleed_30 (by decide) ?_
      refine lv_goto (tgt := 35) hx hb dX2_mayBleed_31 (by decide) ?_
      exact W.zret (v := 1) hx hb hr rfl (fun t ht hW => ⟨1, rfl, (by simp only [sMay, if_neg h_1, if_neg h_3]), ht⟩) (fun q hq => absurd hq List.not_mem_nil) dX2_mayBleed_35
set_option maxHeartbeats 4000000 in
set_option maxRecDepth 100000 in
theorem kX2_cool (l : Launch) (D : va_G) (cy : Nat → ClassId) (a : Nat → Nat) (n : Nat) (S : CS) (sz : Nat) (hn : n ≤ 24) : Met l yX2_cool wsX2_cool ({ frames := 2, cells := 0, slots := 0, locals := 50 }) (va_Pc [.ref (a 0)] (pX D cy a n S sz)) (vp_Si (fun r => r = rCool S n)) 0 0 (fun _ => False) := by
  refine Met.ofW (cc := cX2_cool) (maxL := 3) (ret := (some .int)) (by decide) rfl ?_
  intro p e s m args below meth c s₁ B hml hv
  obtain ⟨rfl, hsz, hP, hK, hD0, hN⟩ := hv
  have hx := B.exec
  have hb := B.bytes
  have hr := B.returns
  have hts := atoms_spec (ws := wsX2_cool) B.pre
  have hown : s.vm.findClass RX2 = some m.cls := findClass_of_methodNamed B.named
  have hlocks := B.notSynchronized
  have hD := hD0
  have hl := lv_entry ([.ref (a 0)]) (n := 3) (Nat.le_of_ble_eq_true rfl)
  rw [lg_entry_eq]
  generalize (lg_sl ([.ref (a 0)]) ++ List.replicate (3 - (lg_sl ([.ref (a 0)])).length) Slot.unset).toArray = ls at hl ⊢
  have hl : lv_has ls 3 [(0, .ref (a 0))] := hl
  refine lv_aload_n hx hb dX2_cool_0 rfl (lv_at hl 0 rfl) ?_
  refine vp_callSl (W.runV (As := []) (rest := []) ⟨hx, hb, hml, hown, hts⟩ (kX2_greatestWarmth l D cy a n S s.heap.size hn) (cwV 0 hts gX2_cool_X2_greatestWarmth rfl rfl rfl (by decide +kernel) ⟨Nat.le_of_ble_eq_true rfl, Nat.le_of_ble_eq_true rfl⟩) ⟨pX_blind, va_recv hK hP (ci := 3) (q0 := 0) rfl rfl, fun U hU hW => ⟨rfl, pX_mk hP hK hD hN hU hW⟩⟩ rfl rfl hl.1 rfl (lv_room (Nat.le_of_ble_eq_true rfl)) dX2_cool_1 ⟨Nat.le_of_ble_eq_true rfl, Nat.le_of_ble_eq_true rfl⟩) (fun r1 hr1 => ?_)
  obtain rfl : r1 = sGw (cs_wa S) n := hr1
  refine lv_lstore_n (lv' := [(1, .long (sGw (cs_wa S) n)), (0, .ref (a 0))]) hx hb dX2_cool_4 rfl hl (by decide) rfl (fun ls hl => ?_)
  refine lv_lload_n hx hb dX2_cool_5 rfl (lv_at hl 0 rfl) ?_
  refine lv_ldc2 hx hb hown (hts (.constantLong RX2 152 (550)) (by decide +kernel)) dX2_cool_6 ?_
  refine il_le (tgt := 15) hx hb dX2_cool_9 dX2_cool_10 (by decide) (fun h_2 => ?_) (fun h_2 => ?_)
  · refine lv_lload_n hx hb dX2_cool_15 rfl (lv_at hl 0 rfl) ?_
    refine lv_ldc2 hx hb hown (hts (.constantLong RX2 154 (450)) (by decide +kernel)) dX2_cool_16 ?_
    refine il_le (tgt := 25) hx hb dX2_cool_19 dX2_cool_20 (by decide) (fun h_3 => ?_) (fun h_3 => ?_)
    · refine lv_lload_n hx hb dX2_cool_25 rfl (lv_at hl 0 rfl) ?_
      refine lv_ldc2 hx hb hown (hts (.constantLong RX2 156 (350)) (by decide +kernel)) dX2_cool_26 ?_
      refine il_le (tgt := 37) hx hb dX2_cool_29 dX2_cool_30 (by decide) (fun h_4 => ?_) (fun h_4 => ?_)
      · refine lv_iconst (v := 0) hx hb dX2_cool_37 (by decide) ?_
        exact W.iret (v := 0) hx hb hr (fun t ht hW => ⟨0, rfl, (by simp only [rCool, if_neg h_2, if_neg h_3, if_neg h_4]), ht⟩) (fun q hq => absurd hq List.not_mem_nil) dX2_cool_38
      · refine lv_iconst (v := 1) hx hb dX2_cool_33 (by decide) ?_
        refine lv_goto (tgt := 38) hx hb dX2_cool_34 (by decide) ?_
        exact W.iret (v := 1) hx hb hr (fun t ht hW => ⟨1, rfl, (by simp only [rCool, if_neg h_2, if_neg h_3, if_pos h_4]), ht⟩) (fun q hq => absurd hq List.not_mem_nil) dX2_cool_38
    · refine lv_iconst (v := 2) hx hb dX2_cool_23 (by decide) ?_
      exact W.iret (v := 2) hx hb hr (fun t ht hW => ⟨2, rfl, (by simp only [rCool, if_neg h_2, if_pos h_3]), ht⟩) (fun q hq => absurd hq List.not_mem_nil) dX2_cool_24
  · refine lv_iconst (v := 3) hx hb dX2_cool_13 (by decide) ?_
    exact W.iret (v := 3) hx hb hr (fun t ht hW => ⟨3, rfl, (by simp only [rCool, if_pos h_2]), ht⟩) (fun q hq => absurd hq List.not_mem_nil) dX2_cool_14
set_option maxRecDepth 20000 in
theorem iX2_bleed_X0 : ∀ w ∈ wsX00, w ∈ wsX2_bleed := by decide +kernel
set_option maxHeartbeats 4000000 in
set_option maxRecDepth 100000 in
theorem kX2_bleed (l : Launch) (D : va_G) (cy : Nat → ClassId) (a : Nat → Nat) (n : Nat) (S : CS) (sz : Nat) (p0 : Int32) (hn : n ≤ 24) : Met l yX2_bleed wsX2_bleed ({ frames := 3, cells := 0, slots := 0, locals := 71 }) (va_Pc [.ref (a 0), .int p0] (pX D cy a n S sz)) (va_Qi (fun r (u : CS) => r = rBle S n p0 ∧ u = gBle S n p0) (eX D cy a n (va_A (wX cy a n S) sz)) (va_A (wX cy a n S) sz)) 0 0 (va_A (wX cy a n S) sz) := by
  refine Met.ofW (cc := cX2_bleed) (maxL := 3) (ret := (some .int)) (by decide) rfl ?_
  intro p e s m args below meth c s₁ B hml hv
  obtain ⟨rfl, hsz, hP, hK, hD0, hN⟩ := hv
  have hx := B.exec
  have hb := B.bytes
  have hr := B.returns
  have hts := atoms_spec (ws := wsX2_bleed) B.pre
  have hown : s.vm.findClass RX2 = some m.cls := findClass_of_methodNamed B.named
  have hlocks := B.notSynchronized
  subst hsz
  have hD := hD0.self (sz := s.heap.size)
  generalize hAe : va_A (wX cy a n S) s.heap.size = A at hD ⊢
  have hA : ∀ q : Nat, s.heap.size ≤ q → A q := fun q h => by rw [← hAe]; exact Or.inr h
  have hS : va_S A s.heap s.heap [] := va_S.rf
  have hl := lv_entry ([.ref (a 0), .int p0]) (n := 3) (Nat.le_of_ble_eq_true rfl)
  rw [lg_entry_eq]
  generalize (lg_sl ([.ref (a 0), .int p0]) ++ List.replicate (3 - (lg_sl ([.ref (a 0), .int p0])).length) Slot.unset).toArray = ls at hl ⊢
  have hl : lv_has ls 3 [(0, .ref (a 0)), (1, .int p0)] := hl
  refine lv_aload_n hx hb dX2_bleed_0 rfl (lv_at hl 0 rfl) ?_
  refine lv_iload_n hx hb dX2_bleed_1 rfl (lv_at hl 1 rfl) ?_
  refine va_csq (W.runV (As := [.int p0]) (rest := []) ⟨hx, hb, hml, hown, hts⟩ (kX2_cellOf l D cy a n S s.heap.size p0 hn) (cwV 1 hts gX2_bleed_X2_cellOf rfl rfl rfl (by decide +kernel) ⟨Nat.le_of_ble_eq_true rfl, Nat.le_of_ble_eq_true rfl⟩) ⟨pX_blind, va_recv hK hP (ci := 3) (q0 := 0) rfl rfl, fun U hU hW => ⟨rfl, pX_mk hP hK hD hN hU hW⟩⟩ rfl rfl hl.1 rfl (lv_room (Nat.le_of_ble_eq_true rfl)) dX2_bleed_2 ⟨Nat.le_of_ble_eq_true rfl, Nat.le_of_ble_eq_true rfl⟩) (fun r1 hr1 => ?_)
  obtain rfl : r1 = (ix n p0).map (fun j => a (9 + j)) := hr1
  rcases hix : ix n p0 with _ | j
  · refine W.eqs (st2 := [.null]) rfl ?_
    refine lv_astore_nN (lv' := [(2, .null), (0, .ref (a 0)), (1, .int p0)]) hx hb dX2_bleed_5 rfl hl (by decide) rfl (fun ls hl => ?_)
    refine lv_aload_nN hx hb dX2_bleed_6 rfl (lv_at hl 0 rfl) ?_
    refine lv_ifnonnullN hx hb dX2_bleed_7 ?_
    refine lv_iconst (v := (-1)) hx hb dX2_bleed_10 (by decide) ?_
    exact W.iret (v := (-1)) hx hb hr (fun t ht hW => ⟨⟨(-1), S, rfl, ⟨(by simp only [rBle, gBle, sFlip, Option.elim_none, Option.map_none, Option.elim_some, hix] <;> rfl), (by simp only [rBle, gBle, sFlip, Option.elim_none, Option.map_none, Option.elim_some, hix] <;> rfl)⟩, by rw [ht]; exact hP, va_K.moved hW.alike hK, hD⟩, hS.F ht⟩) hS.2.2 dX2_bleed_11
  · obtain ⟨hj, rfl⟩ := ix_some hix
    refine W.eqs (st2 := [.ref (a (9 + j))]) rfl ?_
    refine lv_astore_n (lv' := [(2, .ref (a (9 + j))), (0, .ref (a 0)), (1, .int (nI j))]) hx hb dX2_bleed_5 rfl hl (by decide) rfl (fun ls hl => ?_)
    refine lv_aload_n hx hb dX2_bleed_6 rfl (lv_at hl 0 rfl) ?_
    refine lv_ifnonnull (tgt := 12) hx hb dX2_bleed_7 (by decide) ?_
    refine lv_aload_n hx hb dX2_bleed_12 rfl (lv_at hl 0 rfl) ?_
    refine va_getN (D := D) (ci := 1) (v := .int ((cs_bl S) j)) (C := RX0) (T := TX0) (N := 6) hx hb hts iX2_bleed_X0 hown hK hP (9 + j) (wX_c hj) rfl 5 (by decide) (va_Nw.use rfl (hN _ (List.mem_of_getElem? (i := 0) rfl))) (fun _ h9 => h9) rfl dX2_bleed_13 ?_
    refine iz_ne (tgt := 30) hx hb dX2_bleed_16 (by decide) (fun h_2 => ?_) (fun h_2 => ?_)
    · refine lv_aload_n hx hb dX2_bleed_30 rfl (lv_at hl 0 rfl) ?_
      refine lv_aload_n hx hb dX2_bleed_31 rfl (lv_at hl 0 rfl) ?_
      refine va_getN (D := D) (ci := 1) (v := .int ((cs_bl S) j)) (C := RX0) (T := TX0) (N := 6) hx hb hts iX2_bleed_X0 hown hK hP (9 + j) (wX_c hj) rfl 5 (by decide) (va_Nw.use rfl (hN _ (List.mem_of_getElem? (i := 0) rfl))) (fun _ h9 => h9) rfl dX2_bleed_32 ?_
      refine W.join (P := fun v9 : Int32 => v9 = 0) (g := fun v9 => F0 m 43 ls [.int v9, .ref (a (9 + j))]) (fun v3 hv3 => ?_) (fun J3 => ?_)
      · subst hv3
        refine va_putN (D := D) (ci := 1) (v := .int 0) (ty := .boolean) (C := RX0) (T := TX0) (N := 6) hx hb hts iX2_bleed_X0 tyX0 tyX0_ok nmX0 hown hK hP hD hS (9 + j) (wX_c hj) rfl 5 (by decide) (va_Nw.use rfl (hN _ (List.mem_of_getElem? (i := 0) rfl))) (fun _ h9 => h9) rfl (by decide +kernel) (nz_b (Or.inl rfl)).1 (nz_b (Or.inl rfl)).2 (Nat.le_of_ble_eq_true rfl) dX2_bleed_43 (fun H5 locs5 hP hD hS => ?_)
        have hP : va_P D vwCl (wX cy a n (cs_set_bl S (va_up (cs_bl S) j 0))) H5 := by show va_P D vwCl (wX cy a n (cs_set_bl S (va_up (cs_bl S) j 0))) H5; rw [← wX_set_bl S j 0]; exact hP
        have hD : va_D A (wX cy a n (cs_set_bl S (va_up (cs_bl S) j 0))) := by show va_D A (wX cy a n (cs_set_bl S (va_up (cs_bl S) j 0))); rw [← wX_set_bl S j 0]; exact hD
        refine lv_aload_n hx hb dX2_bleed_46 rfl (lv_at hl 1 rfl) ?_
        refine vp_callSi (W.runV (As := []) (rest := []) ⟨hx, hb, hml, hown, hts⟩ (kX2_bleedingCells l D cy a n (cs_set_bl S (va_up (cs_bl S) j 0)) H5.size hn) (cwV 0 hts gX2_bleed_X2_bleedingCells rfl rfl rfl (by decide +kernel) ⟨Nat.le_of_ble_eq_true rfl, Nat.le_of_ble_eq_true rfl⟩) ⟨pX_blind, va_recv hK hP (ci := 3) (q0 := 0) rfl rfl, fun U hU hW => ⟨rfl, pX_mk hP hK hD hN hU hW⟩⟩ rfl rfl hl.1 rfl (lv_room (Nat.le_of_ble_eq_true rfl)) dX2_bleed_47 ⟨Nat.le_of_ble_eq_true rfl, Nat.le_of_ble_eq_true rfl⟩) (fun r6 hr6 => ?_)
        obtain rfl : r6 = sBc (va_up (cs_bl S) j 0) n := hr6
        exact W.iret (v := sBc (va_up (cs_bl S) j 0) n) hx hb hr (fun t ht hW => ⟨⟨sBc (va_up (cs_bl S) j 0) n, (cs_set_bl S (va_up (cs_bl S) j 0)), rfl, ⟨(by simp only [rBle, gBle, sFlip, Option.elim_none, Option.map_none, Option.elim_some, hix, if_neg h_2] <;> rfl), (by simp only [rBle, gBle, sFlip, Option.elim_none, Option.map_none, Option.elim_some, hix, if_neg h_2] <;> rfl)⟩, by rw [ht]; exact hP, va_K.moved hW.alike hK, hD⟩, hS.F ht⟩) hS.2.2 dX2_bleed_50
      · refine iz_ne (tgt := 42) hx hb dX2_bleed_35 (by decide) (fun h_4 => ?_) (fun h_4 => ?_)
        · refine lv_iconst (v := 0) hx hb dX2_bleed_42 (by decide) ?_
          exact J3 _ (by simp only [if_neg h_4])
        · exact absurd h_4 h_2
    · refine lv_aload_n hx hb dX2_bleed_19 rfl (lv_at hl 1 rfl) ?_
      refine lv_aload_n hx hb dX2_bleed_20 rfl (lv_at hl 0 rfl) ?_
      refine vp_callSi (W.runV (As := [.ref (a (9 + j))]) (rest := []) ⟨hx, hb, hml, hown, hts⟩ (kX2_mayBleed l D cy a n S s.heap.size j hj hn) (cwV 1 hts gX2_bleed_X2_mayBleed rfl rfl rfl (by decide +kernel) ⟨Nat.le_of_ble_eq_true rfl, Nat.le_of_ble_eq_true rfl⟩) ⟨pX_blind, va_recv hK hP (ci := 3) (q0 := 0) rfl rfl, fun U hU hW => ⟨rfl, pX_mk hP hK hD hN hU hW⟩⟩ rfl rfl hl.1 rfl (lv_room (Nat.le_of_ble_eq_true rfl)) dX2_bleed_21 ⟨Nat.le_of_ble_eq_true rfl, Nat.le_of_ble_eq_true rfl⟩) (fun r7 hr7 => ?_)
      obtain rfl : r7 = sMay S n j := hr7
      refine iz_ne (tgt := 30) hx hb dX2_bleed_24 (by decide) (fun h_8 => ?_) (fun h_8 => ?_)
      · refine lv_aload_n hx hb dX2_bleed_30 rfl (lv_at hl 0 rfl) ?_
        refine lv_aload_n hx hb dX2_bleed_31 rfl (lv_at hl 0 rfl) ?_
        refine va_getN (D := D) (ci := 1) (v := .int ((cs_bl S) j)) (C := RX0) (T := TX0) (N := 6) hx hb hts iX2_bleed_X0 hown hK hP (9 + j) (wX_c hj) rfl 5 (by decide) (va_Nw.use rfl (hN _ (List.mem_of_getElem? (i := 0) rfl))) (fun _ h9 => h9) rfl dX2_bleed_32 ?_
        refine W.join (P := fun v9 : Int32 => v9 = 1) (g := fun v9 => F0 m 43 ls [.int v9, .ref (a (9 + j))]) (fun v9 hv9 => ?_) (fun J9 => ?_)
        · subst hv9
          refine va_putN (D := D) (ci := 1) (v := .int 1) (ty := .boolean) (C := RX0) (T := TX0) (N := 6) hx hb hts iX2_bleed_X0 tyX0 tyX0_ok nmX0 hown hK hP hD hS (9 + j) (wX_c hj) rfl 5 (by decide) (va_Nw.use rfl (hN _ (List.mem_of_getElem? (i := 0) rfl))) (fun _ h9 => h9) rfl (by decide +kernel) (nz_b (Or.inr rfl)).1 (nz_b (Or.inr rfl)).2 (Nat.le_of_ble_eq_true rfl) dX2_bleed_43 (fun H11 locs11 hP hD hS => ?_)
          have hP : va_P D vwCl (wX cy a n (cs_set_bl S (va_up (cs_bl S) j 1))) H11 := by show va_P D vwCl (wX cy a n (cs_set_bl S (va_up (cs_bl S) j 1))) H11; rw [← wX_set_bl S j 1]; exact hP
          have hD : va_D A (wX cy a n (cs_set_bl S (va_up (cs_bl S) j 1))) := by show va_D A (wX cy a n (cs_set_bl S (va_up (cs_bl S) j 1))); rw [← wX_set_bl S j 1]; exact hD
          refine lv_aload_n hx hb dX2_bleed_46 rfl (lv_at hl 1 rfl) ?_
          refine vp_callSi (W.runV (As := []) (rest := []) ⟨hx, hb, hml, hown, hts⟩ (kX2_bleedingCells l D cy a n (cs_set_bl S (va_up (cs_bl S) j 1)) H11.size hn) (cwV 0 hts gX2_bleed_X2_bleedingCells rfl rfl rfl (by decide +kernel) ⟨Nat.le_of_ble_eq_true rfl, Nat.le_of_ble_eq_true rfl⟩) ⟨pX_blind, va_recv hK hP (ci := 3) (q0 := 0) rfl rfl, fun U hU hW => ⟨rfl, pX_mk hP hK hD hN hU hW⟩⟩ rfl rfl hl.1 rfl (lv_room (Nat.le_of_ble_eq_true rfl)) dX2_bleed_47 ⟨Nat.le_of_ble_eq_true rfl, Nat.le_of_ble_eq_true rfl⟩) (fun r12 hr12 => ?_)
          obtain rfl : r12 = sBc (va_up (cs_bl S) j 1) n := hr12
          exact W.iret (v := sBc (va_up (cs_bl S) j 1) n) hx hb hr (fun t ht hW => ⟨⟨sBc (va_up (cs_bl S) j 1) n, (cs_set_bl S (va_up (cs_bl S) j 1)), rfl, ⟨(by simp only [rBle, gBle, sFlip, Option.elim_none, Option.map_none, Option.elim_some, hix, if_pos h_2, if_neg h_8] <;> rfl), (by simp only [rBle, gBle, sFlip, Option.elim_none, Option.map_none, Option.elim_some, hix, if_pos h_2, if_neg h_8] <;> rfl)⟩, by rw [ht]; exact hP, va_K.moved hW.alike hK, hD⟩, hS.F ht⟩) hS.2.2 dX2_bleed_50
        · refine iz_ne (tgt := 42) hx hb dX2_bleed_35 (by decide) (fun h_10 => ?_) (fun h_10 => ?_)
          · exact absurd h_2 h_10
          · refine lv_iconst (v := 1) hx hb dX2_bleed_38 (by decide) ?_
            refine lv_goto (tgt := 43) hx hb dX2_bleed_39 (by decide) ?_
            exact J9 _ (by simp only [if_pos h_10])
      · refine lv_bipush (v := (-3)) hx hb dX2_bleed_27 (by decide) ?_
        exact W.iret (v := (-3)) hx hb hr (fun t ht hW => ⟨⟨(-3), S, rfl, ⟨(by simp only [rBle, gBle, sFlip, Option.elim_none, Option.map_none, Option.elim_some, hix, if_pos h_2, if_pos h_8] <;> rfl), (by simp only [rBle, gBle, sFlip, Option.elim_none, Option.map_none, Option.elim_some, hix, if_pos h_2, if_pos h_8] <;> rfl)⟩, by rw [ht]; exact hP, va_K.moved hW.alike hK, hD⟩, hS.F ht⟩) hS.2.2 dX2_bleed_29
set_option maxHeartbeats 4000000 in
set_option maxRecDepth 100000 in
theorem kX2_greatestCommonDivisor (l : Launch) (x y : Int64) : Met l yX2_greatestCommonDivisor wsX2_greatestCommonDivisor ({ frames := 1, cells := 0, slots := 0, locals := 24 }) (va_Pc [.long x, .long y] (fun _ => True)) (vp_Sl (fun r => r = labs (gcdF 1000 x y))) 0 0 (fun _ => False) := by
  refine Met.ofW (cc := cX2_greatestCommonDivisor) (maxL := 11) (ret := (some .long)) (by decide) rfl ?_
  intro p e s m args below meth c s₁ B hml hv
  obtain ⟨rfl, -⟩ := hv
  have hx := B.exec
  have hb := B.bytes
  have hr := B.returns
  have hts := atoms_spec (ws := wsX2_greatestCommonDivisor) B.pre
  have hown : s.vm.findClass RX2 = some m.cls := findClass_of_methodNamed B.named
  have hlocks := B.notSynchronized
  have hl := lv_entry ([.long x, .long y]) (n := 11) (Nat.le_of_ble_eq_true rfl)
  rw [lg_entry_eq]
  generalize (lg_sl ([.long x, .long y]) ++ List.replicate (11 - (lg_sl ([.long x, .long y])).length) Slot.unset).toArray = ls at hl ⊢
  have hl : lv_has ls 11 [(0, .long x), (2, .long y)] := hl
  refine lv_lload_n hx hb dX2_greatestCommonDivisor_0 rfl (lv_at hl 0 rfl) ?_
  refine lv_lstore (lv' := [(4, .long x), (0, .long x), (2, .long y)]) hx hb dX2_greatestCommonDivisor_1 hl (by decide) rfl (fun ls hl => ?_)
  refine lv_lload_n hx hb dX2_greatestCommonDivisor_3 rfl (lv_at hl 2 rfl) ?_
  refine lv_lstore (lv' := [(6, .long y), (4, .long x), (0, .long x), (2, .long y)]) hx hb dX2_greatestCommonDivisor_4 hl (by decide) rfl (fun ls hl => ?_)
  refine lv_iconst (v := 0) hx hb dX2_greatestCommonDivisor_6 (by decide) ?_
  refine lv_istore (lv' := [(8, .int 0), (6, .long y), (4, .long x), (0, .long x), (2, .long y)]) hx hb dX2_greatestCommonDivisor_7 hl (by decide) rfl (fun ls hl => ?_)
  refine W.loop (α := Nat × Int64 × Int64 × Array Slot) (g := fun v9 => F0 m 9 v9.2.2.2 []) (fun k9 v9 => v9.1 + k9 = 1000 ∧ gcdF k9 v9.2.1 v9.2.2.1 = gcdF 1000 x y ∧ lv_has v9.2.2.2 11 [(4, .long v9.2.1), (6, .long v9.2.2.1), (8, .int (nI v9.1))]) ?_ ?_ 1000 (0, x, y, ls) ⟨by omega, rfl, lv_sub hl [2, 1, 0] rfl⟩
  · rintro ⟨i, d, r, ls⟩ ⟨h9, hg9, hl⟩
    have h9 : i + 0 = 1000 := h9
    have e9 : i = 1000 := by omega
    have hg9 : gcdF 0 d r = gcdF 1000 x y := hg9
    have hl : lv_has ls 11 [(4, .long d), (6, .long r), (8, .int (nI i))] := hl
    rw [e9] at hl
    have hl : lv_has ls 11 [(4, .long d), (6, .long r), (8, .int (nI 1000))] := hl
    refine lv_iload hx hb dX2_greatestCommonDivisor_9 (lv_at hl 2 rfl) ?_
    refine lv_sipush (v := 1000) hx hb dX2_greatestCommonDivisor_11 (by decide) ?_
    refine ib_ge (tgt := 45) hx hb dX2_greatestCommonDivisor_14 (by decide) (fun h_2 => ?_) (fun h_2 => ?_)
    · refine lv_lload hx hb dX2_greatestCommonDivisor_45 (lv_at hl 0 rfl) ?_
      refine va_mabs_long hx hb (hml.trans hl.1.symm) hown (hts (.methodLink RX2 167 Lib.MathLoose.abs_long.x) (by decide +kernel)) (hts (.static Lib.MathLoose.abs_long.x) (by decide +kernel)) (hts (.initialized "java/lang/Math") (by decide +kernel)) (hts (.code Lib.MathLoose.abs_long.x Lib.MathLoose.abs_long.code 2 (some .long)) (by decide +kernel)) (Nat.le_of_ble_eq_true rfl) (Nat.le_of_ble_eq_true rfl) (Nat.le_of_ble_eq_true rfl) (Nat.le_of_ble_eq_true rfl) dX2_greatestCommonDivisor_47 ?_
      refine W.eqs (st2 := [.long (labs d)]) rfl ?_
      exact W.lret (v := labs d) hx hb hr (fun t ht hW => ⟨labs d, rfl, (by rw [← hg9]; simp only [gcdF, if_neg h_2]), ht⟩) (fun q hq => absurd hq List.not_mem_nil) dX2_greatestCommonDivisor_50
    · exact absurd h_2 (nI_nlt (a := 1000) (b := 1000) (Nat.le_refl _) (by omega))
  · rintro k9 ih ⟨i, d, r, ls⟩ ⟨h9, hg9, hl⟩
    have h9 : i + (k9 + 1) = 1000 := h9
    have hg9 : gcdF (k9 + 1) d r = gcdF 1000 x y := hg9
    have hl : lv_has ls 11 [(4, .long d), (6, .long r), (8, .int (nI i))] := hl
    refine lv_iload hx hb dX2_greatestCommonDivisor_9 (lv_at hl 2 rfl) ?_
    refine lv_sipush (v := 1000) hx hb dX2_greatestCommonDivisor_11 (by decide) ?_
    refine ib_ge (tgt := 45) hx hb dX2_greatestCommonDivisor_14 (by decide) (fun h_3 => ?_) (fun h_3 => ?_)
    · exact absurd (nI_lt (a := i) (b := 1000) (by omega) (by omega)) h_3
    · refine lv_lload hx hb dX2_greatestCommonDivisor_17 (lv_at hl 1 rfl) ?_
      refine lv_lconst (v := 0) hx hb dX2_greatestCommonDivisor_19 (by decide) ?_
      refine il_eq (tgt := 45) hx hb dX2_greatestCommonDivisor_20 dX2_greatestCommonDivisor_21 (by decide) (fun h_4 => ?_) (fun h_4 => ?_)
      · refine lv_lload hx hb dX2_greatestCommonDivisor_45 (lv_at hl 0 rfl) ?_
        refine va_mabs_long hx hb (hml.trans hl.1.symm) hown (hts (.methodLink RX2 167 Lib.MathLoose.abs_long.x) (by decide +kernel)) (hts (.static Lib.MathLoose.abs_long.x) (by decide +kernel)) (hts (.initialized "java/lang/Math") (by decide +kernel)) (hts (.code Lib.MathLoose.abs_long.x Lib.MathLoose.abs_long.code 2 (some .long)) (by decide +kernel)) (Nat.le_of_ble_eq_true rfl) (Nat.le_of_ble_eq_true rfl) (Nat.le_of_ble_eq_true rfl) (Nat.le_of_ble_eq_true rfl) dX2_greatestCommonDivisor_47 ?_
        refine W.eqs (st2 := [.long (labs d)]) rfl ?_
        exact W.lret (v := labs d) hx hb hr (fun t ht hW => ⟨labs d, rfl, (by rw [← hg9]; simp only [gcdF, if_pos h_3, if_pos h_4]), ht⟩) (fun q hq => absurd hq List.not_mem_nil) dX2_greatestCommonDivisor_50
      · have h_nz := h_4
        refine lv_lload hx hb dX2_greatestCommonDivisor_24 (lv_at hl 0 rfl) ?_
        refine lv_lload hx hb dX2_greatestCommonDivisor_26 (lv_at hl 1 rfl) ?_
        refine lv_lrem hx hb dX2_greatestCommonDivisor_28 h_nz ?_
        refine lv_lstore (lv' := [(9, .long (d - d / r * r)), (4, .long d), (6, .long r), (8, .int (nI i))]) hx hb dX2_greatestCommonDivisor_29 hl (by decide) rfl (fun ls hl => ?_)
        refine lv_lload hx hb dX2_greatestCommonDivisor_31 (lv_at hl 2 rfl) ?_
        refine lv_lstore (lv' := [(4, .long r), (9, .long (d - d / r * r)), (6, .long r), (8, .int (nI i))]) hx hb dX2_greatestCommonDivisor_33 hl (by decide) rfl (fun ls hl => ?_)
        refine lv_lload hx hb dX2_greatestCommonDivisor_35 (lv_at hl 1 rfl) ?_
        refine lv_lstore (lv' := [(6, .long (d - d / r * r)), (4, .long r), (9, .long (d - d / r * r)), (8, .int (nI i))]) hx hb dX2_greatestCommonDivisor_37 hl (by decide) rfl (fun ls hl => ?_)
        refine lv_iinc (v := nI (i + 1)) (lv' := [(8, .int (nI (i + 1))), (6, .long (d - d / r * r)), (4, .long r), (9, .long (d - d / r * r))]) hx hb dX2_greatestCommonDivisor_39 hl (k := 3) rfl (nI_1 i) (by decide) rfl (fun ls hl => ?_)
        refine lv_goto (tgt := 9) hx hb dX2_greatestCommonDivisor_42 (by decide) ?_
        exact ih ((i + 1), r, (d - d / r * r), ls) ⟨by show i + 1 + k9 = 1000; omega, by rw [← hg9]; simp only [gcdF, if_pos h_3, if_neg h_4], lv_sub hl [2, 1, 0] rfl⟩
set_option maxRecDepth 20000 in
theorem iX1_takeCyclesOut_X1 : ∀ w ∈ wsX10, w ∈ wsX1_takeCyclesOut := by decide +kernel
set_option maxHeartbeats 4000000 in
set_option maxRecDepth 100000 in
theorem kX1_takeCyclesOut (l : Launch) (D : va_G) (cy : Nat → ClassId) (a : Nat → Nat) (n : Nat) (S : CS) (sz : Nat) (hp : cs_pc S ≤ 500) (hc : cs_pc S + 2 * cs_cyc S ≤ 514) : Met l yX1_takeCyclesOut wsX1_takeCyclesOut ({ frames := 1, cells := 0, slots := 0, locals := 24 }) (va_Pc [.ref (a 5)] (pX D cy a n S sz)) (va_Qv (fun u : CS => u = sTco 250 S) (eX D cy a n (va_A (wX cy a n S) sz)) (va_A (wX cy a n S) sz)) 0 0 (va_A (wX cy a n S) sz) := by
  refine Met.ofW (cc := cX1_takeCyclesOut) (maxL := 11) (ret := none) (by decide) rfl ?_
  intro p e s m args below meth c s₁ B hml hv
  obtain ⟨rfl, hsz, hP, hK, hD0, hN⟩ := hv
  have hx := B.exec
  have hb := B.bytes
  have hr := B.returns
  have hts := atoms_spec (ws := wsX1_takeCyclesOut) B.pre
  have hown : s.vm.findClass RX1 = some m.cls := findClass_of_methodNamed B.named
  have hlocks := B.notSynchronized
  subst hsz
  have hD := hD0.self (sz := s.heap.size)
  generalize hAe : va_A (wX cy a n S) s.heap.size = A at hD ⊢
  have hA : ∀ q : Nat, s.heap.size ≤ q → A q := fun q h => by rw [← hAe]; exact Or.inr h
  have hS : va_S A s.heap s.heap [] := va_S.rf
  have hl := lv_entry ([.ref (a 5)]) (n := 11) (Nat.le_of_ble_eq_true rfl)
  rw [lg_entry_eq]
  generalize (lg_sl ([.ref (a 5)]) ++ List.replicate (11 - (lg_sl ([.ref (a 5)])).length) Slot.unset).toArray = ls at hl ⊢
  have hl : lv_has ls 11 [(0, .ref (a 5))] := hl
  refine W.loopH (α := CS × Array Slot) (g := fun v9 => F0 m 0 v9.2 []) (fun k9 v9 H' L' => sTco k9 v9.1 = sTco 250 S ∧ cs_pc v9.1 ≤ 2 * k9 + 3 ∧ cs_pc v9.1 ≤ 500 ∧ cs_pc v9.1 + 2 * cs_cyc v9.1 ≤ 514 ∧ va_P D vwCl (wX cy a n v9.1) H' ∧ va_D A (wX cy a n v9.1) ∧ va_S A s.heap H' L' ∧ lv_has v9.2 11 [(0, .ref (a 5))]) ?_ ?_ 250 (S, ls) ⟨rfl, (by show cs_pc S ≤ 2 * 250 + 3; omega), hp, hc, hP, hD, hS, lv_sub hl [0] rfl⟩
  · rintro ⟨U, ls⟩ H1 locs1 ⟨hT, hb9, hp9, hc9, hP, hD, hS, hl⟩
    have hT : sTco 0 U = sTco 250 S := hT
    have hb9 : cs_pc U ≤ 2 * 0 + 3 := hb9
    have hl : lv_has ls 11 [(0, .ref (a 5))] := hl
    have hP : va_P D vwCl (wX cy a n U) H1 := hP
    have hD : va_D A (wX cy a n U) := hD
    refine lv_aload_n hx hb dX1_takeCyclesOut_0 rfl (lv_at hl 0 rfl) ?_
    refine va_get (D := D) (ci := 2) (v := .int (nI (cs_pc U))) (C := RX1) (T := TX1) (N := 5) hx hb hts iX1_takeCyclesOut_X1 hown hK hP 5 rfl rfl 3 (by decide) (hts (.fieldLink RX1 25 "CellRows2$Turns" "pointCount" "I") (by decide +kernel)) (fun _ h9 => h9) rfl dX1_takeCyclesOut_1 ?_
    refine lv_iconst (v := 4) hx hb dX1_takeCyclesOut_4 (by decide) ?_
    refine ib_lt (tgt := 132) hx hb dX1_takeCyclesOut_5 (by decide) (fun h_2 => ?_) (fun h_2 => ?_)
    · exact W.vret hx hb hr (fun t ht hW => ⟨⟨U, rfl, (by rw [← hT]; simp only [sTco, if_pos h_2]), by rw [ht]; exact hP, va_K.moved hW.alike hK, hD⟩, hS.F ht⟩) hS.2.2 dX1_takeCyclesOut_132
    · exact absurd (nI_lt (a := cs_pc U) (b := 4) (by omega) (by omega)) h_2
  · rintro k9 ih ⟨U, ls⟩ H1 locs1 ⟨hT, hb9, hp9, hc9, hP, hD, hS, hl⟩
    have hT : sTco (k9 + 1) U = sTco 250 S := hT
    have hb9 : cs_pc U ≤ 2 * (k9 + 1) + 3 := hb9
    have hp9 : cs_pc U ≤ 500 := hp9
    have hc9 : cs_pc U + 2 * cs_cyc U ≤ 514 := hc9
    have hl : lv_has ls 11 [(0, .ref (a 5))] := hl
    have hP : va_P D vwCl (wX cy a n U) H1 := hP
    have hD : va_D A (wX cy a n U) := hD
    refine lv_aload_n hx hb dX1_takeCyclesOut_0 rfl (lv_at hl 0 rfl) ?_
    refine va_get (D := D) (ci := 2) (v := .int (nI (cs_pc U))) (C := RX1) (T := TX1) (N := 5) hx hb hts iX1_takeCyclesOut_X1 hown hK hP 5 rfl rfl 3 (by decide) (hts (.fieldLink RX1 25 "CellRows2$Turns" "pointCount" "I") (by decide +kernel)) (fun _ h9 => h9) rfl dX1_takeCyclesOut_1 ?_
    refine lv_iconst (v := 4) hx hb dX1_takeCyclesOut_4 (by decide) ?_
    refine ib_lt (tgt := 132) hx hb dX1_takeCyclesOut_5 (by decide) (fun h_3 => ?_) (fun h_3 => ?_)
    · exact W.vret hx hb hr (fun t ht hW => ⟨⟨U, rfl, (by rw [← hT]; simp only [sTco, if_pos h_3]), by rw [ht]; exact hP, va_K.moved hW.alike hK, hD⟩, hS.F ht⟩) hS.2.2 dX1_takeCyclesOut_132
    · have g4 : 4 ≤ cs_pc U := nI_notlt (b := 4) (by omega) h_3
      refine lv_aload_n hx hb dX1_takeCyclesOut_8 rfl (lv_at hl 0 rfl) ?_
      refine va_get (D := D) (ci := 2) (v := .ref (a 6)) (C := RX1) (T := TX1) (N := 5) hx hb hts iX1_takeCyclesOut_X1 hown hK hP 5 rfl rfl 0 (by decide) (hts (.fieldLink RX1 9 "CellRows2$Turns" "points" "[J") (by decide +kernel)) (fun _ h9 => h9) rfl dX1_takeCyclesOut_9 ?_
      refine lv_aload_n hx hb dX1_takeCyclesOut_12 rfl (lv_at hl 0 rfl) ?_
      refine va_get (D := D) (ci := 2) (v := .int (nI (cs_pc U))) (C := RX1) (T := TX1) (N := 5) hx hb hts iX1_takeCyclesOut_X1 hown hK hP 5 rfl rfl 3 (by decide) (hts (.fieldLink RX1 25 "CellRows2$Turns" "pointCount" "I") (by decide +kernel)) (fun _ h9 => h9) rfl dX1_takeCyclesOut_13 ?_
      refine lv_iconst (v := 4) hx hb dX1_takeCyclesOut_16 (by decide) ?_
      refine lv_isub hx hb dX1_takeCyclesOut_17 ?_
      refine W.eqi (pk_sub (a := (cs_pc U)) (b := 4) (by omega)) ?_
      refine ra_l (f := (cs_pts U)) hx hb hK hP 6 4 rfl rfl ((cs_pc U) - 4) rfl (by omega) (Nat.le_of_ble_eq_true rfl) dX1_takeCyclesOut_18 ?_
      refine lv_lstore_n (lv' := [(1, .long ((cs_pts U) ((cs_pc U) - 4))), (0, .ref (a 5))]) hx hb dX1_takeCyclesOut_19 rfl hl (by decide) rfl (fun ls hl => ?_)
      refine lv_aload_n hx hb dX1_takeCyclesOut_20 rfl (lv_at hl 1 rfl) ?_
      refine va_get (D := D) (ci := 2) (v := .ref (a 6)) (C := RX1) (T := TX1) (N := 5) hx hb hts iX1_takeCyclesOut_X1 hown hK hP 5 rfl rfl 0 (by decide) (hts (.fieldLink RX1 9 "CellRows2$Turns" "points" "[J") (by decide +kernel)) (fun _ h9 => h9) rfl dX1_takeCyclesOut_21 ?_
      refine lv_aload_n hx hb dX1_takeCyclesOut_24 rfl (lv_at hl 1 rfl) ?_
      refine va_get (D := D) (ci := 2) (v := .int (nI (cs_pc U))) (C := RX1) (T := TX1) (N := 5) hx hb hts iX1_takeCyclesOut_X1 hown hK hP 5 rfl rfl 3 (by decide) (hts (.fieldLink RX1 25 "CellRows2$Turns" "pointCount" "I") (by decide +kernel)) (fun _ h9 => h9) rfl dX1_takeCyclesOut_25 ?_
      refine lv_iconst (v := 3) hx hb dX1_takeCyclesOut_28 (by decide) ?_
      refine lv_isub hx hb dX1_takeCyclesOut_29 ?_
      refine W.eqi (pk_sub (a := (cs_pc U)) (b := 3) (by omega)) ?_
      refine ra_l (f := (cs_pts U)) hx hb hK hP 6 4 rfl rfl ((cs_pc U) - 3) rfl (by omega) (Nat.le_of_ble_eq_true rfl) dX1_takeCyclesOut_30 ?_
      refine lv_lstore_n (lv' := [(3, .long ((cs_pts U) ((cs_pc U) - 3))), (1, .long ((cs_pts U) ((cs_pc U) - 4))), (0, .ref (a 5))]) hx hb dX1_takeCyclesOut_31 rfl hl (by decide) rfl (fun ls hl => ?_)
      refine lv_aload_n hx hb dX1_takeCyclesOut_32 rfl (lv_at hl 2 rfl) ?_
      refine va_get (D := D) (ci := 2) (v := .ref (a 6)) (C := RX1) (T := TX1) (N := 5) hx hb hts iX1_takeCyclesOut_X1 hown hK hP 5 rfl rfl 0 (by decide) (hts (.fieldLink RX1 9 "CellRows2$Turns" "points" "[J") (by decide +kernel)) (fun _ h9 => h9) rfl dX1_takeCyclesOut_33 ?_
      refine lv_aload_n hx hb dX1_takeCyclesOut_36 rfl (lv_at hl 2 rfl) ?_
      refine va_get (D := D) (ci := 2) (v := .int (nI (cs_pc U))) (C := RX1) (T := TX1) (N := 5) hx hb hts iX1_takeCyclesOut_X1 hown hK hP 5 rfl rfl 3 (by decide) (hts (.fieldLink RX1 25 "CellRows2$Turns" "pointCount" "I") (by decide +kernel)) (fun _ h9 => h9) rfl dX1_takeCyclesOut_37 ?_
      refine lv_iconst (v := 2) hx hb dX1_takeCyclesOut_40 (by decide) ?_
      refine lv_isub hx hb dX1_takeCyclesOut_41 ?_
      refine W.eqi (pk_sub (a := (cs_pc U)) (b := 2) (by omega)) ?_
      refine ra_l (f := (cs_pts U)) hx hb hK hP 6 4 rfl rfl ((cs_pc U) - 2) rfl (by omega) (Nat.le_of_ble_eq_true rfl) dX1_takeCyclesOut_42 ?_
      refine lv_lstore (lv' := [(5, .long ((cs_pts U) ((cs_pc U) - 2))), (3, .long ((cs_pts U) ((cs_pc U) - 3))), (1, .long ((cs_pts U) ((cs_pc U) - 4))), (0, .ref (a 5))]) hx hb dX1_takeCyclesOut_43 hl (by decide) rfl (fun ls hl => ?_)
      refine lv_aload_n hx hb dX1_takeCyclesOut_45 rfl (lv_at hl 3 rfl) ?_
      refine va_get (D := D) (ci := 2) (v := .ref (a 6)) (C := RX1) (T := TX1) (N := 5) hx hb hts iX1_takeCyclesOut_X1 hown hK hP 5 rfl rfl 0 (by decide) (hts (.fieldLink RX1 9 "CellRows2$Turns" "points" "[J") (by decide +kernel)) (fun _ h9 => h9) rfl dX1_takeCyclesOut_46 ?_
      refine lv_aload_n hx hb dX1_takeCyclesOut_49 rfl (lv_at hl 3 rfl) ?_
      refine va_get (D := D) (ci := 2) (v := .int (nI (cs_pc U))) (C := RX1) (T := TX1) (N := 5) hx hb hts iX1_takeCyclesOut_X1 hown hK hP 5 rfl rfl 3 (by decide) (hts (.fieldLink RX1 25 "CellRows2$Turns" "pointCount" "I") (by decide +kernel)) (fun _ h9 => h9) rfl dX1_takeCyclesOut_50 ?_
      refine lv_iconst (v := 1) hx hb dX1_takeCyclesOut_53 (by decide) ?_
      refine lv_isub hx hb dX1_takeCyclesOut_54 ?_
      refine W.eqi (pk_sub (a := (cs_pc U)) (b := 1) (by omega)) ?_
      refine ra_l (f := (cs_pts U)) hx hb hK hP 6 4 rfl rfl ((cs_pc U) - 1) rfl (by omega) (Nat.le_of_ble_eq_true rfl) dX1_takeCyclesOut_55 ?_
      refine lv_lstore (lv' := [(7, .long ((cs_pts U) ((cs_pc U) - 1))), (5, .long ((cs_pts U) ((cs_pc U) - 2))), (3, .long ((cs_pts U) ((cs_pc U) - 3))), (1, .long ((cs_pts U) ((cs_pc U) - 4))), (0, .ref (a 5))]) hx hb dX1_takeCyclesOut_56 hl (by decide) rfl (fun ls hl => ?_)
      refine lv_lload_n hx hb dX1_takeCyclesOut_58 rfl (lv_at hl 2 rfl) ?_
      refine lv_lload hx hb dX1_takeCyclesOut_59 (lv_at hl 1 rfl) ?_
      refine lv_lsub hx hb dX1_takeCyclesOut_61 ?_
      refine va_mabs_long hx hb (hml.trans hl.1.symm) hown (hts (.methodLink RX1 32 Lib.MathLoose.abs_long.x) (by decide +kernel)) (hts (.static Lib.MathLoose.abs_long.x) (by decide +kernel)) (hts (.initialized "java/lang/Math") (by decide +kernel)) (hts (.code Lib.MathLoose.abs_long.x Lib.MathLoose.abs_long.code 2 (some .long)) (by decide +kernel)) (Nat.le_of_ble_eq_true rfl) (Nat.le_of_ble_eq_true rfl) (Nat.le_of_ble_eq_true rfl) (Nat.le_of_ble_eq_true rfl) dX1_takeCyclesOut_62 ?_
      refine W.eqs (st2 := [.long (labs (((cs_pts U) ((cs_pc U) - 3)) - ((cs_pts U) ((cs_pc U) - 2))))]) rfl ?_
      refine lv_lstore (lv' := [(9, .long (labs (((cs_pts U) ((cs_pc U) - 3)) - ((cs_pts U) ((cs_pc U) - 2))))), (7, .long ((cs_pts U) ((cs_pc U) - 1))), (5, .long ((cs_pts U) ((cs_pc U) - 2))), (3, .long ((cs_pts U) ((cs_pc U) - 3))), (1, .long ((cs_pts U) ((cs_pc U) - 4))), (0, .ref (a 5))]) hx hb dX1_takeCyclesOut_65 hl (by decide) rfl (fun ls hl => ?_)
      refine lv_lload hx hb dX1_takeCyclesOut_67 (lv_at hl 0 rfl) ?_
      refine lv_lload_n hx hb dX1_takeCyclesOut_69 rfl (lv_at hl 4 rfl) ?_
      refine lv_lload_n hx hb dX1_takeCyclesOut_70 rfl (lv_at hl 3 rfl) ?_
      refine lv_lsub hx hb dX1_takeCyclesOut_71 ?_
      refine va_mabs_long hx hb (hml.trans hl.1.symm) hown (hts (.methodLink RX1 32 Lib.MathLoose.abs_long.x) (by decide +kernel)) (hts (.static Lib.MathLoose.abs_long.x) (by decide +kernel)) (hts (.initialized "java/lang/Math") (by decide +kernel)) (hts (.code Lib.MathLoose.abs_long.x Lib.MathLoose.abs_long.code 2 (some .long)) (by decide +kernel)) (Nat.le_of_ble_eq_true rfl) (Nat.le_of_ble_eq_true rfl) (Nat.le_of_ble_eq_true rfl) (Nat.le_of_ble_eq_true rfl) dX1_takeCyclesOut_72 ?_
      refine W.eqs (st2 := [.long (labs (((cs_pts U) ((cs_pc U) - 4)) - ((cs_pts U) ((cs_pc U) - 3)))), .long (labs (((cs_pts U) ((cs_pc U) - 3)) - ((cs_pts U) ((cs_pc U) - 2))))]) rfl ?_
      refine il_gt (tgt := 93) hx hb dX1_takeCyclesOut_75 dX1_takeCyclesOut_76 (by decide) (fun h_4 => ?_) (fun h_4 => ?_)
      · exact W.vret hx hb hr (fun t ht hW => ⟨⟨U, rfl, (by rw [← hT]; simp only [sTco, if_neg h_3, if_pos h_4]), by rw [ht]; exact hP, va_K.moved hW.alike hK, hD⟩, hS.F ht⟩) hS.2.2 dX1_takeCyclesOut_93
      · refine lv_lload hx hb dX1_takeCyclesOut_79 (lv_at hl 0 rfl) ?_
        refine lv_lload hx hb dX1_takeCyclesOut_81 (lv_at hl 2 rfl) ?_
        refine lv_lload hx hb dX1_takeCyclesOut_83 (lv_at hl 1 rfl) ?_
        refine lv_lsub hx hb dX1_takeCyclesOut_85 ?_
        refine va_mabs_long hx hb (hml.trans hl.1.symm) hown (hts (.methodLink RX1 32 Lib.MathLoose.abs_long.x) (by decide +kernel)) (hts (.static Lib.MathLoose.abs_long.x) (by decide +kernel)) (hts (.initialized "java/lang/Math") (by decide +kernel)) (hts (.code Lib.MathLoose.abs_long.x Lib.MathLoose.abs_long.code 2 (some .long)) (by decide +kernel)) (Nat.le_of_ble_eq_true rfl) (Nat.le_of_ble_eq_true rfl) (Nat.le_of_ble_eq_true rfl) (Nat.le_of_ble_eq_true rfl) dX1_takeCyclesOut_86 ?_
        refine W.eqs (st2 := [.long (labs (((cs_pts U) ((cs_pc U) - 2)) - ((cs_pts U) ((cs_pc U) - 1)))), .long (labs (((cs_pts U) ((cs_pc U) - 3)) - ((cs_pts U) ((cs_pc U) - 2))))]) rfl ?_
        refine il_le (tgt := 94) hx hb dX1_takeCyclesOut_89 dX1_takeCyclesOut_90 (by decide) (fun h_5 => ?_) (fun h_5 => ?_)
        · refine lv_aload_n hx hb dX1_takeCyclesOut_94 rfl (lv_at hl 5 rfl) ?_
          refine lv_lload hx hb dX1_takeCyclesOut_95 (lv_at hl 0 rfl) ?_
          refine lv_lload_n hx hb dX1_takeCyclesOut_97 rfl (lv_at hl 3 rfl) ?_
          refine lv_lload hx hb dX1_takeCyclesOut_98 (lv_at hl 2 rfl) ?_
          refine va_mmin_long hx hb (hml.trans hl.1.symm) hown (hts (.methodLink RX1 38 Lib.MathLoose.min_long.x) (by decide +kernel)) (hts (.static Lib.MathLoose.min_long.x) (by decide +kernel)) (hts (.initialized "java/lang/Math") (by decide +kernel)) (hts (.code Lib.MathLoose.min_long.x Lib.MathLoose.min_long.code 4 (some .long)) (by decide +kernel)) (Nat.le_of_ble_eq_true rfl) (Nat.le_of_ble_eq_true rfl) (Nat.le_of_ble_eq_true rfl) (Nat.le_of_ble_eq_true rfl) dX1_takeCyclesOut_100 ?_
          have hSo := hS
          refine va_callv (va_runV (As := [.long (labs (((cs_pts U) ((cs_pc U) - 3)) - ((cs_pts U) ((cs_pc U) - 2)))), .long (if (cs_pts U) ((cs_pc U) - 2) < (cs_pts U) ((cs_pc U) - 3) then (cs_pts U) ((cs_pc U) - 2) else (cs_pts U) ((cs_pc U) - 3))]) (rest := []) ⟨hx, hb, hml, hown, hts⟩ (kX1_keepCycle l D cy a n U H1.size (labs (((cs_pts U) ((cs_pc U) - 3)) - ((cs_pts U) ((cs_pc U) - 2)))) (if (cs_pts U) ((cs_pc U) - 2) < (cs_pts U) ((cs_pc U) - 3) then (cs_pts U) ((cs_pc U) - 2) else (cs_pts U) ((cs_pc U) - 3)) (by omega)) (cwV 2 hts gX1_takeCyclesOut_X1_keepCycle rfl rfl rfl (by decide +kernel) ⟨Nat.le_of_ble_eq_true rfl, Nat.le_of_ble_eq_true rfl⟩) ⟨pX_blind, va_recv hK hP (ci := 2) (q0 := 5) rfl rfl, fun U hU hW => ⟨rfl, pX_mk hP hK hD hN hU hW⟩⟩ rfl rfl hl.1 rfl (lv_room (Nat.le_of_ble_eq_true rfl)) dX1_takeCyclesOut_103 ⟨Nat.le_of_ble_eq_true rfl, Nat.le_of_ble_eq_true rfl⟩) hS (fun q _ h => freeAll hD hS hA q h) (freeAll hD hS hA) (fun u6 t6 H6 locs6 ht hvm hw hB hz1 hk1 hS => ?_)
          obtain ⟨hP1, hK1, hD1⟩ := hB
          rw [ht] at hP1
          have hK := va_K.moved hvm.symm hK1
          obtain rfl : u6 = sKeep U (labs (((cs_pts U) ((cs_pc U) - 3)) - ((cs_pts U) ((cs_pc U) - 2)))) (if (cs_pts U) ((cs_pc U) - 2) < (cs_pts U) ((cs_pc U) - 3) then (cs_pts U) ((cs_pc U) - 2) else (cs_pts U) ((cs_pc U) - 3)) := hw
          have hD := hD1.weaken (fun _ q _ h => freeAll hD hSo hA q.1 h)
          have hP := hP1
          refine lv_aload_n hx hb dX1_takeCyclesOut_106 rfl (lv_at hl 5 rfl) ?_
          refine va_get (D := D) (ci := 2) (v := .ref (a 6)) (C := RX1) (T := TX1) (N := 5) hx hb hts iX1_takeCyclesOut_X1 hown hK hP 5 rfl rfl 0 (by decide) (hts (.fieldLink RX1 9 "CellRows2$Turns" "points" "[J") (by decide +kernel)) (fun _ h9 => h9) rfl dX1_takeCyclesOut_107 ?_
          refine lv_aload_n hx hb dX1_takeCyclesOut_110 rfl (lv_at hl 5 rfl) ?_
          refine va_get (D := D) (ci := 2) (v := .int (nI (cs_pc U))) (C := RX1) (T := TX1) (N := 5) hx hb hts iX1_takeCyclesOut_X1 hown hK hP 5 rfl rfl 3 (by decide) (hts (.fieldLink RX1 25 "CellRows2$Turns" "pointCount" "I") (by decide +kernel)) (fun _ h9 => h9) rfl dX1_takeCyclesOut_111 ?_
          refine lv_iconst (v := 3) hx hb dX1_takeCyclesOut_114 (by decide) ?_
          refine lv_isub hx hb dX1_takeCyclesOut_115 ?_
          refine W.eqi (pk_sub (a := (cs_pc U)) (b := 3) (by omega)) ?_
          refine lv_lload hx hb dX1_takeCyclesOut_116 (lv_at hl 1 rfl) ?_
          refine rs_l (f := (cs_pts U)) hx hb hK hP hD hS 6 4 rfl rfl ((cs_pc U) - 3) rfl (by omega) (Nat.le_of_ble_eq_true rfl) dX1_takeCyclesOut_118 (fun H7 locs7 hP hD hS => ?_)
          have hP : va_P D vwCl (wX cy a n (cs_set_pts (sKeep U (labs (((cs_pts U) ((cs_pc U) - 3)) - ((cs_pts U) ((cs_pc U) - 2)))) (if (cs_pts U) ((cs_pc U) - 2) < (cs_pts U) ((cs_pc U) - 3) then (cs_pts U) ((cs_pc U) - 2) else (cs_pts U) ((cs_pc U) - 3))) (va_up (cs_pts U) ((cs_pc U) - 3) ((cs_pts U) ((cs_pc U) - 1))))) H7 := hP
          have hD : va_D A (wX cy a n (cs_set_pts (sKeep U (labs (((cs_pts U) ((cs_pc U) - 3)) - ((cs_pts U) ((cs_pc U) - 2)))) (if (cs_pts U) ((cs_pc U) - 2) < (cs_pts U) ((cs_pc U) - 3) then (cs_pts U) ((cs_pc U) - 2) else (cs_pts U) ((cs_pc U) - 3))) (va_up (cs_pts U) ((cs_pc U) - 3) ((cs_pts U) ((cs_pc U) - 1))))) := hD
          refine lv_aload_n hx hb dX1_takeCyclesOut_119 rfl (lv_at hl 5 rfl) ?_
          refine lv_dup hx hb dX1_takeCyclesOut_120 rfl ?_
          refine va_get (D := D) (ci := 2) (v := .int (nI (cs_pc U))) (C := RX1) (T := TX1) (N := 5) hx hb hts iX1_takeCyclesOut_X1 hown hK hP 5 rfl rfl 3 (by decide) (hts (.fieldLink RX1 25 "CellRows2$Turns" "pointCount" "I") (by decide +kernel)) (fun _ h9 => h9) rfl dX1_takeCyclesOut_121 ?_
          refine lv_iconst (v := 2) hx hb dX1_takeCyclesOut_124 (by decide) ?_
          refine lv_isub hx hb dX1_takeCyclesOut_125 ?_
          refine W.eqi (pk_sub (a := (cs_pc U)) (b := 2) (by omega)) ?_
          refine va_put (D := D) (ci := 2) (v := .int (nI ((cs_pc U) - 2))) (ty := .int) (C := RX1) (T := TX1) (N := 5) hx hb hts iX1_takeCyclesOut_X1 tyX1 tyX1_ok nmX1 hown hK hP hD hS 5 rfl rfl 3 (by decide) (hts (.fieldLink RX1 25 "CellRows2$Turns" "pointCount" "I") (by decide +kernel)) (fun _ h9 => h9) rfl (by decide +kernel) rfl rfl (Nat.le_of_ble_eq_true rfl) dX1_takeCyclesOut_126 (fun H8 locs8 hP hD hS => ?_)
          have hP : va_P D vwCl (wX cy a n (cs_set_pc (cs_set_pts (sKeep U (labs (((cs_pts U) ((cs_pc U) - 3)) - ((cs_pts U) ((cs_pc U) - 2)))) (if (cs_pts U) ((cs_pc U) - 2) < (cs_pts U) ((cs_pc U) - 3) then (cs_pts U) ((cs_pc U) - 2) else (cs_pts U) ((cs_pc U) - 3))) (va_up (cs_pts U) ((cs_pc U) - 3) ((cs_pts U) ((cs_pc U) - 1)))) ((cs_pc U) - 2))) H8 := hP
          have hD : va_D A (wX cy a n (cs_set_pc (cs_set_pts (sKeep U (labs (((cs_pts U) ((cs_pc U) - 3)) - ((cs_pts U) ((cs_pc U) - 2)))) (if (cs_pts U) ((cs_pc U) - 2) < (cs_pts U) ((cs_pc U) - 3) then (cs_pts U) ((cs_pc U) - 2) else (cs_pts U) ((cs_pc U) - 3))) (va_up (cs_pts U) ((cs_pc U) - 3) ((cs_pts U) ((cs_pc U) - 1)))) ((cs_pc U) - 2))) := hD
          refine lv_goto (tgt := 0) hx hb dX1_takeCyclesOut_129 (by decide) ?_
          exact ih ((cs_set_pc (cs_set_pts (sKeep U (labs (((cs_pts U) ((cs_pc U) - 3)) - ((cs_pts U) ((cs_pc U) - 2)))) (if (cs_pts U) ((cs_pc U) - 2) < (cs_pts U) ((cs_pc U) - 3) then (cs_pts U) ((cs_pc U) - 2) else (cs_pts U) ((cs_pc U) - 3))) (va_up (cs_pts U) ((cs_pc U) - 3) ((cs_pts U) ((cs_pc U) - 1)))) ((cs_pc U) - 2)), ls) _ _ ⟨(by rw [← hT]; simp only [sTco, if_neg h_3, if_neg h_4, if_neg h_5] <;> rfl), (by show cs_pc U - 2 ≤ 2 * k9 + 3; omega), (by show cs_pc U - 2 ≤ 500; omega), (by show cs_pc U - 2 + 2 * (cs_cyc U + 1) ≤ 514; omega), hP, hD, hS, lv_sub hl [5] rfl⟩
        · exact W.vret hx hb hr (fun t ht hW => ⟨⟨U, rfl, (by rw [← hT]; simp only [sTco, if_neg h_3, if_neg h_4, if_pos h_5]), by rw [ht]; exact hP, va_K.moved hW.alike hK, hD⟩, hS.F ht⟩) hS.2.2 dX1_takeCyclesOut_93
set_option maxRecDepth 20000 in
theorem iX1_follow_X1 : ∀ w ∈ wsX10, w ∈ wsX1_follow := by decide +kernel
set_option maxHeartbeats 4000000 in
set_option maxRecDepth 100000 in
theorem kX1_follow (l : Launch) (D : va_G) (cy : Nat → ClassId) (a : Nat → Nat) (n : Nat) (S : CS) (sz : Nat) (v : Int64) (hp : cs_pc S ≤ 500) (hc : cs_pc S + 2 * cs_cyc S ≤ 513) : Met l yX1_follow wsX1_follow ({ frames := 2, cells := 0, slots := 0, locals := 54 }) (va_Pc [.ref (a 5), .long v] (pX D cy a n S sz)) (va_Qv (fun u : CS => u = sFol S v) (eX D cy a n (va_A (wX cy a n S) sz)) (va_A (wX cy a n S) sz)) 0 0 (va_A (wX cy a n S) sz) := by
  refine Met.ofW (cc := cX1_follow) (maxL := 3) (ret := none) (by decide) rfl ?_
  intro p e s m args below meth c s₁ B hml hv
  obtain ⟨rfl, hsz, hP, hK, hD0, hN⟩ := hv
  have hx := B.exec
  have hb := B.bytes
  have hr := B.returns
  have hts := atoms_spec (ws := wsX1_follow) B.pre
  have hown : s.vm.findClass RX1 = some m.cls := findClass_of_methodNamed B.named
  have hlocks := B.notSynchronized
  subst hsz
  have hD := hD0.self (sz := s.heap.size)
  generalize hAe : va_A (wX cy a n S) s.heap.size = A at hD ⊢
  have hA : ∀ q : Nat, s.heap.size ≤ q → A q := fun q h => by rw [← hAe]; exact Or.inr h
  have hS : va_S A s.heap s.heap [] := va_S.rf
  have hl := lv_entry ([.ref (a 5), .long v]) (n := 3) (Nat.le_of_ble_eq_true rfl)
  rw [lg_entry_eq]
  generalize (lg_sl ([.ref (a 5), .long v]) ++ List.replicate (3 - (lg_sl ([.ref (a 5), .long v])).length) Slot.unset).toArray = ls at hl ⊢
  have hl : lv_has ls 3 [(0, .ref (a 5)), (1, .long v)] := hl
  refine lv_aload_n hx hb dX1_follow_0 rfl (lv_at hl 0 rfl) ?_
  refine lv_lload_n hx hb dX1_follow_1 rfl (lv_at hl 1 rfl) ?_
  refine vp_callSi (W.runV (As := [.long v]) (rest := []) ⟨hx, hb, hml, hown, hts⟩ (kX1_goesOn l D cy a n S s.heap.size v (by omega)) (cwV 1 hts gX1_follow_X1_goesOn rfl rfl rfl (by decide +kernel) ⟨Nat.le_of_ble_eq_true rfl, Nat.le_of_ble_eq_true rfl⟩) ⟨pX_blind, va_recv hK hP (ci := 2) (q0 := 5) rfl rfl, fun U hU hW => ⟨rfl, pX_mk hP hK hD hN hU hW⟩⟩ rfl rfl hl.1 rfl (lv_room (Nat.le_of_ble_eq_true rfl)) dX1_follow_2 ⟨Nat.le_of_ble_eq_true rfl, Nat.le_of_ble_eq_true rfl⟩) (fun r1 hr1 => ?_)
  obtain rfl : r1 = sGo (cs_pts S) (cs_pc S) v := hr1
  refine iz_eq (tgt := 23) hx hb dX1_follow_5 (by decide) (fun h_2 => ?_) (fun h_2 => ?_)
  · refine lv_aload_n hx hb dX1_follow_23 rfl (lv_at hl 0 rfl) ?_
    refine va_get (D := D) (ci := 2) (v := .int (nI (cs_pc S))) (C := RX1) (T := TX1) (N := 5) hx hb hts iX1_follow_X1 hown hK hP 5 rfl rfl 3 (by decide) (hts (.fieldLink RX1 25 "CellRows2$Turns" "pointCount" "I") (by decide +kernel)) (fun _ h9 => h9) rfl dX1_follow_24 ?_
    refine lv_aload_n hx hb dX1_follow_27 rfl (lv_at hl 0 rfl) ?_
    refine va_get (D := D) (ci := 2) (v := .ref (a 6)) (C := RX1) (T := TX1) (N := 5) hx hb hts iX1_follow_X1 hown hK hP 5 rfl rfl 0 (by decide) (hts (.fieldLink RX1 9 "CellRows2$Turns" "points" "[J") (by decide +kernel)) (fun _ h9 => h9) rfl dX1_follow_28 ?_
    refine va_alen (v := nI 500) hx hb hK hP 6 4 rfl rfl rfl dX1_follow_31 ?_
    refine ib_ge (tgt := 55) hx hb dX1_follow_32 (by decide) (fun h_3 => ?_) (fun h_3 => ?_)
    · refine lv_aload_n hx hb dX1_follow_55 rfl (lv_at hl 0 rfl) ?_
      have hSo := hS
      refine va_callv (va_runV (As := []) (rest := []) ⟨hx, hb, hml, hown, hts⟩ (kX1_takeCyclesOut l D cy a n S s.heap.size (by first | exact hp | (show cs_pc S + 1 ≤ 500; omega)) (by first | (show cs_pc S + 2 * cs_cyc S ≤ 514; omega) | (show cs_pc S + 1 + 2 * cs_cyc S ≤ 514; omega))) (cwV 0 hts gX1_follow_X1_takeCyclesOut rfl rfl rfl (by decide +kernel) ⟨Nat.le_of_ble_eq_true rfl, Nat.le_of_ble_eq_true rfl⟩) ⟨pX_blind, va_recv hK hP (ci := 2) (q0 := 5) rfl rfl, fun U hU hW => ⟨rfl, pX_mk hP hK hD hN hU hW⟩⟩ rfl rfl hl.1 rfl (lv_room (Nat.le_of_ble_eq_true rfl)) dX1_follow_56 ⟨Nat.le_of_ble_eq_true rfl, Nat.le_of_ble_eq_true rfl⟩) hS (fun q _ h => freeAll hD hS hA q h) (freeAll hD hS hA) (fun u4 t4 H4 locs4 ht hvm hw hB hz1 hk1 hS => ?_)
      obtain ⟨hP1, hK1, hD1⟩ := hB
      rw [ht] at hP1
      have hK := va_K.moved hvm.symm hK1
      obtain rfl : u4 = sTco 250 S := hw
      have hD := hD1.weaken (fun _ q _ h => freeAll hD hSo hA q.1 h)
      have hP := hP1
      exact W.vret hx hb hr (fun t ht hW => ⟨⟨sTco 250 S, rfl, (by simp only [sFol, sPut, if_pos h_2, if_neg h_3]), by rw [ht]; exact hP, va_K.moved hW.alike hK, hD⟩, hS.F ht⟩) hS.2.2 dX1_follow_59
    · have g5 : cs_pc S < 500 := nI_islt (by omega) (by omega) h_3
      refine lv_aload_n hx hb dX1_follow_35 rfl (lv_at hl 0 rfl) ?_
      refine va_get (D := D) (ci := 2) (v := .ref (a 6)) (C := RX1) (T := TX1) (N := 5) hx hb hts iX1_follow_X1 hown hK hP 5 rfl rfl 0 (by decide) (hts (.fieldLink RX1 9 "CellRows2$Turns" "points" "[J") (by decide +kernel)) (fun _ h9 => h9) rfl dX1_follow_36 ?_
      refine lv_aload_n hx hb dX1_follow_39 rfl (lv_at hl 0 rfl) ?_
      refine va_get (D := D) (ci := 2) (v := .int (nI (cs_pc S))) (C := RX1) (T := TX1) (N := 5) hx hb hts iX1_follow_X1 hown hK hP 5 rfl rfl 3 (by decide) (hts (.fieldLink RX1 25 "CellRows2$Turns" "pointCount" "I") (by decide +kernel)) (fun _ h9 => h9) rfl dX1_follow_40 ?_
      refine lv_lload_n hx hb dX1_follow_43 rfl (lv_at hl 1 rfl) ?_
      refine rs_l (f := (cs_pts S)) hx hb hK hP hD hS 6 4 rfl rfl (cs_pc S) rfl (by omega) (Nat.le_of_ble_eq_true rfl) dX1_follow_44 (fun H5 locs5 hP hD hS => ?_)
      have hP : va_P D vwCl (wX cy a n (cs_set_pts S (va_up (cs_pts S) (cs_pc S) v))) H5 := hP
      have hD : va_D A (wX cy a n (cs_set_pts S (va_up (cs_pts S) (cs_pc S) v))) := hD
      refine lv_aload_n hx hb dX1_follow_45 rfl (lv_at hl 0 rfl) ?_
      refine lv_dup hx hb dX1_follow_46 rfl ?_
      refine va_get (D := D) (ci := 2) (v := .int (nI (cs_pc S))) (C := RX1) (T := TX1) (N := 5) hx hb hts iX1_follow_X1 hown hK hP 5 rfl rfl 3 (by decide) (hts (.fieldLink RX1 25 "CellRows2$Turns" "pointCount" "I") (by decide +kernel)) (fun _ h9 => h9) rfl dX1_follow_47 ?_
      refine lv_iconst (v := 1) hx hb dX1_follow_50 (by decide) ?_
      refine lv_iadd hx hb dX1_follow_51 ?_
      refine W.eqi (nI_1 (cs_pc S)) ?_
      refine va_put (D := D) (ci := 2) (v := .int (nI ((cs_pc S) + 1))) (ty := .int) (C := RX1) (T := TX1) (N := 5) hx hb hts iX1_follow_X1 tyX1 tyX1_ok nmX1 hown hK hP hD hS 5 rfl rfl 3 (by decide) (hts (.fieldLink RX1 25 "CellRows2$Turns" "pointCount" "I") (by decide +kernel)) (fun _ h9 => h9) rfl (by decide +kernel) rfl rfl (Nat.le_of_ble_eq_true rfl) dX1_follow_52 (fun H6 locs6 hP hD hS => ?_)
      have hP : va_P D vwCl (wX cy a n (cs_set_pc (cs_set_pts S (va_up (cs_pts S) (cs_pc S) v)) ((cs_pc S) + 1))) H6 := hP
      have hD : va_D A (wX cy a n (cs_set_pc (cs_set_pts S (va_up (cs_pts S) (cs_pc S) v)) ((cs_pc S) + 1))) := hD
      refine lv_aload_n hx hb dX1_follow_55 rfl (lv_at hl 0 rfl) ?_
      have hSo := hS
      refine va_callv (va_runV (As := []) (rest := []) ⟨hx, hb, hml, hown, hts⟩ (kX1_takeCyclesOut l D cy a n (cs_set_pc (cs_set_pts S (va_up (cs_pts S) (cs_pc S) v)) ((cs_pc S) + 1)) H6.size (by first | exact hp | (show cs_pc S + 1 ≤ 500; omega)) (by first | (show cs_pc S + 2 * cs_cyc S ≤ 514; omega) | (show cs_pc S + 1 + 2 * cs_cyc S ≤ 514; omega))) (cwV 0 hts gX1_follow_X1_takeCyclesOut rfl rfl rfl (by decide +kernel) ⟨Nat.le_of_ble_eq_true rfl, Nat.le_of_ble_eq_true rfl⟩) ⟨pX_blind, va_recv hK hP (ci := 2) (q0 := 5) rfl rfl, fun U hU hW => ⟨rfl, pX_mk hP hK hD hN hU hW⟩⟩ rfl rfl hl.1 rfl (lv_room (Nat.le_of_ble_eq_true rfl)) dX1_follow_56 ⟨Nat.le_of_ble_eq_true rfl, Nat.le_of_ble_eq_true rfl⟩) hS (fun q _ h => freeAll hD hS hA q h) (freeAll hD hS hA) (fun u7 t7 H7 locs7 ht hvm hw hB hz1 hk1 hS => ?_)
      obtain ⟨hP1, hK1, hD1⟩ := hB
      rw [ht] at hP1
      have hK := va_K.moved hvm.symm hK1
      obtain rfl : u7 = sTco 250 (cs_set_pc (cs_set_pts S (va_up (cs_pts S) (cs_pc S) v)) ((cs_pc S) + 1)) := hw
      have hD := hD1.weaken (fun _ q _ h => freeAll hD hSo hA q.1 h)
      have hP := hP1
      exact W.vret hx hb hr (fun t ht hW => ⟨⟨sTco 250 (cs_set_pc (cs_set_pts S (va_up (cs_pts S) (cs_pc S) v)) ((cs_pc S) + 1)), rfl, (by simp only [sFol, sPut, if_pos h_2, if_pos h_3]), by rw [ht]; exact hP, va_K.moved hW.alike hK, hD⟩, hS.F ht⟩) hS.2.2 dX1_follow_59
  · have g1 : 1 ≤ cs_pc S := sGo_pos h_2
    refine lv_aload_n hx hb dX1_follow_8 rfl (lv_at hl 0 rfl) ?_
    refine va_get (D := D) (ci := 2) (v := .ref (a 6)) (C := RX1) (T := TX1) (N := 5) hx hb hts iX1_follow_X1 hown hK hP 5 rfl rfl 0 (by decide) (hts (.fieldLink RX1 9 "CellRows2$Turns" "points" "[J") (by decide +kernel)) (fun _ h9 => h9) rfl dX1_follow_9 ?_
    refine lv_aload_n hx hb dX1_follow_12 rfl (lv_at hl 0 rfl) ?_
    refine va_get (D := D) (ci := 2) (v := .int (nI (cs_pc S))) (C := RX1) (T := TX1) (N := 5) hx hb hts iX1_follow_X1 hown hK hP 5 rfl rfl 3 (by decide) (hts (.fieldLink RX1 25 "CellRows2$Turns" "pointCount" "I") (by decide +kernel)) (fun _ h9 => h9) rfl dX1_follow_13 ?_
    refine lv_iconst (v := 1) hx hb dX1_follow_16 (by decide) ?_
    refine lv_isub hx hb dX1_follow_17 ?_
    refine W.eqi (pk_sub (a := (cs_pc S)) (b := 1) (by omega)) ?_
    refine lv_lload_n hx hb dX1_follow_18 rfl (lv_at hl 1 rfl) ?_
    refine rs_l (f := (cs_pts S)) hx hb hK hP hD hS 6 4 rfl rfl ((cs_pc S) - 1) rfl (by omega) (Nat.le_of_ble_eq_true rfl) dX1_follow_19 (fun H8 locs8 hP hD hS => ?_)
    have hP : va_P D vwCl (wX cy a n (cs_set_pts S (va_up (cs_pts S) ((cs_pc S) - 1) v))) H8 := hP
    have hD : va_D A (wX cy a n (cs_set_pts S (va_up (cs_pts S) ((cs_pc S) - 1) v))) := hD
    refine lv_goto (tgt := 55) hx hb dX1_follow_20 (by decide) ?_
    refine lv_aload_n hx hb dX1_follow_55 rfl (lv_at hl 0 rfl) ?_
    have hSo := hS
    refine va_callv (va_runV (As := []) (rest := []) ⟨hx, hb, hml, hown, hts⟩ (kX1_takeCyclesOut l D cy a n (cs_set_pts S (va_up (cs_pts S) ((cs_pc S) - 1) v)) H8.size (by first | exact hp | (show cs_pc S + 1 ≤ 500; omega)) (by first | (show cs_pc S + 2 * cs_cyc S ≤ 514; omega) | (show cs_pc S + 1 + 2 * cs_cyc S ≤ 514; omega))) (cwV 0 hts gX1_follow_X1_takeCyclesOut rfl rfl rfl (by decide +kernel) ⟨Nat.le_of_ble_eq_true rfl, Nat.le_of_ble_eq_true rfl⟩) ⟨pX_blind, va_recv hK hP (ci := 2) (q0 := 5) rfl rfl, fun U hU hW => ⟨rfl, pX_mk hP hK hD hN hU hW⟩⟩ rfl rfl hl.1 rfl (lv_room (Nat.le_of_ble_eq_true rfl)) dX1_follow_56 ⟨Nat.le_of_ble_eq_true rfl, Nat.le_of_ble_eq_true rfl⟩) hS (fun q _ h => freeAll hD hS hA q h) (freeAll hD hS hA) (fun u9 t9 H9 locs9 ht hvm hw hB hz1 hk1 hS => ?_)
    obtain ⟨hP1, hK1, hD1⟩ := hB
    rw [ht] at hP1
    have hK := va_K.moved hvm.symm hK1
    obtain rfl : u9 = sTco 250 (cs_set_pts S (va_up (cs_pts S) ((cs_pc S) - 1) v)) := hw
    have hD := hD1.weaken (fun _ q _ h => freeAll hD hSo hA q.1 h)
    have hP := hP1
    exact W.vret hx hb hr (fun t ht hW => ⟨⟨sTco 250 (cs_set_pts S (va_up (cs_pts S) ((cs_pc S) - 1) v)), rfl, (by simp only [sFol, sPut, if_neg h_2]), by rw [ht]; exact hP, va_K.moved hW.alike hK, hD⟩, hS.F ht⟩) hS.2.2 dX1_follow_59
set_option maxRecDepth 20000 in
theorem iX0_take_X0 : ∀ w ∈ wsX00, w ∈ wsX0_take := by decide +kernel
set_option maxHeartbeats 4000000 in
set_option maxRecDepth 100000 in
theorem kX0_take (l : Launch) (D : va_G) (cy : Nat → ClassId) (a : Nat → Nat) (n : Nat) (S : CS) (sz : Nat) (j : Nat) (hj : j < n) (cur vo wa cap : Int64) (he : okD 1026 (cs_es S j)) : Met l yX0_take wsX0_take ({ frames := 1, cells := 0, slots := 0, locals := 21 }) (va_Pc [.ref (a (9 + j)), .long cur, .long vo, .long wa, .long cap] (pX D cy a n S sz)) (va_Qv (fun u : CS => u = sTake S j cur vo wa cap) (eX D cy a n (va_A (wX cy a n S) sz)) (va_A (wX cy a n S) sz)) 0 0 (va_A (wX cy a n S) sz) := by
  refine Met.ofW (cc := cX0_take) (maxL := 15) (ret := none) (by decide) rfl ?_
  intro p e s m args below meth c s₁ B hml hv
  obtain ⟨rfl, hsz, hP, hK, hD0, hN⟩ := hv
  have hx := B.exec
  have hb := B.bytes
  have hr := B.returns
  have hts := atoms_spec (ws := wsX0_take) B.pre
  have hown : s.vm.findClass RX0 = some m.cls := findClass_of_methodNamed B.named
  have hlocks := B.notSynchronized
  subst hsz
  have hD := hD0.self (sz := s.heap.size)
  generalize hAe : va_A (wX cy a n S) s.heap.size = A at hD ⊢
  have hA : ∀ q : Nat, s.heap.size ≤ q → A q := fun q h => by rw [← hAe]; exact Or.inr h
  have hS : va_S A s.heap s.heap [] := va_S.rf
  have hl := lv_entry ([.ref (a (9 + j)), .long cur, .long vo, .long wa, .long cap]) (n := 15) (Nat.le_of_ble_eq_true rfl)
  rw [lg_entry_eq]
  generalize (lg_sl ([.ref (a (9 + j)), .long cur, .long vo, .long wa, .long cap]) ++ List.replicate (15 - (lg_sl ([.ref (a (9 + j)), .long cur, .long vo, .long wa, .long cap])).length) Slot.unset).toArray = ls at hl ⊢
  have hl : lv_has ls 15 [(0, .ref (a (9 + j))), (1, .long cur), (3, .long vo), (5, .long wa), (7, .long cap)] := hl
  refine lv_aload_n hx hb dX0_take_0 rfl (lv_at hl 0 rfl) ?_
  refine lv_lload_n hx hb dX0_take_1 rfl (lv_at hl 2 rfl) ?_
  refine va_put (D := D) (ci := 1) (v := .long vo) (ty := .long) (C := RX0) (T := TX0) (N := 6) hx hb hts iX0_take_X0 tyX0 tyX0_ok nmX0 hown hK hP hD hS (9 + j) (wX_c hj) rfl 2 (by decide) (hts (.fieldLink RX0 25 "CellRows2$Cell" "voltage" "J") (by decide +kernel)) (fun _ h9 => h9) rfl (by decide +kernel) rfl rfl (Nat.le_of_ble_eq_true rfl) dX0_take_2 (fun H1 locs1 hP hD hS => ?_)
  have hP : va_P D vwCl (wX cy a n (cs_set_vo S (va_up (cs_vo S) j vo))) H1 := by show va_P D vwCl (wX cy a n (cs_set_vo S (va_up (cs_vo S) j vo))) H1; rw [← wX_set_vo S j vo]; exact hP
  have hD : va_D A (wX cy a n (cs_set_vo S (va_up (cs_vo S) j vo))) := by show va_D A (wX cy a n (cs_set_vo S (va_up (cs_vo S) j vo))); rw [← wX_set_vo S j vo]; exact hD
  refine lv_aload_n hx hb dX0_take_5 rfl (lv_at hl 0 rfl) ?_
  refine lv_lload hx hb dX0_take_6 (lv_at hl 3 rfl) ?_
  refine va_put (D := D) (ci := 1) (v := .long wa) (ty := .long) (C := RX0) (T := TX0) (N := 6) hx hb hts iX0_take_X0 tyX0 tyX0_ok nmX0 hown hK hP hD hS (9 + j) (wX_c hj) rfl 3 (by decide) (hts (.fieldLink RX0 30 "CellRows2$Cell" "warmth" "J") (by decide +kernel)) (fun _ h9 => h9) rfl (by decide +kernel) rfl rfl (Nat.le_of_ble_eq_true rfl) dX0_take_8 (fun H2 locs2 hP hD hS => ?_)
  have hP : va_P D vwCl (wX cy a n (cs_set_wa (cs_set_vo S (va_up (cs_vo S) j vo)) (va_up (cs_wa S) j wa))) H2 := by show va_P D vwCl (wX cy a n (cs_set_wa (cs_set_vo S (va_up (cs_vo S) j vo)) (va_up (cs_wa (cs_set_vo S (va_up (cs_vo S) j vo))) j wa))) H2; rw [← wX_set_wa (cs_set_vo S (va_up (cs_vo S) j vo)) j wa]; exact hP
  have hD : va_D A (wX cy a n (cs_set_wa (cs_set_vo S (va_up (cs_vo S) j vo)) (va_up (cs_wa S) j wa))) := by show va_D A (wX cy a n (cs_set_wa (cs_set_vo S (va_up (cs_vo S) j vo)) (va_up (cs_wa (cs_set_vo S (va_up (cs_vo S) j vo))) j wa))); rw [← wX_set_wa (cs_set_vo S (va_up (cs_vo S) j vo)) j wa]; exact hD
  refine lv_aload_n hx hb dX0_take_11 rfl (lv_at hl 0 rfl) ?_
  refine lv_dup hx hb dX0_take_12 rfl ?_
  refine va_get (D := D) (ci := 1) (v := .long ((cs_ch S) j)) (C := RX0) (T := TX0) (N := 6) hx hb hts iX0_take_X0 hown hK hP (9 + j) (wX_c hj) rfl 0 (by decide) (hts (.fieldLink RX0 11 "CellRows2$Cell" "charge" "J") (by decide +kernel)) (fun _ h9 => h9) rfl dX0_take_13 ?_
  refine lv_aload_n hx hb dX0_take_16 rfl (lv_at hl 0 rfl) ?_
  refine va_get (D := D) (ci := 1) (v := .int ((cs_bl S) j)) (C := RX0) (T := TX0) (N := 6) hx hb hts iX0_take_X0 hown hK hP (9 + j) (wX_c hj) rfl 5 (by decide) (hts (.fieldLink RX0 33 "CellRows2$Cell" "bleeds" "Z") (by decide +kernel)) (fun _ h9 => h9) rfl dX0_take_17 ?_
  refine W.join (P := fun v9 : Int64 => v9 = if (cs_bl S) j = 0 then cur else cur - 5) (g := fun v9 => F0 m 32 ls [.long v9, .long ((cs_ch S) j), .ref (a (9 + j))]) (fun v3 hv3 => ?_) (fun J3 => ?_)
  · subst hv3
    refine lv_ladd hx hb dX0_take_32 ?_
    refine va_put (D := D) (ci := 1) (v := .long (((cs_ch S) j) + (if (cs_bl S) j = 0 then cur else cur - 5))) (ty := .long) (C := RX0) (T := TX0) (N := 6) hx hb hts iX0_take_X0 tyX0 tyX0_ok nmX0 hown hK hP hD hS (9 + j) (wX_c hj) rfl 0 (by decide) (hts (.fieldLink RX0 11 "CellRows2$Cell" "charge" "J") (by decide +kernel)) (fun _ h9 => h9) rfl (by decide +kernel) rfl rfl (Nat.le_of_ble_eq_true rfl) dX0_take_33 (fun H5 locs5 hP hD hS => ?_)
    have hP : va_P D vwCl (wX cy a n (cs_set_ch (cs_set_wa (cs_set_vo S (va_up (cs_vo S) j vo)) (va_up (cs_wa S) j wa)) (va_up (cs_ch S) j (((cs_ch S) j) + (if (cs_bl S) j = 0 then cur else cur - 5))))) H5 := by show va_P D vwCl (wX cy a n (cs_set_ch (cs_set_wa (cs_set_vo S (va_up (cs_vo S) j vo)) (va_up (cs_wa S) j wa)) (va_up (cs_ch (cs_set_wa (cs_set_vo S (va_up (cs_vo S) j vo)) (va_up (cs_wa S) j wa))) j (((cs_ch S) j) + (if (cs_bl S) j = 0 then cur else cur - 5))))) H5; rw [← wX_set_ch (cs_set_wa (cs_set_vo S (va_up (cs_vo S) j vo)) (va_up (cs_wa S) j wa)) j (((cs_ch S) j) + (if (cs_bl S) j = 0 then cur else cur - 5))]; exact hP
    have hD : va_D A (wX cy a n (cs_set_ch (cs_set_wa (cs_set_vo S (va_up (cs_vo S) j vo)) (va_up (cs_wa S) j wa)) (va_up (cs_ch S) j (((cs_ch S) j) + (if (cs_bl S) j = 0 then cur else cur - 5))))) := by show va_D A (wX cy a n (cs_set_ch (cs_set_wa (cs_set_vo S (va_up (cs_vo S) j vo)) (va_up (cs_wa S) j wa)) (va_up (cs_ch (cs_set_wa (cs_set_vo S (va_up (cs_vo S) j vo)) (va_up (cs_wa S) j wa))) j (((cs_ch S) j) + (if (cs_bl S) j = 0 then cur else cur - 5))))); rw [← wX_set_ch (cs_set_wa (cs_set_vo S (va_up (cs_vo S) j vo)) (va_up (cs_wa S) j wa)) j (((cs_ch S) j) + (if (cs_bl S) j = 0 then cur else cur - 5))]; exact hD
    refine lv_lload hx hb dX0_take_36 (lv_at hl 4 rfl) ?_
    refine lv_lconst (v := 0) hx hb dX0_take_38 (by decide) ?_
    refine W.join (P := fun v9 : UInt64 => v9 = sCnt (cs_es S j) cur cap) (g := fun v9 => F0 m 61 ls [.double v9]) (fun v6 hv6 => ?_) (fun J6 => ?_)
    · subst hv6
      refine lv_dstore (lv' := [(9, .double (sCnt (cs_es S j) cur cap)), (0, .ref (a (9 + j))), (1, .long cur), (3, .long vo), (5, .long wa), (7, .long cap)]) hx hb dX0_take_61 hl (by decide) rfl (fun ls hl => ?_)
      refine lv_dload hx hb dX0_take_63 (lv_at hl 0 rfl) ?_
      refine vp_callSd (W.runS (As := [.double (sCnt (cs_es S j) cur cap)]) (rest := []) ⟨hx, hb, hml, hown, hts⟩ (kX0_withinShare l (sCnt (cs_es S j) cur cap)) (va_cwS 1 hts gX0_take_X0_withinShare rfl rfl rfl (by decide +kernel) ⟨Nat.le_of_ble_eq_true rfl, Nat.le_of_ble_eq_true rfl⟩) ⟨fun _ _ _ _ q => q, fun U hU hW => ⟨rfl, trivial⟩⟩ rfl rfl hl.1 rfl (lv_room (Nat.le_of_ble_eq_true rfl)) dX0_take_65 ⟨Nat.le_of_ble_eq_true rfl, Nat.le_of_ble_eq_true rfl⟩) (fun r8 hr8 => ?_)
      obtain rfl : r8 = sWin (sCnt (cs_es S j) cur cap) := hr8
      refine lv_dstore (lv' := [(11, .double (sWin (sCnt (cs_es S j) cur cap))), (9, .double (sCnt (cs_es S j) cur cap)), (0, .ref (a (9 + j))), (1, .long cur), (3, .long vo), (5, .long wa), (7, .long cap)]) hx hb dX0_take_68 hl (by decide) rfl (fun ls hl => ?_)
      refine lv_lload_n hx hb dX0_take_70 rfl (lv_at hl 4 rfl) ?_
      refine lv_ldc2 hx hb hown (hts (.constantLong RX0 43 (3000)) (by decide +kernel)) dX0_take_71 ?_
      refine lv_lsub hx hb dX0_take_74 ?_
      refine lv_l2d hx hb dX0_take_75 ?_
      refine lv_ldc2d hx hb hown (hts (.constantDouble RX0 45 (4652992471259676672)) (by decide +kernel)) dX0_take_76 ?_
      refine lv_ddiv hx hb dX0_take_79 (okD_n64 (by omega) (okD_quo2 _)) ?_
      refine vp_callSd (W.runS (As := [.double (FP.ddiv (FP.l2d (vo - 3000)) 4652992471259676672)]) (rest := []) ⟨hx, hb, hml, hown, hts⟩ (kX0_withinShare l (FP.ddiv (FP.l2d (vo - 3000)) 4652992471259676672)) (va_cwS 1 hts gX0_take_X0_withinShare rfl rfl rfl (by decide +kernel) ⟨Nat.le_of_ble_eq_true rfl, Nat.le_of_ble_eq_true rfl⟩) ⟨fun _ _ _ _ q => q, fun U hU hW => ⟨rfl, trivial⟩⟩ rfl rfl hl.1 rfl (lv_room (Nat.le_of_ble_eq_true rfl)) dX0_take_80 ⟨Nat.le_of_ble_eq_true rfl, Nat.le_of_ble_eq_true rfl⟩) (fun r9 hr9 => ?_)
      obtain rfl : r9 = sTold vo := hr9
      refine lv_dstore (lv' := [(13, .double (sTold vo)), (11, .double (sWin (sCnt (cs_es S j) cur cap))), (9, .double (sCnt (cs_es S j) cur cap)), (0, .ref (a (9 + j))), (1, .long cur), (3, .long vo), (5, .long wa), (7, .long cap)]) hx hb dX0_take_83 hl (by decide) rfl (fun ls hl => ?_)
      refine lv_aload_n hx hb dX0_take_85 rfl (lv_at hl 3 rfl) ?_
      refine lv_dload hx hb dX0_take_86 (lv_at hl 1 rfl) ?_
      refine lv_ldc2d hx hb hown (hts (.constantDouble RX0 47 (4589168020290535424)) (by decide +kernel)) dX0_take_88 ?_
      refine lv_dload hx hb dX0_take_91 (lv_at hl 0 rfl) ?_
      refine lv_dload hx hb dX0_take_93 (lv_at hl 1 rfl) ?_
      refine lv_dsub hx hb dX0_take_95 (okD_n64 (by omega) (okD_dif he cur vo cap)) ?_
      refine lv_dmul hx hb dX0_take_96 (okD_n64 (by omega) (okD_mul (okD_dif he cur vo cap))) ?_
      refine lv_dadd hx hb dX0_take_97 (okD_n64 (by omega) (okD_est he cur vo cap)) ?_
      refine va_put (D := D) (ci := 1) (v := .double (FP.dadd (sWin (sCnt (cs_es S j) cur cap)) (FP.dmul 4589168020290535424 (FP.dsub (sTold vo) (sWin (sCnt (cs_es S j) cur cap)))))) (ty := .double) (C := RX0) (T := TX0) (N := 6) hx hb hts iX0_take_X0 tyX0 tyX0_ok nmX0 hown hK hP hD hS (9 + j) (wX_c hj) rfl 1 (by decide) (hts (.fieldLink RX0 19 "CellRows2$Cell" "estimate" "D") (by decide +kernel)) (fun _ h9 => h9) rfl (by decide +kernel) rfl rfl (Nat.le_of_ble_eq_true rfl) dX0_take_98 (fun H10 locs10 hP hD hS => ?_)
      have hP : va_P D vwCl (wX cy a n (cs_set_es (cs_set_ch (cs_set_wa (cs_set_vo S (va_up (cs_vo S) j vo)) (va_up (cs_wa S) j wa)) (va_up (cs_ch S) j (((cs_ch S) j) + (if (cs_bl S) j = 0 then cur else cur - 5)))) (va_up (cs_es S) j (FP.dadd (sWin (sCnt (cs_es S j) cur cap)) (FP.dmul 4589168020290535424 (FP.dsub (sTold vo) (sWin (sCnt (cs_es S j) cur cap)))))))) H10 := by show va_P D vwCl (wX cy a n (cs_set_es (cs_set_ch (cs_set_wa (cs_set_vo S (va_up (cs_vo S) j vo)) (va_up (cs_wa S) j wa)) (va_up (cs_ch S) j (((cs_ch S) j) + (if (cs_bl S) j = 0 then cur else cur - 5)))) (va_up (cs_es (cs_set_ch (cs_set_wa (cs_set_vo S (va_up (cs_vo S) j vo)) (va_up (cs_wa S) j wa)) (va_up (cs_ch S) j (((cs_ch S) j) + (if (cs_bl S) j = 0 then cur else cur - 5))))) j (FP.dadd (sWin (sCnt (cs_es S j) cur cap)) (FP.dmul 4589168020290535424 (FP.dsub (sTold vo) (sWin (sCnt (cs_es S j) cur cap)))))))) H10; rw [← wX_set_es (cs_set_ch (cs_set_wa (cs_set_vo S (va_up (cs_vo S) j vo)) (va_up (cs_wa S) j wa)) (va_up (cs_ch S) j (((cs_ch S) j) + (if (cs_bl S) j = 0 then cur else cur - 5)))) j (FP.dadd (sWin (sCnt (cs_es S j) cur cap)) (FP.dmul 4589168020290535424 (FP.dsub (sTold vo) (sWin (sCnt (cs_es S j) cur cap)))))]; exact hP
      have hD : va_D A (wX cy a n (cs_set_es (cs_set_ch (cs_set_wa (cs_set_vo S (va_up (cs_vo S) j vo)) (va_up (cs_wa S) j wa)) (va_up (cs_ch S) j (((cs_ch S) j) + (if (cs_bl S) j = 0 then cur else cur - 5)))) (va_up (cs_es S) j (FP.dadd (sWin (sCnt (cs_es S j) cur cap)) (FP.dmul 4589168020290535424 (FP.dsub (sTold vo) (sWin (sCnt (cs_es S j) cur cap)))))))) := by show va_D A (wX cy a n (cs_set_es (cs_set_ch (cs_set_wa (cs_set_vo S (va_up (cs_vo S) j vo)) (va_up (cs_wa S) j wa)) (va_up (cs_ch S) j (((cs_ch S) j) + (if (cs_bl S) j = 0 then cur else cur - 5)))) (va_up (cs_es (cs_set_ch (cs_set_wa (cs_set_vo S (va_up (cs_vo S) j vo)) (va_up (cs_wa S) j wa)) (va_up (cs_ch S) j (((cs_ch S) j) + (if (cs_bl S) j = 0 then cur else cur - 5))))) j (FP.dadd (sWin (sCnt (cs_es S j) cur cap)) (FP.dmul 4589168020290535424 (FP.dsub (sTold vo) (sWin (sCnt (cs_es S j) cur cap)))))))); rw [← wX_set_es (cs_set_ch (cs_set_wa (cs_set_vo S (va_up (cs_vo S) j vo)) (va_up (cs_wa S) j wa)) (va_up (cs_ch S) j (((cs_ch S) j) + (if (cs_bl S) j = 0 then cur else cur - 5)))) j (FP.dadd (sWin (sCnt (cs_es S j) cur cap)) (FP.dmul 4589168020290535424 (FP.dsub (sTold vo) (sWin (sCnt (cs_es S j) cur cap)))))]; exact hD
      exact W.vret hx hb hr (fun t ht hW => ⟨⟨(cs_set_es (cs_set_ch (cs_set_wa (cs_set_vo S (va_up (cs_vo S) j vo)) (va_up (cs_wa S) j wa)) (va_up (cs_ch S) j (((cs_ch S) j) + (if (cs_bl S) j = 0 then cur else cur - 5)))) (va_up (cs_es S) j (FP.dadd (sWin (sCnt (cs_es S j) cur cap)) (FP.dmul 4589168020290535424 (FP.dsub (sTold vo) (sWin (sCnt (cs_es S j) cur cap))))))), rfl, rfl, by rw [ht]; exact hP, va_K.moved hW.alike hK, hD⟩, hS.F ht⟩) hS.2.2 dX0_take_101
    · refine il_ne (tgt := 50) hx hb dX0_take_39 dX0_take_40 (by decide) (fun h_7 => ?_) (fun h_7 => ?_)
      · refine lv_aload_n hx hb dX0_take_50 rfl (lv_at hl 0 rfl) ?_
        refine va_get (D := D) (ci := 1) (v := .double ((cs_es S) j)) (C := RX0) (T := TX0) (N := 6) hx hb hts iX0_take_X0 hown hK hP (9 + j) (wX_c hj) rfl 1 (by decide) (hts (.fieldLink RX0 19 "CellRows2$Cell" "estimate" "D") (by decide +kernel)) (fun _ h9 => h9) rfl dX0_take_51 ?_
        refine lv_lload_n hx hb dX0_take_54 rfl (lv_at hl 1 rfl) ?_
        refine lv_l2d hx hb dX0_take_55 ?_
        refine lv_lload hx hb dX0_take_56 (lv_at hl 4 rfl) ?_
        refine lv_l2d hx hb dX0_take_58 ?_
        have h_cap : ¬ cap = 0 := h_7
        refine lv_ddiv hx hb dX0_take_59 (okD_n64 (by omega) (okD_quo h_cap)) ?_
        refine lv_dadd hx hb dX0_take_60 (okD_n64 (by omega) (okD_add (K := 1089) (by omega) (okD_mono he (by omega)) (okD_quo h_cap))) ?_
        exact J6 _ (by simp only [sCnt, if_neg h_7])
      · refine lv_aload_n hx hb dX0_take_43 rfl (lv_at hl 0 rfl) ?_
        refine va_get (D := D) (ci := 1) (v := .double ((cs_es S) j)) (C := RX0) (T := TX0) (N := 6) hx hb hts iX0_take_X0 hown hK hP (9 + j) (wX_c hj) rfl 1 (by decide) (hts (.fieldLink RX0 19 "CellRows2$Cell" "estimate" "D") (by decide +kernel)) (fun _ h9 => h9) rfl dX0_take_44 ?_
        refine lv_goto (tgt := 61) hx hb dX0_take_47 (by decide) ?_
        exact J6 _ (by simp only [sCnt, if_pos h_7])
  · refine iz_eq (tgt := 31) hx hb dX0_take_20 (by decide) (fun h_4 => ?_) (fun h_4 => ?_)
    · refine lv_lload_n hx hb dX0_take_31 rfl (lv_at hl 1 rfl) ?_
      exact J3 _ (by simp only [if_pos h_4])
    · refine lv_lload_n hx hb dX0_take_23 rfl (lv_at hl 1 rfl) ?_
      refine lv_ldc2 hx hb hown (hts (.constantLong RX0 37 (5)) (by decide +kernel)) dX0_take_24 ?_
      refine lv_lsub hx hb dX0_take_27 ?_
      refine lv_goto (tgt := 32) hx hb dX0_take_28 (by decide) ?_
      exact J3 _ (by simp only [if_neg h_4])
end
section
/-! a field of a state with a field written -/
theorem cg_st_st (S : CS) (v : Nat) : cs_st (cs_set_st S v) = v := rfl
theorem cg_st_pre (S : CS) (v : Int32) : cs_st (cs_set_pre S v) = cs_st S := rfl
theorem cg_st_fc (S : CS) (v : Nat) : cs_st (cs_set_fc S v) = cs_st S := rfl
theorem cg_st_pc (S : CS) (v : Nat) : cs_st (cs_set_pc S v) = cs_st S := rfl
theorem cg_st_cyc (S : CS) (v : Nat) : cs_st (cs_set_cyc S v) = cs_st S := rfl
theorem cg_st_lim (S : CS) (v : Nat → Int64) : cs_st (cs_set_lim S v) = cs_st S := rfl
theorem cg_st_stk (S : CS) (v : Nat → Int32) : cs_st (cs_set_stk S v) = cs_st S := rfl
theorem cg_st_flt (S : CS) (v : Nat → Int32) : cs_st (cs_set_flt S v) = cs_st S := rfl
theorem cg_st_pts (S : CS) (v : Nat → Int64) : cs_st (cs_set_pts S v) = cs_st S := rfl
theorem cg_st_rng (S : CS) (v : Nat → Int64) : cs_st (cs_set_rng S v) = cs_st S := rfl
theorem cg_st_low (S : CS) (v : Nat → Int64) : cs_st (cs_set_low S v) = cs_st S := rfl
theorem cg_st_ch (S : CS) (v : Nat → Int64) : cs_st (cs_set_ch S v) = cs_st S := rfl
theorem cg_st_es (S : CS) (v : Nat → UInt64) : cs_st (cs_set_es S v) = cs_st S := rfl
theorem cg_st_vo (S : CS) (v : Nat → Int64) : cs_st (cs_set_vo S v) = cs_st S := rfl
theorem cg_st_wa (S : CS) (v : Nat → Int64) : cs_st (cs_set_wa S v) = cs_st S := rfl
theorem cg_st_be (S : CS) (v : Nat → Int32) : cs_st (cs_set_be S v) = cs_st S := rfl
theorem cg_st_bl (S : CS) (v : Nat → Int32) : cs_st (cs_set_bl S v) = cs_st S := rfl
theorem cg_pre_st (S : CS) (v : Nat) : cs_pre (cs_set_st S v) = cs_pre S := rfl
theorem cg_pre_pre (S : CS) (v : Int32) : cs_pre (cs_set_pre S v) = v := rfl
theorem cg_pre_fc (S : CS) (v : Nat) : cs_pre (cs_set_fc S v) = cs_pre S := rfl
theorem cg_pre_pc (S : CS) (v : Nat) : cs_pre (cs_set_pc S v) = cs_pre S := rfl
theorem cg_pre_cyc (S : CS) (v : Nat) : cs_pre (cs_set_cyc S v) = cs_pre S := rfl
theorem cg_pre_lim (S : CS) (v : Nat → Int64) : cs_pre (cs_set_lim S v) = cs_pre S := rfl
theorem cg_pre_stk (S : CS) (v : Nat → Int32) : cs_pre (cs_set_stk S v) = cs_pre S := rfl
theorem cg_pre_flt (S : CS) (v : Nat → Int32) : cs_pre (cs_set_flt S v) = cs_pre S := rfl
theorem cg_pre_pts (S : CS) (v : Nat → Int64) : cs_pre (cs_set_pts S v) = cs_pre S := rfl
theorem cg_pre_rng (S : CS) (v : Nat → Int64) : cs_pre (cs_set_rng S v) = cs_pre S := rfl
theorem cg_pre_low (S : CS) (v : Nat → Int64) : cs_pre (cs_set_low S v) = cs_pre S := rfl
theorem cg_pre_ch (S : CS) (v : Nat → Int64) : cs_pre (cs_set_ch S v) = cs_pre S := rfl
theorem cg_pre_es (S : CS) (v : Nat → UInt64) : cs_pre (cs_set_es S v) = cs_pre S := rfl
theorem cg_pre_vo (S : CS) (v : Nat → Int64) : cs_pre (cs_set_vo S v) = cs_pre S := rfl
theorem cg_pre_wa (S : CS) (v : Nat → Int64) : cs_pre (cs_set_wa S v) = cs_pre S := rfl
theorem cg_pre_be (S : CS) (v : Nat → Int32) : cs_pre (cs_set_be S v) = cs_pre S := rfl
theorem cg_pre_bl (S : CS) (v : Nat → Int32) : cs_pre (cs_set_bl S v) = cs_pre S := rfl
theorem cg_fc_st (S : CS) (v : Nat) : cs_fc (cs_set_st S v) = cs_fc S := rfl
theorem cg_fc_pre (S : CS) (v : Int32) : cs_fc (cs_set_pre S v) = cs_fc S := rfl
theorem cg_fc_fc (S : CS) (v : Nat) : cs_fc (cs_set_fc S v) = v := rfl
theorem cg_fc_pc (S : CS) (v : Nat) : cs_fc (cs_set_pc S v) = cs_fc S := rfl
theorem cg_fc_cyc (S : CS) (v : Nat) : cs_fc (cs_set_cyc S v) = cs_fc S := rfl
theorem cg_fc_lim (S : CS) (v : Nat → Int64) : cs_fc (cs_set_lim S v) = cs_fc S := rfl
theorem cg_fc_stk (S : CS) (v : Nat → Int32) : cs_fc (cs_set_stk S v) = cs_fc S := rfl
theorem cg_fc_flt (S : CS) (v : Nat → Int32) : cs_fc (cs_set_flt S v) = cs_fc S := rfl
theorem cg_fc_pts (S : CS) (v : Nat → Int64) : cs_fc (cs_set_pts S v) = cs_fc S := rfl
theorem cg_fc_rng (S : CS) (v : Nat → Int64) : cs_fc (cs_set_rng S v) = cs_fc S := rfl
theorem cg_fc_low (S : CS) (v : Nat → Int64) : cs_fc (cs_set_low S v) = cs_fc S := rfl
theorem cg_fc_ch (S : CS) (v : Nat → Int64) : cs_fc (cs_set_ch S v) = cs_fc S := rfl
theorem cg_fc_es (S : CS) (v : Nat → UInt64) : cs_fc (cs_set_es S v) = cs_fc S := rfl
theorem cg_fc_vo (S : CS) (v : Nat → Int64) : cs_fc (cs_set_vo S v) = cs_fc S := rfl
theorem cg_fc_wa (S : CS) (v : Nat → Int64) : cs_fc (cs_set_wa S v) = cs_fc S := rfl
theorem cg_fc_be (S : CS) (v : Nat → Int32) : cs_fc (cs_set_be S v) = cs_fc S := rfl
theorem cg_fc_bl (S : CS) (v : Nat → Int32) : cs_fc (cs_set_bl S v) = cs_fc S := rfl
theorem cg_pc_st (S : CS) (v : Nat) : cs_pc (cs_set_st S v) = cs_pc S := rfl
theorem cg_pc_pre (S : CS) (v : Int32) : cs_pc (cs_set_pre S v) = cs_pc S := rfl
theorem cg_pc_fc (S : CS) (v : Nat) : cs_pc (cs_set_fc S v) = cs_pc S := rfl
theorem cg_pc_pc (S : CS) (v : Nat) : cs_pc (cs_set_pc S v) = v := rfl
theorem cg_pc_cyc (S : CS) (v : Nat) : cs_pc (cs_set_cyc S v) = cs_pc S := rfl
theorem cg_pc_lim (S : CS) (v : Nat → Int64) : cs_pc (cs_set_lim S v) = cs_pc S := rfl
theorem cg_pc_stk (S : CS) (v : Nat → Int32) : cs_pc (cs_set_stk S v) = cs_pc S := rfl
theorem cg_pc_flt (S : CS) (v : Nat → Int32) : cs_pc (cs_set_flt S v) = cs_pc S := rfl
theorem cg_pc_pts (S : CS) (v : Nat → Int64) : cs_pc (cs_set_pts S v) = cs_pc S := rfl
theorem cg_pc_rng (S : CS) (v : Nat → Int64) : cs_pc (cs_set_rng S v) = cs_pc S := rfl
theorem cg_pc_low (S : CS) (v : Nat → Int64) : cs_pc (cs_set_low S v) = cs_pc S := rfl
theorem cg_pc_ch (S : CS) (v : Nat → Int64) : cs_pc (cs_set_ch S v) = cs_pc S := rfl
theorem cg_pc_es (S : CS) (v : Nat → UInt64) : cs_pc (cs_set_es S v) = cs_pc S := rfl
theorem cg_pc_vo (S : CS) (v : Nat → Int64) : cs_pc (cs_set_vo S v) = cs_pc S := rfl
theorem cg_pc_wa (S : CS) (v : Nat → Int64) : cs_pc (cs_set_wa S v) = cs_pc S := rfl
theorem cg_pc_be (S : CS) (v : Nat → Int32) : cs_pc (cs_set_be S v) = cs_pc S := rfl
theorem cg_pc_bl (S : CS) (v : Nat → Int32) : cs_pc (cs_set_bl S v) = cs_pc S := rfl
theorem cg_cyc_st (S : CS) (v : Nat) : cs_cyc (cs_set_st S v) = cs_cyc S := rfl
theorem cg_cyc_pre (S : CS) (v : Int32) : cs_cyc (cs_set_pre S v) = cs_cyc S := rfl
theorem cg_cyc_fc (S : CS) (v : Nat) : cs_cyc (cs_set_fc S v) = cs_cyc S := rfl
theorem cg_cyc_pc (S : CS) (v : Nat) : cs_cyc (cs_set_pc S v) = cs_cyc S := rfl
theorem cg_cyc_cyc (S : CS) (v : Nat) : cs_cyc (cs_set_cyc S v) = v := rfl
theorem cg_cyc_lim (S : CS) (v : Nat → Int64) : cs_cyc (cs_set_lim S v) = cs_cyc S := rfl
theorem cg_cyc_stk (S : CS) (v : Nat → Int32) : cs_cyc (cs_set_stk S v) = cs_cyc S := rfl
theorem cg_cyc_flt (S : CS) (v : Nat → Int32) : cs_cyc (cs_set_flt S v) = cs_cyc S := rfl
theorem cg_cyc_pts (S : CS) (v : Nat → Int64) : cs_cyc (cs_set_pts S v) = cs_cyc S := rfl
theorem cg_cyc_rng (S : CS) (v : Nat → Int64) : cs_cyc (cs_set_rng S v) = cs_cyc S := rfl
theorem cg_cyc_low (S : CS) (v : Nat → Int64) : cs_cyc (cs_set_low S v) = cs_cyc S := rfl
theorem cg_cyc_ch (S : CS) (v : Nat → Int64) : cs_cyc (cs_set_ch S v) = cs_cyc S := rfl
theorem cg_cyc_es (S : CS) (v : Nat → UInt64) : cs_cyc (cs_set_es S v) = cs_cyc S := rfl
theorem cg_cyc_vo (S : CS) (v : Nat → Int64) : cs_cyc (cs_set_vo S v) = cs_cyc S := rfl
theorem cg_cyc_wa (S : CS) (v : Nat → Int64) : cs_cyc (cs_set_wa S v) = cs_cyc S := rfl
theorem cg_cyc_be (S : CS) (v : Nat → Int32) : cs_cyc (cs_set_be S v) = cs_cyc S := rfl
theorem cg_cyc_bl (S : CS) (v : Nat → Int32) : cs_cyc (cs_set_bl S v) = cs_cyc S := rfl
theorem cg_lim_st (S : CS) (v : Nat) : cs_lim (cs_set_st S v) = cs_lim S := rfl
theorem cg_lim_pre (S : CS) (v : Int32) : cs_lim (cs_set_pre S v) = cs_lim S := rfl
theorem cg_lim_fc (S : CS) (v : Nat) : cs_lim (cs_set_fc S v) = cs_lim S := rfl
theorem cg_lim_pc (S : CS) (v : Nat) : cs_lim (cs_set_pc S v) = cs_lim S := rfl
theorem cg_lim_cyc (S : CS) (v : Nat) : cs_lim (cs_set_cyc S v) = cs_lim S := rfl
theorem cg_lim_lim (S : CS) (v : Nat → Int64) : cs_lim (cs_set_lim S v) = v := rfl
theorem cg_lim_stk (S : CS) (v : Nat → Int32) : cs_lim (cs_set_stk S v) = cs_lim S := rfl
theorem cg_lim_flt (S : CS) (v : Nat → Int32) : cs_lim (cs_set_flt S v) = cs_lim S := rfl
theorem cg_lim_pts (S : CS) (v : Nat → Int64) : cs_lim (cs_set_pts S v) = cs_lim S := rfl
theorem cg_lim_rng (S : CS) (v : Nat → Int64) : cs_lim (cs_set_rng S v) = cs_lim S := rfl
theorem cg_lim_low (S : CS) (v : Nat → Int64) : cs_lim (cs_set_low S v) = cs_lim S := rfl
theorem cg_lim_ch (S : CS) (v : Nat → Int64) : cs_lim (cs_set_ch S v) = cs_lim S := rfl
theorem cg_lim_es (S : CS) (v : Nat → UInt64) : cs_lim (cs_set_es S v) = cs_lim S := rfl
theorem cg_lim_vo (S : CS) (v : Nat → Int64) : cs_lim (cs_set_vo S v) = cs_lim S := rfl
theorem cg_lim_wa (S : CS) (v : Nat → Int64) : cs_lim (cs_set_wa S v) = cs_lim S := rfl
theorem cg_lim_be (S : CS) (v : Nat → Int32) : cs_lim (cs_set_be S v) = cs_lim S := rfl
theorem cg_lim_bl (S : CS) (v : Nat → Int32) : cs_lim (cs_set_bl S v) = cs_lim S := rfl
theorem cg_stk_st (S : CS) (v : Nat) : cs_stk (cs_set_st S v) = cs_stk S := rfl
theorem cg_stk_pre (S : CS) (v : Int32) : cs_stk (cs_set_pre S v) = cs_stk S := rfl
theorem cg_stk_fc (S : CS) (v : Nat) : cs_stk (cs_set_fc S v) = cs_stk S := rfl
theorem cg_stk_pc (S : CS) (v : Nat) : cs_stk (cs_set_pc S v) = cs_stk S := rfl
theorem cg_stk_cyc (S : CS) (v : Nat) : cs_stk (cs_set_cyc S v) = cs_stk S := rfl
theorem cg_stk_lim (S : CS) (v : Nat → Int64) : cs_stk (cs_set_lim S v) = cs_stk S := rfl
theorem cg_stk_stk (S : CS) (v : Nat → Int32) : cs_stk (cs_set_stk S v) = v := rfl
theorem cg_stk_flt (S : CS) (v : Nat → Int32) : cs_stk (cs_set_flt S v) = cs_stk S := rfl
theorem cg_stk_pts (S : CS) (v : Nat → Int64) : cs_stk (cs_set_pts S v) = cs_stk S := rfl
theorem cg_stk_rng (S : CS) (v : Nat → Int64) : cs_stk (cs_set_rng S v) = cs_stk S := rfl
theorem cg_stk_low (S : CS) (v : Nat → Int64) : cs_stk (cs_set_low S v) = cs_stk S := rfl
theorem cg_stk_ch (S : CS) (v : Nat → Int64) : cs_stk (cs_set_ch S v) = cs_stk S := rfl
theorem cg_stk_es (S : CS) (v : Nat → UInt64) : cs_stk (cs_set_es S v) = cs_stk S := rfl
theorem cg_stk_vo (S : CS) (v : Nat → Int64) : cs_stk (cs_set_vo S v) = cs_stk S := rfl
theorem cg_stk_wa (S : CS) (v : Nat → Int64) : cs_stk (cs_set_wa S v) = cs_stk S := rfl
theorem cg_stk_be (S : CS) (v : Nat → Int32) : cs_stk (cs_set_be S v) = cs_stk S := rfl
theorem cg_stk_bl (S : CS) (v : Nat → Int32) : cs_stk (cs_set_bl S v) = cs_stk S := rfl
theorem cg_flt_st (S : CS) (v : Nat) : cs_flt (cs_set_st S v) = cs_flt S := rfl
theorem cg_flt_pre (S : CS) (v : Int32) : cs_flt (cs_set_pre S v) = cs_flt S := rfl
theorem cg_flt_fc (S : CS) (v : Nat) : cs_flt (cs_set_fc S v) = cs_flt S := rfl
theorem cg_flt_pc (S : CS) (v : Nat) : cs_flt (cs_set_pc S v) = cs_flt S := rfl
theorem cg_flt_cyc (S : CS) (v : Nat) : cs_flt (cs_set_cyc S v) = cs_flt S := rfl
theorem cg_flt_lim (S : CS) (v : Nat → Int64) : cs_flt (cs_set_lim S v) = cs_flt S := rfl
theorem cg_flt_stk (S : CS) (v : Nat → Int32) : cs_flt (cs_set_stk S v) = cs_flt S := rfl
theorem cg_flt_flt (S : CS) (v : Nat → Int32) : cs_flt (cs_set_flt S v) = v := rfl
theorem cg_flt_pts (S : CS) (v : Nat → Int64) : cs_flt (cs_set_pts S v) = cs_flt S := rfl
theorem cg_flt_rng (S : CS) (v : Nat → Int64) : cs_flt (cs_set_rng S v) = cs_flt S := rfl
theorem cg_flt_low (S : CS) (v : Nat → Int64) : cs_flt (cs_set_low S v) = cs_flt S := rfl
theorem cg_flt_ch (S : CS) (v : Nat → Int64) : cs_flt (cs_set_ch S v) = cs_flt S := rfl
theorem cg_flt_es (S : CS) (v : Nat → UInt64) : cs_flt (cs_set_es S v) = cs_flt S := rfl
theorem cg_flt_vo (S : CS) (v : Nat → Int64) : cs_flt (cs_set_vo S v) = cs_flt S := rfl
theorem cg_flt_wa (S : CS) (v : Nat → Int64) : cs_flt (cs_set_wa S v) = cs_flt S := rfl
theorem cg_flt_be (S : CS) (v : Nat → Int32) : cs_flt (cs_set_be S v) = cs_flt S := rfl
theorem cg_flt_bl (S : CS) (v : Nat → Int32) : cs_flt (cs_set_bl S v) = cs_flt S := rfl
theorem cg_pts_st (S : CS) (v : Nat) : cs_pts (cs_set_st S v) = cs_pts S := rfl
theorem cg_pts_pre (S : CS) (v : Int32) : cs_pts (cs_set_pre S v) = cs_pts S := rfl
theorem cg_pts_fc (S : CS) (v : Nat) : cs_pts (cs_set_fc S v) = cs_pts S := rfl
theorem cg_pts_pc (S : CS) (v : Nat) : cs_pts (cs_set_pc S v) = cs_pts S := rfl
theorem cg_pts_cyc (S : CS) (v : Nat) : cs_pts (cs_set_cyc S v) = cs_pts S := rfl
theorem cg_pts_lim (S : CS) (v : Nat → Int64) : cs_pts (cs_set_lim S v) = cs_pts S := rfl
theorem cg_pts_stk (S : CS) (v : Nat → Int32) : cs_pts (cs_set_stk S v) = cs_pts S := rfl
theorem cg_pts_flt (S : CS) (v : Nat → Int32) : cs_pts (cs_set_flt S v) = cs_pts S := rfl
theorem cg_pts_pts (S : CS) (v : Nat → Int64) : cs_pts (cs_set_pts S v) = v := rfl
theorem cg_pts_rng (S : CS) (v : Nat → Int64) : cs_pts (cs_set_rng S v) = cs_pts S := rfl
theorem cg_pts_low (S : CS) (v : Nat → Int64) : cs_pts (cs_set_low S v) = cs_pts S := rfl
theorem cg_pts_ch (S : CS) (v : Nat → Int64) : cs_pts (cs_set_ch S v) = cs_pts S := rfl
theorem cg_pts_es (S : CS) (v : Nat → UInt64) : cs_pts (cs_set_es S v) = cs_pts S := rfl
theorem cg_pts_vo (S : CS) (v : Nat → Int64) : cs_pts (cs_set_vo S v) = cs_pts S := rfl
theorem cg_pts_wa (S : CS) (v : Nat → Int64) : cs_pts (cs_set_wa S v) = cs_pts S := rfl
theorem cg_pts_be (S : CS) (v : Nat → Int32) : cs_pts (cs_set_be S v) = cs_pts S := rfl
theorem cg_pts_bl (S : CS) (v : Nat → Int32) : cs_pts (cs_set_bl S v) = cs_pts S := rfl
theorem cg_rng_st (S : CS) (v : Nat) : cs_rng (cs_set_st S v) = cs_rng S := rfl
theorem cg_rng_pre (S : CS) (v : Int32) : cs_rng (cs_set_pre S v) = cs_rng S := rfl
theorem cg_rng_fc (S : CS) (v : Nat) : cs_rng (cs_set_fc S v) = cs_rng S := rfl
theorem cg_rng_pc (S : CS) (v : Nat) : cs_rng (cs_set_pc S v) = cs_rng S := rfl
theorem cg_rng_cyc (S : CS) (v : Nat) : cs_rng (cs_set_cyc S v) = cs_rng S := rfl
theorem cg_rng_lim (S : CS) (v : Nat → Int64) : cs_rng (cs_set_lim S v) = cs_rng S := rfl
theorem cg_rng_stk (S : CS) (v : Nat → Int32) : cs_rng (cs_set_stk S v) = cs_rng S := rfl
theorem cg_rng_flt (S : CS) (v : Nat → Int32) : cs_rng (cs_set_flt S v) = cs_rng S := rfl
theorem cg_rng_pts (S : CS) (v : Nat → Int64) : cs_rng (cs_set_pts S v) = cs_rng S := rfl
theorem cg_rng_rng (S : CS) (v : Nat → Int64) : cs_rng (cs_set_rng S v) = v := rfl
theorem cg_rng_low (S : CS) (v : Nat → Int64) : cs_rng (cs_set_low S v) = cs_rng S := rfl
theorem cg_rng_ch (S : CS) (v : Nat → Int64) : cs_rng (cs_set_ch S v) = cs_rng S := rfl
theorem cg_rng_es (S : CS) (v : Nat → UInt64) : cs_rng (cs_set_es S v) = cs_rng S := rfl
theorem cg_rng_vo (S : CS) (v : Nat → Int64) : cs_rng (cs_set_vo S v) = cs_rng S := rfl
theorem cg_rng_wa (S : CS) (v : Nat → Int64) : cs_rng (cs_set_wa S v) = cs_rng S := rfl
theorem cg_rng_be (S : CS) (v : Nat → Int32) : cs_rng (cs_set_be S v) = cs_rng S := rfl
theorem cg_rng_bl (S : CS) (v : Nat → Int32) : cs_rng (cs_set_bl S v) = cs_rng S := rfl
theorem cg_low_st (S : CS) (v : Nat) : cs_low (cs_set_st S v) = cs_low S := rfl
theorem cg_low_pre (S : CS) (v : Int32) : cs_low (cs_set_pre S v) = cs_low S := rfl
theorem cg_low_fc (S : CS) (v : Nat) : cs_low (cs_set_fc S v) = cs_low S := rfl
theorem cg_low_pc (S : CS) (v : Nat) : cs_low (cs_set_pc S v) = cs_low S := rfl
theorem cg_low_cyc (S : CS) (v : Nat) : cs_low (cs_set_cyc S v) = cs_low S := rfl
theorem cg_low_lim (S : CS) (v : Nat → Int64) : cs_low (cs_set_lim S v) = cs_low S := rfl
theorem cg_low_stk (S : CS) (v : Nat → Int32) : cs_low (cs_set_stk S v) = cs_low S := rfl
theorem cg_low_flt (S : CS) (v : Nat → Int32) : cs_low (cs_set_flt S v) = cs_low S := rfl
theorem cg_low_pts (S : CS) (v : Nat → Int64) : cs_low (cs_set_pts S v) = cs_low S := rfl
theorem cg_low_rng (S : CS) (v : Nat → Int64) : cs_low (cs_set_rng S v) = cs_low S := rfl
theorem cg_low_low (S : CS) (v : Nat → Int64) : cs_low (cs_set_low S v) = v := rfl
theorem cg_low_ch (S : CS) (v : Nat → Int64) : cs_low (cs_set_ch S v) = cs_low S := rfl
theorem cg_low_es (S : CS) (v : Nat → UInt64) : cs_low (cs_set_es S v) = cs_low S := rfl
theorem cg_low_vo (S : CS) (v : Nat → Int64) : cs_low (cs_set_vo S v) = cs_low S := rfl
theorem cg_low_wa (S : CS) (v : Nat → Int64) : cs_low (cs_set_wa S v) = cs_low S := rfl
theorem cg_low_be (S : CS) (v : Nat → Int32) : cs_low (cs_set_be S v) = cs_low S := rfl
theorem cg_low_bl (S : CS) (v : Nat → Int32) : cs_low (cs_set_bl S v) = cs_low S := rfl
theorem cg_ch_st (S : CS) (v : Nat) : cs_ch (cs_set_st S v) = cs_ch S := rfl
theorem cg_ch_pre (S : CS) (v : Int32) : cs_ch (cs_set_pre S v) = cs_ch S := rfl
theorem cg_ch_fc (S : CS) (v : Nat) : cs_ch (cs_set_fc S v) = cs_ch S := rfl
theorem cg_ch_pc (S : CS) (v : Nat) : cs_ch (cs_set_pc S v) = cs_ch S := rfl
theorem cg_ch_cyc (S : CS) (v : Nat) : cs_ch (cs_set_cyc S v) = cs_ch S := rfl
theorem cg_ch_lim (S : CS) (v : Nat → Int64) : cs_ch (cs_set_lim S v) = cs_ch S := rfl
theorem cg_ch_stk (S : CS) (v : Nat → Int32) : cs_ch (cs_set_stk S v) = cs_ch S := rfl
theorem cg_ch_flt (S : CS) (v : Nat → Int32) : cs_ch (cs_set_flt S v) = cs_ch S := rfl
theorem cg_ch_pts (S : CS) (v : Nat → Int64) : cs_ch (cs_set_pts S v) = cs_ch S := rfl
theorem cg_ch_rng (S : CS) (v : Nat → Int64) : cs_ch (cs_set_rng S v) = cs_ch S := rfl
theorem cg_ch_low (S : CS) (v : Nat → Int64) : cs_ch (cs_set_low S v) = cs_ch S := rfl
theorem cg_ch_ch (S : CS) (v : Nat → Int64) : cs_ch (cs_set_ch S v) = v := rfl
theorem cg_ch_es (S : CS) (v : Nat → UInt64) : cs_ch (cs_set_es S v) = cs_ch S := rfl
theorem cg_ch_vo (S : CS) (v : Nat → Int64) : cs_ch (cs_set_vo S v) = cs_ch S := rfl
theorem cg_ch_wa (S : CS) (v : Nat → Int64) : cs_ch (cs_set_wa S v) = cs_ch S := rfl
theorem cg_ch_be (S : CS) (v : Nat → Int32) : cs_ch (cs_set_be S v) = cs_ch S := rfl
theorem cg_ch_bl (S : CS) (v : Nat → Int32) : cs_ch (cs_set_bl S v) = cs_ch S := rfl
theorem cg_es_st (S : CS) (v : Nat) : cs_es (cs_set_st S v) = cs_es S := rfl
theorem cg_es_pre (S : CS) (v : Int32) : cs_es (cs_set_pre S v) = cs_es S := rfl
theorem cg_es_fc (S : CS) (v : Nat) : cs_es (cs_set_fc S v) = cs_es S := rfl
theorem cg_es_pc (S : CS) (v : Nat) : cs_es (cs_set_pc S v) = cs_es S := rfl
theorem cg_es_cyc (S : CS) (v : Nat) : cs_es (cs_set_cyc S v) = cs_es S := rfl
theorem cg_es_lim (S : CS) (v : Nat → Int64) : cs_es (cs_set_lim S v) = cs_es S := rfl
theorem cg_es_stk (S : CS) (v : Nat → Int32) : cs_es (cs_set_stk S v) = cs_es S := rfl
theorem cg_es_flt (S : CS) (v : Nat → Int32) : cs_es (cs_set_flt S v) = cs_es S := rfl
theorem cg_es_pts (S : CS) (v : Nat → Int64) : cs_es (cs_set_pts S v) = cs_es S := rfl
theorem cg_es_rng (S : CS) (v : Nat → Int64) : cs_es (cs_set_rng S v) = cs_es S := rfl
theorem cg_es_low (S : CS) (v : Nat → Int64) : cs_es (cs_set_low S v) = cs_es S := rfl
theorem cg_es_ch (S : CS) (v : Nat → Int64) : cs_es (cs_set_ch S v) = cs_es S := rfl
theorem cg_es_es (S : CS) (v : Nat → UInt64) : cs_es (cs_set_es S v) = v := rfl
theorem cg_es_vo (S : CS) (v : Nat → Int64) : cs_es (cs_set_vo S v) = cs_es S := rfl
theorem cg_es_wa (S : CS) (v : Nat → Int64) : cs_es (cs_set_wa S v) = cs_es S := rfl
theorem cg_es_be (S : CS) (v : Nat → Int32) : cs_es (cs_set_be S v) = cs_es S := rfl
theorem cg_es_bl (S : CS) (v : Nat → Int32) : cs_es (cs_set_bl S v) = cs_es S := rfl
theorem cg_vo_st (S : CS) (v : Nat) : cs_vo (cs_set_st S v) = cs_vo S := rfl
theorem cg_vo_pre (S : CS) (v : Int32) : cs_vo (cs_set_pre S v) = cs_vo S := rfl
theorem cg_vo_fc (S : CS) (v : Nat) : cs_vo (cs_set_fc S v) = cs_vo S := rfl
theorem cg_vo_pc (S : CS) (v : Nat) : cs_vo (cs_set_pc S v) = cs_vo S := rfl
theorem cg_vo_cyc (S : CS) (v : Nat) : cs_vo (cs_set_cyc S v) = cs_vo S := rfl
theorem cg_vo_lim (S : CS) (v : Nat → Int64) : cs_vo (cs_set_lim S v) = cs_vo S := rfl
theorem cg_vo_stk (S : CS) (v : Nat → Int32) : cs_vo (cs_set_stk S v) = cs_vo S := rfl
theorem cg_vo_flt (S : CS) (v : Nat → Int32) : cs_vo (cs_set_flt S v) = cs_vo S := rfl
theorem cg_vo_pts (S : CS) (v : Nat → Int64) : cs_vo (cs_set_pts S v) = cs_vo S := rfl
theorem cg_vo_rng (S : CS) (v : Nat → Int64) : cs_vo (cs_set_rng S v) = cs_vo S := rfl
theorem cg_vo_low (S : CS) (v : Nat → Int64) : cs_vo (cs_set_low S v) = cs_vo S := rfl
theorem cg_vo_ch (S : CS) (v : Nat → Int64) : cs_vo (cs_set_ch S v) = cs_vo S := rfl
theorem cg_vo_es (S : CS) (v : Nat → UInt64) : cs_vo (cs_set_es S v) = cs_vo S := rfl
theorem cg_vo_vo (S : CS) (v : Nat → Int64) : cs_vo (cs_set_vo S v) = v := rfl
theorem cg_vo_wa (S : CS) (v : Nat → Int64) : cs_vo (cs_set_wa S v) = cs_vo S := rfl
theorem cg_vo_be (S : CS) (v : Nat → Int32) : cs_vo (cs_set_be S v) = cs_vo S := rfl
theorem cg_vo_bl (S : CS) (v : Nat → Int32) : cs_vo (cs_set_bl S v) = cs_vo S := rfl
theorem cg_wa_st (S : CS) (v : Nat) : cs_wa (cs_set_st S v) = cs_wa S := rfl
theorem cg_wa_pre (S : CS) (v : Int32) : cs_wa (cs_set_pre S v) = cs_wa S := rfl
theorem cg_wa_fc (S : CS) (v : Nat) : cs_wa (cs_set_fc S v) = cs_wa S := rfl
theorem cg_wa_pc (S : CS) (v : Nat) : cs_wa (cs_set_pc S v) = cs_wa S := rfl
theorem cg_wa_cyc (S : CS) (v : Nat) : cs_wa (cs_set_cyc S v) = cs_wa S := rfl
theorem cg_wa_lim (S : CS) (v : Nat → Int64) : cs_wa (cs_set_lim S v) = cs_wa S := rfl
theorem cg_wa_stk (S : CS) (v : Nat → Int32) : cs_wa (cs_set_stk S v) = cs_wa S := rfl
theorem cg_wa_flt (S : CS) (v : Nat → Int32) : cs_wa (cs_set_flt S v) = cs_wa S := rfl
theorem cg_wa_pts (S : CS) (v : Nat → Int64) : cs_wa (cs_set_pts S v) = cs_wa S := rfl
theorem cg_wa_rng (S : CS) (v : Nat → Int64) : cs_wa (cs_set_rng S v) = cs_wa S := rfl
theorem cg_wa_low (S : CS) (v : Nat → Int64) : cs_wa (cs_set_low S v) = cs_wa S := rfl
theorem cg_wa_ch (S : CS) (v : Nat → Int64) : cs_wa (cs_set_ch S v) = cs_wa S := rfl
theorem cg_wa_es (S : CS) (v : Nat → UInt64) : cs_wa (cs_set_es S v) = cs_wa S := rfl
theorem cg_wa_vo (S : CS) (v : Nat → Int64) : cs_wa (cs_set_vo S v) = cs_wa S := rfl
theorem cg_wa_wa (S : CS) (v : Nat → Int64) : cs_wa (cs_set_wa S v) = v := rfl
theorem cg_wa_be (S : CS) (v : Nat → Int32) : cs_wa (cs_set_be S v) = cs_wa S := rfl
theorem cg_wa_bl (S : CS) (v : Nat → Int32) : cs_wa (cs_set_bl S v) = cs_wa S := rfl
theorem cg_be_st (S : CS) (v : Nat) : cs_be (cs_set_st S v) = cs_be S := rfl
theorem cg_be_pre (S : CS) (v : Int32) : cs_be (cs_set_pre S v) = cs_be S := rfl
theorem cg_be_fc (S : CS) (v : Nat) : cs_be (cs_set_fc S v) = cs_be S := rfl
theorem cg_be_pc (S : CS) (v : Nat) : cs_be (cs_set_pc S v) = cs_be S := rfl
theorem cg_be_cyc (S : CS) (v : Nat) : cs_be (cs_set_cyc S v) = cs_be S := rfl
theorem cg_be_lim (S : CS) (v : Nat → Int64) : cs_be (cs_set_lim S v) = cs_be S := rfl
theorem cg_be_stk (S : CS) (v : Nat → Int32) : cs_be (cs_set_stk S v) = cs_be S := rfl
theorem cg_be_flt (S : CS) (v : Nat → Int32) : cs_be (cs_set_flt S v) = cs_be S := rfl
theorem cg_be_pts (S : CS) (v : Nat → Int64) : cs_be (cs_set_pts S v) = cs_be S := rfl
theorem cg_be_rng (S : CS) (v : Nat → Int64) : cs_be (cs_set_rng S v) = cs_be S := rfl
theorem cg_be_low (S : CS) (v : Nat → Int64) : cs_be (cs_set_low S v) = cs_be S := rfl
theorem cg_be_ch (S : CS) (v : Nat → Int64) : cs_be (cs_set_ch S v) = cs_be S := rfl
theorem cg_be_es (S : CS) (v : Nat → UInt64) : cs_be (cs_set_es S v) = cs_be S := rfl
theorem cg_be_vo (S : CS) (v : Nat → Int64) : cs_be (cs_set_vo S v) = cs_be S := rfl
theorem cg_be_wa (S : CS) (v : Nat → Int64) : cs_be (cs_set_wa S v) = cs_be S := rfl
theorem cg_be_be (S : CS) (v : Nat → Int32) : cs_be (cs_set_be S v) = v := rfl
theorem cg_be_bl (S : CS) (v : Nat → Int32) : cs_be (cs_set_bl S v) = cs_be S := rfl
theorem cg_bl_st (S : CS) (v : Nat) : cs_bl (cs_set_st S v) = cs_bl S := rfl
theorem cg_bl_pre (S : CS) (v : Int32) : cs_bl (cs_set_pre S v) = cs_bl S := rfl
theorem cg_bl_fc (S : CS) (v : Nat) : cs_bl (cs_set_fc S v) = cs_bl S := rfl
theorem cg_bl_pc (S : CS) (v : Nat) : cs_bl (cs_set_pc S v) = cs_bl S := rfl
theorem cg_bl_cyc (S : CS) (v : Nat) : cs_bl (cs_set_cyc S v) = cs_bl S := rfl
theorem cg_bl_lim (S : CS) (v : Nat → Int64) : cs_bl (cs_set_lim S v) = cs_bl S := rfl
theorem cg_bl_stk (S : CS) (v : Nat → Int32) : cs_bl (cs_set_stk S v) = cs_bl S := rfl
theorem cg_bl_flt (S : CS) (v : Nat → Int32) : cs_bl (cs_set_flt S v) = cs_bl S := rfl
theorem cg_bl_pts (S : CS) (v : Nat → Int64) : cs_bl (cs_set_pts S v) = cs_bl S := rfl
theorem cg_bl_rng (S : CS) (v : Nat → Int64) : cs_bl (cs_set_rng S v) = cs_bl S := rfl
theorem cg_bl_low (S : CS) (v : Nat → Int64) : cs_bl (cs_set_low S v) = cs_bl S := rfl
theorem cg_bl_ch (S : CS) (v : Nat → Int64) : cs_bl (cs_set_ch S v) = cs_bl S := rfl
theorem cg_bl_es (S : CS) (v : Nat → UInt64) : cs_bl (cs_set_es S v) = cs_bl S := rfl
theorem cg_bl_vo (S : CS) (v : Nat → Int64) : cs_bl (cs_set_vo S v) = cs_bl S := rfl
theorem cg_bl_wa (S : CS) (v : Nat → Int64) : cs_bl (cs_set_wa S v) = cs_bl S := rfl
theorem cg_bl_be (S : CS) (v : Nat → Int32) : cs_bl (cs_set_be S v) = cs_bl S := rfl
theorem cg_bl_bl (S : CS) (v : Nat → Int32) : cs_bl (cs_set_bl S v) = v := rfl
theorem mg_th_th (S : MS) (v : Int32) : cm_th (cm_set_th S v) = v := rfl
theorem mg_th_st (S : MS) (v : Nat) : cm_th (cm_set_st S v) = cm_th S := rfl
theorem mg_th_steps (S : MS) (v : Int32) : cm_th (cm_set_steps S v) = cm_th S := rfl
theorem mg_th_beg (S : MS) (v : Int32) : cm_th (cm_set_beg S v) = cm_th S := rfl
theorem mg_th_fc (S : MS) (v : Nat) : cm_th (cm_set_fc S v) = cm_th S := rfl
theorem mg_th_many (S : MS) (v : Nat) : cm_th (cm_set_many S v) = cm_th S := rfl
theorem mg_th_cyc (S : MS) (v : Nat) : cm_th (cm_set_cyc S v) = cm_th S := rfl
theorem mg_th_ch (S : MS) (v : Nat → Int64) : cm_th (cm_set_ch S v) = cm_th S := rfl
theorem mg_th_es (S : MS) (v : Nat → UInt64) : cm_th (cm_set_es S v) = cm_th S := rfl
theorem mg_th_vo (S : MS) (v : Nat → Int64) : cm_th (cm_set_vo S v) = cm_th S := rfl
theorem mg_th_wa (S : MS) (v : Nat → Int64) : cm_th (cm_set_wa S v) = cm_th S := rfl
theorem mg_th_be (S : MS) (v : Nat → Int32) : cm_th (cm_set_be S v) = cm_th S := rfl
theorem mg_th_bl (S : MS) (v : Nat → Int32) : cm_th (cm_set_bl S v) = cm_th S := rfl
theorem mg_th_lim (S : MS) (v : Nat → Int64) : cm_th (cm_set_lim S v) = cm_th S := rfl
theorem mg_th_stk (S : MS) (v : Nat → Int32) : cm_th (cm_set_stk S v) = cm_th S := rfl
theorem mg_th_flt (S : MS) (v : Nat → Int32) : cm_th (cm_set_flt S v) = cm_th S := rfl
theorem mg_th_pts (S : MS) (v : Nat → Int64) : cm_th (cm_set_pts S v) = cm_th S := rfl
theorem mg_th_rng (S : MS) (v : Nat → Int32) : cm_th (cm_set_rng S v) = cm_th S := rfl
theorem mg_th_low (S : MS) (v : Nat → Int32) : cm_th (cm_set_low S v) = cm_th S := rfl
theorem mg_st_th (S : MS) (v : Int32) : cm_st (cm_set_th S v) = cm_st S := rfl
theorem mg_st_st (S : MS) (v : Nat) : cm_st (cm_set_st S v) = v := rfl
theorem mg_st_steps (S : MS) (v : Int32) : cm_st (cm_set_steps S v) = cm_st S := rfl
theorem mg_st_beg (S : MS) (v : Int32) : cm_st (cm_set_beg S v) = cm_st S := rfl
theorem mg_st_fc (S : MS) (v : Nat) : cm_st (cm_set_fc S v) = cm_st S := rfl
theorem mg_st_many (S : MS) (v : Nat) : cm_st (cm_set_many S v) = cm_st S := rfl
theorem mg_st_cyc (S : MS) (v : Nat) : cm_st (cm_set_cyc S v) = cm_st S := rfl
theorem mg_st_ch (S : MS) (v : Nat → Int64) : cm_st (cm_set_ch S v) = cm_st S := rfl
theorem mg_st_es (S : MS) (v : Nat → UInt64) : cm_st (cm_set_es S v) = cm_st S := rfl
theorem mg_st_vo (S : MS) (v : Nat → Int64) : cm_st (cm_set_vo S v) = cm_st S := rfl
theorem mg_st_wa (S : MS) (v : Nat → Int64) : cm_st (cm_set_wa S v) = cm_st S := rfl
theorem mg_st_be (S : MS) (v : Nat → Int32) : cm_st (cm_set_be S v) = cm_st S := rfl
theorem mg_st_bl (S : MS) (v : Nat → Int32) : cm_st (cm_set_bl S v) = cm_st S := rfl
theorem mg_st_lim (S : MS) (v : Nat → Int64) : cm_st (cm_set_lim S v) = cm_st S := rfl
theorem mg_st_stk (S : MS) (v : Nat → Int32) : cm_st (cm_set_stk S v) = cm_st S := rfl
theorem mg_st_flt (S : MS) (v : Nat → Int32) : cm_st (cm_set_flt S v) = cm_st S := rfl
theorem mg_st_pts (S : MS) (v : Nat → Int64) : cm_st (cm_set_pts S v) = cm_st S := rfl
theorem mg_st_rng (S : MS) (v : Nat → Int32) : cm_st (cm_set_rng S v) = cm_st S := rfl
theorem mg_st_low (S : MS) (v : Nat → Int32) : cm_st (cm_set_low S v) = cm_st S := rfl
theorem mg_steps_th (S : MS) (v : Int32) : cm_steps (cm_set_th S v) = cm_steps S := rfl
theorem mg_steps_st (S : MS) (v : Nat) : cm_steps (cm_set_st S v) = cm_steps S := rfl
theorem mg_steps_steps (S : MS) (v : Int32) : cm_steps (cm_set_steps S v) = v := rfl
theorem mg_steps_beg (S : MS) (v : Int32) : cm_steps (cm_set_beg S v) = cm_steps S := rfl
theorem mg_steps_fc (S : MS) (v : Nat) : cm_steps (cm_set_fc S v) = cm_steps S := rfl
theorem mg_steps_many (S : MS) (v : Nat) : cm_steps (cm_set_many S v) = cm_steps S := rfl
theorem mg_steps_cyc (S : MS) (v : Nat) : cm_steps (cm_set_cyc S v) = cm_steps S := rfl
theorem mg_steps_ch (S : MS) (v : Nat → Int64) : cm_steps (cm_set_ch S v) = cm_steps S := rfl
theorem mg_steps_es (S : MS) (v : Nat → UInt64) : cm_steps (cm_set_es S v) = cm_steps S := rfl
theorem mg_steps_vo (S : MS) (v : Nat → Int64) : cm_steps (cm_set_vo S v) = cm_steps S := rfl
theorem mg_steps_wa (S : MS) (v : Nat → Int64) : cm_steps (cm_set_wa S v) = cm_steps S := rfl
theorem mg_steps_be (S : MS) (v : Nat → Int32) : cm_steps (cm_set_be S v) = cm_steps S := rfl
theorem mg_steps_bl (S : MS) (v : Nat → Int32) : cm_steps (cm_set_bl S v) = cm_steps S := rfl
theorem mg_steps_lim (S : MS) (v : Nat → Int64) : cm_steps (cm_set_lim S v) = cm_steps S := rfl
theorem mg_steps_stk (S : MS) (v : Nat → Int32) : cm_steps (cm_set_stk S v) = cm_steps S := rfl
theorem mg_steps_flt (S : MS) (v : Nat → Int32) : cm_steps (cm_set_flt S v) = cm_steps S := rfl
theorem mg_steps_pts (S : MS) (v : Nat → Int64) : cm_steps (cm_set_pts S v) = cm_steps S := rfl
theorem mg_steps_rng (S : MS) (v : Nat → Int32) : cm_steps (cm_set_rng S v) = cm_steps S := rfl
theorem mg_steps_low (S : MS) (v : Nat → Int32) : cm_steps (cm_set_low S v) = cm_steps S := rfl
theorem mg_beg_th (S : MS) (v : Int32) : cm_beg (cm_set_th S v) = cm_beg S := rfl
theorem mg_beg_st (S : MS) (v : Nat) : cm_beg (cm_set_st S v) = cm_beg S := rfl
theorem mg_beg_steps (S : MS) (v : Int32) : cm_beg (cm_set_steps S v) = cm_beg S := rfl
theorem mg_beg_beg (S : MS) (v : Int32) : cm_beg (cm_set_beg S v) = v := rfl
theorem mg_beg_fc (S : MS) (v : Nat) : cm_beg (cm_set_fc S v) = cm_beg S := rfl
theorem mg_beg_many (S : MS) (v : Nat) : cm_beg (cm_set_many S v) = cm_beg S := rfl
theorem mg_beg_cyc (S : MS) (v : Nat) : cm_beg (cm_set_cyc S v) = cm_beg S := rfl
theorem mg_beg_ch (S : MS) (v : Nat → Int64) : cm_beg (cm_set_ch S v) = cm_beg S := rfl
theorem mg_beg_es (S : MS) (v : Nat → UInt64) : cm_beg (cm_set_es S v) = cm_beg S := rfl
theorem mg_beg_vo (S : MS) (v : Nat → Int64) : cm_beg (cm_set_vo S v) = cm_beg S := rfl
theorem mg_beg_wa (S : MS) (v : Nat → Int64) : cm_beg (cm_set_wa S v) = cm_beg S := rfl
theorem mg_beg_be (S : MS) (v : Nat → Int32) : cm_beg (cm_set_be S v) = cm_beg S := rfl
theorem mg_beg_bl (S : MS) (v : Nat → Int32) : cm_beg (cm_set_bl S v) = cm_beg S := rfl
theorem mg_beg_lim (S : MS) (v : Nat → Int64) : cm_beg (cm_set_lim S v) = cm_beg S := rfl
theorem mg_beg_stk (S : MS) (v : Nat → Int32) : cm_beg (cm_set_stk S v) = cm_beg S := rfl
theorem mg_beg_flt (S : MS) (v : Nat → Int32) : cm_beg (cm_set_flt S v) = cm_beg S := rfl
theorem mg_beg_pts (S : MS) (v : Nat → Int64) : cm_beg (cm_set_pts S v) = cm_beg S := rfl
theorem mg_beg_rng (S : MS) (v : Nat → Int32) : cm_beg (cm_set_rng S v) = cm_beg S := rfl
theorem mg_beg_low (S : MS) (v : Nat → Int32) : cm_beg (cm_set_low S v) = cm_beg S := rfl
theorem mg_fc_th (S : MS) (v : Int32) : cm_fc (cm_set_th S v) = cm_fc S := rfl
theorem mg_fc_st (S : MS) (v : Nat) : cm_fc (cm_set_st S v) = cm_fc S := rfl
theorem mg_fc_steps (S : MS) (v : Int32) : cm_fc (cm_set_steps S v) = cm_fc S := rfl
theorem mg_fc_beg (S : MS) (v : Int32) : cm_fc (cm_set_beg S v) = cm_fc S := rfl
theorem mg_fc_fc (S : MS) (v : Nat) : cm_fc (cm_set_fc S v) = v := rfl
theorem mg_fc_many (S : MS) (v : Nat) : cm_fc (cm_set_many S v) = cm_fc S := rfl
theorem mg_fc_cyc (S : MS) (v : Nat) : cm_fc (cm_set_cyc S v) = cm_fc S := rfl
theorem mg_fc_ch (S : MS) (v : Nat → Int64) : cm_fc (cm_set_ch S v) = cm_fc S := rfl
theorem mg_fc_es (S : MS) (v : Nat → UInt64) : cm_fc (cm_set_es S v) = cm_fc S := rfl
theorem mg_fc_vo (S : MS) (v : Nat → Int64) : cm_fc (cm_set_vo S v) = cm_fc S := rfl
theorem mg_fc_wa (S : MS) (v : Nat → Int64) : cm_fc (cm_set_wa S v) = cm_fc S := rfl
theorem mg_fc_be (S : MS) (v : Nat → Int32) : cm_fc (cm_set_be S v) = cm_fc S := rfl
theorem mg_fc_bl (S : MS) (v : Nat → Int32) : cm_fc (cm_set_bl S v) = cm_fc S := rfl
theorem mg_fc_lim (S : MS) (v : Nat → Int64) : cm_fc (cm_set_lim S v) = cm_fc S := rfl
theorem mg_fc_stk (S : MS) (v : Nat → Int32) : cm_fc (cm_set_stk S v) = cm_fc S := rfl
theorem mg_fc_flt (S : MS) (v : Nat → Int32) : cm_fc (cm_set_flt S v) = cm_fc S := rfl
theorem mg_fc_pts (S : MS) (v : Nat → Int64) : cm_fc (cm_set_pts S v) = cm_fc S := rfl
theorem mg_fc_rng (S : MS) (v : Nat → Int32) : cm_fc (cm_set_rng S v) = cm_fc S := rfl
theorem mg_fc_low (S : MS) (v : Nat → Int32) : cm_fc (cm_set_low S v) = cm_fc S := rfl
theorem mg_many_th (S : MS) (v : Int32) : cm_many (cm_set_th S v) = cm_many S := rfl
theorem mg_many_st (S : MS) (v : Nat) : cm_many (cm_set_st S v) = cm_many S := rfl
theorem mg_many_steps (S : MS) (v : Int32) : cm_many (cm_set_steps S v) = cm_many S := rfl
theorem mg_many_beg (S : MS) (v : Int32) : cm_many (cm_set_beg S v) = cm_many S := rfl
theorem mg_many_fc (S : MS) (v : Nat) : cm_many (cm_set_fc S v) = cm_many S := rfl
theorem mg_many_many (S : MS) (v : Nat) : cm_many (cm_set_many S v) = v := rfl
theorem mg_many_cyc (S : MS) (v : Nat) : cm_many (cm_set_cyc S v) = cm_many S := rfl
theorem mg_many_ch (S : MS) (v : Nat → Int64) : cm_many (cm_set_ch S v) = cm_many S := rfl
theorem mg_many_es (S : MS) (v : Nat → UInt64) : cm_many (cm_set_es S v) = cm_many S := rfl
theorem mg_many_vo (S : MS) (v : Nat → Int64) : cm_many (cm_set_vo S v) = cm_many S := rfl
theorem mg_many_wa (S : MS) (v : Nat → Int64) : cm_many (cm_set_wa S v) = cm_many S := rfl
theorem mg_many_be (S : MS) (v : Nat → Int32) : cm_many (cm_set_be S v) = cm_many S := rfl
theorem mg_many_bl (S : MS) (v : Nat → Int32) : cm_many (cm_set_bl S v) = cm_many S := rfl
theorem mg_many_lim (S : MS) (v : Nat → Int64) : cm_many (cm_set_lim S v) = cm_many S := rfl
theorem mg_many_stk (S : MS) (v : Nat → Int32) : cm_many (cm_set_stk S v) = cm_many S := rfl
theorem mg_many_flt (S : MS) (v : Nat → Int32) : cm_many (cm_set_flt S v) = cm_many S := rfl
theorem mg_many_pts (S : MS) (v : Nat → Int64) : cm_many (cm_set_pts S v) = cm_many S := rfl
theorem mg_many_rng (S : MS) (v : Nat → Int32) : cm_many (cm_set_rng S v) = cm_many S := rfl
theorem mg_many_low (S : MS) (v : Nat → Int32) : cm_many (cm_set_low S v) = cm_many S := rfl
theorem mg_cyc_th (S : MS) (v : Int32) : cm_cyc (cm_set_th S v) = cm_cyc S := rfl
theorem mg_cyc_st (S : MS) (v : Nat) : cm_cyc (cm_set_st S v) = cm_cyc S := rfl
theorem mg_cyc_steps (S : MS) (v : Int32) : cm_cyc (cm_set_steps S v) = cm_cyc S := rfl
theorem mg_cyc_beg (S : MS) (v : Int32) : cm_cyc (cm_set_beg S v) = cm_cyc S := rfl
theorem mg_cyc_fc (S : MS) (v : Nat) : cm_cyc (cm_set_fc S v) = cm_cyc S := rfl
theorem mg_cyc_many (S : MS) (v : Nat) : cm_cyc (cm_set_many S v) = cm_cyc S := rfl
theorem mg_cyc_cyc (S : MS) (v : Nat) : cm_cyc (cm_set_cyc S v) = v := rfl
theorem mg_cyc_ch (S : MS) (v : Nat → Int64) : cm_cyc (cm_set_ch S v) = cm_cyc S := rfl
theorem mg_cyc_es (S : MS) (v : Nat → UInt64) : cm_cyc (cm_set_es S v) = cm_cyc S := rfl
theorem mg_cyc_vo (S : MS) (v : Nat → Int64) : cm_cyc (cm_set_vo S v) = cm_cyc S := rfl
theorem mg_cyc_wa (S : MS) (v : Nat → Int64) : cm_cyc (cm_set_wa S v) = cm_cyc S := rfl
theorem mg_cyc_be (S : MS) (v : Nat → Int32) : cm_cyc (cm_set_be S v) = cm_cyc S := rfl
theorem mg_cyc_bl (S : MS) (v : Nat → Int32) : cm_cyc (cm_set_bl S v) = cm_cyc S := rfl
theorem mg_cyc_lim (S : MS) (v : Nat → Int64) : cm_cyc (cm_set_lim S v) = cm_cyc S := rfl
theorem mg_cyc_stk (S : MS) (v : Nat → Int32) : cm_cyc (cm_set_stk S v) = cm_cyc S := rfl
theorem mg_cyc_flt (S : MS) (v : Nat → Int32) : cm_cyc (cm_set_flt S v) = cm_cyc S := rfl
theorem mg_cyc_pts (S : MS) (v : Nat → Int64) : cm_cyc (cm_set_pts S v) = cm_cyc S := rfl
theorem mg_cyc_rng (S : MS) (v : Nat → Int32) : cm_cyc (cm_set_rng S v) = cm_cyc S := rfl
theorem mg_cyc_low (S : MS) (v : Nat → Int32) : cm_cyc (cm_set_low S v) = cm_cyc S := rfl
theorem mg_ch_th (S : MS) (v : Int32) : cm_ch (cm_set_th S v) = cm_ch S := rfl
theorem mg_ch_st (S : MS) (v : Nat) : cm_ch (cm_set_st S v) = cm_ch S := rfl
theorem mg_ch_steps (S : MS) (v : Int32) : cm_ch (cm_set_steps S v) = cm_ch S := rfl
theorem mg_ch_beg (S : MS) (v : Int32) : cm_ch (cm_set_beg S v) = cm_ch S := rfl
theorem mg_ch_fc (S : MS) (v : Nat) : cm_ch (cm_set_fc S v) = cm_ch S := rfl
theorem mg_ch_many (S : MS) (v : Nat) : cm_ch (cm_set_many S v) = cm_ch S := rfl
theorem mg_ch_cyc (S : MS) (v : Nat) : cm_ch (cm_set_cyc S v) = cm_ch S := rfl
theorem mg_ch_ch (S : MS) (v : Nat → Int64) : cm_ch (cm_set_ch S v) = v := rfl
theorem mg_ch_es (S : MS) (v : Nat → UInt64) : cm_ch (cm_set_es S v) = cm_ch S := rfl
theorem mg_ch_vo (S : MS) (v : Nat → Int64) : cm_ch (cm_set_vo S v) = cm_ch S := rfl
theorem mg_ch_wa (S : MS) (v : Nat → Int64) : cm_ch (cm_set_wa S v) = cm_ch S := rfl
theorem mg_ch_be (S : MS) (v : Nat → Int32) : cm_ch (cm_set_be S v) = cm_ch S := rfl
theorem mg_ch_bl (S : MS) (v : Nat → Int32) : cm_ch (cm_set_bl S v) = cm_ch S := rfl
theorem mg_ch_lim (S : MS) (v : Nat → Int64) : cm_ch (cm_set_lim S v) = cm_ch S := rfl
theorem mg_ch_stk (S : MS) (v : Nat → Int32) : cm_ch (cm_set_stk S v) = cm_ch S := rfl
theorem mg_ch_flt (S : MS) (v : Nat → Int32) : cm_ch (cm_set_flt S v) = cm_ch S := rfl
theorem mg_ch_pts (S : MS) (v : Nat → Int64) : cm_ch (cm_set_pts S v) = cm_ch S := rfl
theorem mg_ch_rng (S : MS) (v : Nat → Int32) : cm_ch (cm_set_rng S v) = cm_ch S := rfl
theorem mg_ch_low (S : MS) (v : Nat → Int32) : cm_ch (cm_set_low S v) = cm_ch S := rfl
theorem mg_es_th (S : MS) (v : Int32) : cm_es (cm_set_th S v) = cm_es S := rfl
theorem mg_es_st (S : MS) (v : Nat) : cm_es (cm_set_st S v) = cm_es S := rfl
theorem mg_es_steps (S : MS) (v : Int32) : cm_es (cm_set_steps S v) = cm_es S := rfl
theorem mg_es_beg (S : MS) (v : Int32) : cm_es (cm_set_beg S v) = cm_es S := rfl
theorem mg_es_fc (S : MS) (v : Nat) : cm_es (cm_set_fc S v) = cm_es S := rfl
theorem mg_es_many (S : MS) (v : Nat) : cm_es (cm_set_many S v) = cm_es S := rfl
theorem mg_es_cyc (S : MS) (v : Nat) : cm_es (cm_set_cyc S v) = cm_es S := rfl
theorem mg_es_ch (S : MS) (v : Nat → Int64) : cm_es (cm_set_ch S v) = cm_es S := rfl
theorem mg_es_es (S : MS) (v : Nat → UInt64) : cm_es (cm_set_es S v) = v := rfl
theorem mg_es_vo (S : MS) (v : Nat → Int64) : cm_es (cm_set_vo S v) = cm_es S := rfl
theorem mg_es_wa (S : MS) (v : Nat → Int64) : cm_es (cm_set_wa S v) = cm_es S := rfl
theorem mg_es_be (S : MS) (v : Nat → Int32) : cm_es (cm_set_be S v) = cm_es S := rfl
theorem mg_es_bl (S : MS) (v : Nat → Int32) : cm_es (cm_set_bl S v) = cm_es S := rfl
theorem mg_es_lim (S : MS) (v : Nat → Int64) : cm_es (cm_set_lim S v) = cm_es S := rfl
theorem mg_es_stk (S : MS) (v : Nat → Int32) : cm_es (cm_set_stk S v) = cm_es S := rfl
theorem mg_es_flt (S : MS) (v : Nat → Int32) : cm_es (cm_set_flt S v) = cm_es S := rfl
theorem mg_es_pts (S : MS) (v : Nat → Int64) : cm_es (cm_set_pts S v) = cm_es S := rfl
theorem mg_es_rng (S : MS) (v : Nat → Int32) : cm_es (cm_set_rng S v) = cm_es S := rfl
theorem mg_es_low (S : MS) (v : Nat → Int32) : cm_es (cm_set_low S v) = cm_es S := rfl
theorem mg_vo_th (S : MS) (v : Int32) : cm_vo (cm_set_th S v) = cm_vo S := rfl
theorem mg_vo_st (S : MS) (v : Nat) : cm_vo (cm_set_st S v) = cm_vo S := rfl
theorem mg_vo_steps (S : MS) (v : Int32) : cm_vo (cm_set_steps S v) = cm_vo S := rfl
theorem mg_vo_beg (S : MS) (v : Int32) : cm_vo (cm_set_beg S v) = cm_vo S := rfl
theorem mg_vo_fc (S : MS) (v : Nat) : cm_vo (cm_set_fc S v) = cm_vo S := rfl
theorem mg_vo_many (S : MS) (v : Nat) : cm_vo (cm_set_many S v) = cm_vo S := rfl
theorem mg_vo_cyc (S : MS) (v : Nat) : cm_vo (cm_set_cyc S v) = cm_vo S := rfl
theorem mg_vo_ch (S : MS) (v : Nat → Int64) : cm_vo (cm_set_ch S v) = cm_vo S := rfl
theorem mg_vo_es (S : MS) (v : Nat → UInt64) : cm_vo (cm_set_es S v) = cm_vo S := rfl
theorem mg_vo_vo (S : MS) (v : Nat → Int64) : cm_vo (cm_set_vo S v) = v := rfl
theorem mg_vo_wa (S : MS) (v : Nat → Int64) : cm_vo (cm_set_wa S v) = cm_vo S := rfl
theorem mg_vo_be (S : MS) (v : Nat → Int32) : cm_vo (cm_set_be S v) = cm_vo S := rfl
theorem mg_vo_bl (S : MS) (v : Nat → Int32) : cm_vo (cm_set_bl S v) = cm_vo S := rfl
theorem mg_vo_lim (S : MS) (v : Nat → Int64) : cm_vo (cm_set_lim S v) = cm_vo S := rfl
theorem mg_vo_stk (S : MS) (v : Nat → Int32) : cm_vo (cm_set_stk S v) = cm_vo S := rfl
theorem mg_vo_flt (S : MS) (v : Nat → Int32) : cm_vo (cm_set_flt S v) = cm_vo S := rfl
theorem mg_vo_pts (S : MS) (v : Nat → Int64) : cm_vo (cm_set_pts S v) = cm_vo S := rfl
theorem mg_vo_rng (S : MS) (v : Nat → Int32) : cm_vo (cm_set_rng S v) = cm_vo S := rfl
theorem mg_vo_low (S : MS) (v : Nat → Int32) : cm_vo (cm_set_low S v) = cm_vo S := rfl
theorem mg_wa_th (S : MS) (v : Int32) : cm_wa (cm_set_th S v) = cm_wa S := rfl
theorem mg_wa_st (S : MS) (v : Nat) : cm_wa (cm_set_st S v) = cm_wa S := rfl
theorem mg_wa_steps (S : MS) (v : Int32) : cm_wa (cm_set_steps S v) = cm_wa S := rfl
theorem mg_wa_beg (S : MS) (v : Int32) : cm_wa (cm_set_beg S v) = cm_wa S := rfl
theorem mg_wa_fc (S : MS) (v : Nat) : cm_wa (cm_set_fc S v) = cm_wa S := rfl
theorem mg_wa_many (S : MS) (v : Nat) : cm_wa (cm_set_many S v) = cm_wa S := rfl
theorem mg_wa_cyc (S : MS) (v : Nat) : cm_wa (cm_set_cyc S v) = cm_wa S := rfl
theorem mg_wa_ch (S : MS) (v : Nat → Int64) : cm_wa (cm_set_ch S v) = cm_wa S := rfl
theorem mg_wa_es (S : MS) (v : Nat → UInt64) : cm_wa (cm_set_es S v) = cm_wa S := rfl
theorem mg_wa_vo (S : MS) (v : Nat → Int64) : cm_wa (cm_set_vo S v) = cm_wa S := rfl
theorem mg_wa_wa (S : MS) (v : Nat → Int64) : cm_wa (cm_set_wa S v) = v := rfl
theorem mg_wa_be (S : MS) (v : Nat → Int32) : cm_wa (cm_set_be S v) = cm_wa S := rfl
theorem mg_wa_bl (S : MS) (v : Nat → Int32) : cm_wa (cm_set_bl S v) = cm_wa S := rfl
theorem mg_wa_lim (S : MS) (v : Nat → Int64) : cm_wa (cm_set_lim S v) = cm_wa S := rfl
theorem mg_wa_stk (S : MS) (v : Nat → Int32) : cm_wa (cm_set_stk S v) = cm_wa S := rfl
theorem mg_wa_flt (S : MS) (v : Nat → Int32) : cm_wa (cm_set_flt S v) = cm_wa S := rfl
theorem mg_wa_pts (S : MS) (v : Nat → Int64) : cm_wa (cm_set_pts S v) = cm_wa S := rfl
theorem mg_wa_rng (S : MS) (v : Nat → Int32) : cm_wa (cm_set_rng S v) = cm_wa S := rfl
theorem mg_wa_low (S : MS) (v : Nat → Int32) : cm_wa (cm_set_low S v) = cm_wa S := rfl
theorem mg_be_th (S : MS) (v : Int32) : cm_be (cm_set_th S v) = cm_be S := rfl
theorem mg_be_st (S : MS) (v : Nat) : cm_be (cm_set_st S v) = cm_be S := rfl
theorem mg_be_steps (S : MS) (v : Int32) : cm_be (cm_set_steps S v) = cm_be S := rfl
theorem mg_be_beg (S : MS) (v : Int32) : cm_be (cm_set_beg S v) = cm_be S := rfl
theorem mg_be_fc (S : MS) (v : Nat) : cm_be (cm_set_fc S v) = cm_be S := rfl
theorem mg_be_many (S : MS) (v : Nat) : cm_be (cm_set_many S v) = cm_be S := rfl
theorem mg_be_cyc (S : MS) (v : Nat) : cm_be (cm_set_cyc S v) = cm_be S := rfl
theorem mg_be_ch (S : MS) (v : Nat → Int64) : cm_be (cm_set_ch S v) = cm_be S := rfl
theorem mg_be_es (S : MS) (v : Nat → UInt64) : cm_be (cm_set_es S v) = cm_be S := rfl
theorem mg_be_vo (S : MS) (v : Nat → Int64) : cm_be (cm_set_vo S v) = cm_be S := rfl
theorem mg_be_wa (S : MS) (v : Nat → Int64) : cm_be (cm_set_wa S v) = cm_be S := rfl
theorem mg_be_be (S : MS) (v : Nat → Int32) : cm_be (cm_set_be S v) = v := rfl
theorem mg_be_bl (S : MS) (v : Nat → Int32) : cm_be (cm_set_bl S v) = cm_be S := rfl
theorem mg_be_lim (S : MS) (v : Nat → Int64) : cm_be (cm_set_lim S v) = cm_be S := rfl
theorem mg_be_stk (S : MS) (v : Nat → Int32) : cm_be (cm_set_stk S v) = cm_be S := rfl
theorem mg_be_flt (S : MS) (v : Nat → Int32) : cm_be (cm_set_flt S v) = cm_be S := rfl
theorem mg_be_pts (S : MS) (v : Nat → Int64) : cm_be (cm_set_pts S v) = cm_be S := rfl
theorem mg_be_rng (S : MS) (v : Nat → Int32) : cm_be (cm_set_rng S v) = cm_be S := rfl
theorem mg_be_low (S : MS) (v : Nat → Int32) : cm_be (cm_set_low S v) = cm_be S := rfl
theorem mg_bl_th (S : MS) (v : Int32) : cm_bl (cm_set_th S v) = cm_bl S := rfl
theorem mg_bl_st (S : MS) (v : Nat) : cm_bl (cm_set_st S v) = cm_bl S := rfl
theorem mg_bl_steps (S : MS) (v : Int32) : cm_bl (cm_set_steps S v) = cm_bl S := rfl
theorem mg_bl_beg (S : MS) (v : Int32) : cm_bl (cm_set_beg S v) = cm_bl S := rfl
theorem mg_bl_fc (S : MS) (v : Nat) : cm_bl (cm_set_fc S v) = cm_bl S := rfl
theorem mg_bl_many (S : MS) (v : Nat) : cm_bl (cm_set_many S v) = cm_bl S := rfl
theorem mg_bl_cyc (S : MS) (v : Nat) : cm_bl (cm_set_cyc S v) = cm_bl S := rfl
theorem mg_bl_ch (S : MS) (v : Nat → Int64) : cm_bl (cm_set_ch S v) = cm_bl S := rfl
theorem mg_bl_es (S : MS) (v : Nat → UInt64) : cm_bl (cm_set_es S v) = cm_bl S := rfl
theorem mg_bl_vo (S : MS) (v : Nat → Int64) : cm_bl (cm_set_vo S v) = cm_bl S := rfl
theorem mg_bl_wa (S : MS) (v : Nat → Int64) : cm_bl (cm_set_wa S v) = cm_bl S := rfl
theorem mg_bl_be (S : MS) (v : Nat → Int32) : cm_bl (cm_set_be S v) = cm_bl S := rfl
theorem mg_bl_bl (S : MS) (v : Nat → Int32) : cm_bl (cm_set_bl S v) = v := rfl
theorem mg_bl_lim (S : MS) (v : Nat → Int64) : cm_bl (cm_set_lim S v) = cm_bl S := rfl
theorem mg_bl_stk (S : MS) (v : Nat → Int32) : cm_bl (cm_set_stk S v) = cm_bl S := rfl
theorem mg_bl_flt (S : MS) (v : Nat → Int32) : cm_bl (cm_set_flt S v) = cm_bl S := rfl
theorem mg_bl_pts (S : MS) (v : Nat → Int64) : cm_bl (cm_set_pts S v) = cm_bl S := rfl
theorem mg_bl_rng (S : MS) (v : Nat → Int32) : cm_bl (cm_set_rng S v) = cm_bl S := rfl
theorem mg_bl_low (S : MS) (v : Nat → Int32) : cm_bl (cm_set_low S v) = cm_bl S := rfl
theorem mg_lim_th (S : MS) (v : Int32) : cm_lim (cm_set_th S v) = cm_lim S := rfl
theorem mg_lim_st (S : MS) (v : Nat) : cm_lim (cm_set_st S v) = cm_lim S := rfl
theorem mg_lim_steps (S : MS) (v : Int32) : cm_lim (cm_set_steps S v) = cm_lim S := rfl
theorem mg_lim_beg (S : MS) (v : Int32) : cm_lim (cm_set_beg S v) = cm_lim S := rfl
theorem mg_lim_fc (S : MS) (v : Nat) : cm_lim (cm_set_fc S v) = cm_lim S := rfl
theorem mg_lim_many (S : MS) (v : Nat) : cm_lim (cm_set_many S v) = cm_lim S := rfl
theorem mg_lim_cyc (S : MS) (v : Nat) : cm_lim (cm_set_cyc S v) = cm_lim S := rfl
theorem mg_lim_ch (S : MS) (v : Nat → Int64) : cm_lim (cm_set_ch S v) = cm_lim S := rfl
theorem mg_lim_es (S : MS) (v : Nat → UInt64) : cm_lim (cm_set_es S v) = cm_lim S := rfl
theorem mg_lim_vo (S : MS) (v : Nat → Int64) : cm_lim (cm_set_vo S v) = cm_lim S := rfl
theorem mg_lim_wa (S : MS) (v : Nat → Int64) : cm_lim (cm_set_wa S v) = cm_lim S := rfl
theorem mg_lim_be (S : MS) (v : Nat → Int32) : cm_lim (cm_set_be S v) = cm_lim S := rfl
theorem mg_lim_bl (S : MS) (v : Nat → Int32) : cm_lim (cm_set_bl S v) = cm_lim S := rfl
theorem mg_lim_lim (S : MS) (v : Nat → Int64) : cm_lim (cm_set_lim S v) = v := rfl
theorem mg_lim_stk (S : MS) (v : Nat → Int32) : cm_lim (cm_set_stk S v) = cm_lim S := rfl
theorem mg_lim_flt (S : MS) (v : Nat → Int32) : cm_lim (cm_set_flt S v) = cm_lim S := rfl
theorem mg_lim_pts (S : MS) (v : Nat → Int64) : cm_lim (cm_set_pts S v) = cm_lim S := rfl
theorem mg_lim_rng (S : MS) (v : Nat → Int32) : cm_lim (cm_set_rng S v) = cm_lim S := rfl
theorem mg_lim_low (S : MS) (v : Nat → Int32) : cm_lim (cm_set_low S v) = cm_lim S := rfl
theorem mg_stk_th (S : MS) (v : Int32) : cm_stk (cm_set_th S v) = cm_stk S := rfl
theorem mg_stk_st (S : MS) (v : Nat) : cm_stk (cm_set_st S v) = cm_stk S := rfl
theorem mg_stk_steps (S : MS) (v : Int32) : cm_stk (cm_set_steps S v) = cm_stk S := rfl
theorem mg_stk_beg (S : MS) (v : Int32) : cm_stk (cm_set_beg S v) = cm_stk S := rfl
theorem mg_stk_fc (S : MS) (v : Nat) : cm_stk (cm_set_fc S v) = cm_stk S := rfl
theorem mg_stk_many (S : MS) (v : Nat) : cm_stk (cm_set_many S v) = cm_stk S := rfl
theorem mg_stk_cyc (S : MS) (v : Nat) : cm_stk (cm_set_cyc S v) = cm_stk S := rfl
theorem mg_stk_ch (S : MS) (v : Nat → Int64) : cm_stk (cm_set_ch S v) = cm_stk S := rfl
theorem mg_stk_es (S : MS) (v : Nat → UInt64) : cm_stk (cm_set_es S v) = cm_stk S := rfl
theorem mg_stk_vo (S : MS) (v : Nat → Int64) : cm_stk (cm_set_vo S v) = cm_stk S := rfl
theorem mg_stk_wa (S : MS) (v : Nat → Int64) : cm_stk (cm_set_wa S v) = cm_stk S := rfl
theorem mg_stk_be (S : MS) (v : Nat → Int32) : cm_stk (cm_set_be S v) = cm_stk S := rfl
theorem mg_stk_bl (S : MS) (v : Nat → Int32) : cm_stk (cm_set_bl S v) = cm_stk S := rfl
theorem mg_stk_lim (S : MS) (v : Nat → Int64) : cm_stk (cm_set_lim S v) = cm_stk S := rfl
theorem mg_stk_stk (S : MS) (v : Nat → Int32) : cm_stk (cm_set_stk S v) = v := rfl
theorem mg_stk_flt (S : MS) (v : Nat → Int32) : cm_stk (cm_set_flt S v) = cm_stk S := rfl
theorem mg_stk_pts (S : MS) (v : Nat → Int64) : cm_stk (cm_set_pts S v) = cm_stk S := rfl
theorem mg_stk_rng (S : MS) (v : Nat → Int32) : cm_stk (cm_set_rng S v) = cm_stk S := rfl
theorem mg_stk_low (S : MS) (v : Nat → Int32) : cm_stk (cm_set_low S v) = cm_stk S := rfl
theorem mg_flt_th (S : MS) (v : Int32) : cm_flt (cm_set_th S v) = cm_flt S := rfl
theorem mg_flt_st (S : MS) (v : Nat) : cm_flt (cm_set_st S v) = cm_flt S := rfl
theorem mg_flt_steps (S : MS) (v : Int32) : cm_flt (cm_set_steps S v) = cm_flt S := rfl
theorem mg_flt_beg (S : MS) (v : Int32) : cm_flt (cm_set_beg S v) = cm_flt S := rfl
theorem mg_flt_fc (S : MS) (v : Nat) : cm_flt (cm_set_fc S v) = cm_flt S := rfl
theorem mg_flt_many (S : MS) (v : Nat) : cm_flt (cm_set_many S v) = cm_flt S := rfl
theorem mg_flt_cyc (S : MS) (v : Nat) : cm_flt (cm_set_cyc S v) = cm_flt S := rfl
theorem mg_flt_ch (S : MS) (v : Nat → Int64) : cm_flt (cm_set_ch S v) = cm_flt S := rfl
theorem mg_flt_es (S : MS) (v : Nat → UInt64) : cm_flt (cm_set_es S v) = cm_flt S := rfl
theorem mg_flt_vo (S : MS) (v : Nat → Int64) : cm_flt (cm_set_vo S v) = cm_flt S := rfl
theorem mg_flt_wa (S : MS) (v : Nat → Int64) : cm_flt (cm_set_wa S v) = cm_flt S := rfl
theorem mg_flt_be (S : MS) (v : Nat → Int32) : cm_flt (cm_set_be S v) = cm_flt S := rfl
theorem mg_flt_bl (S : MS) (v : Nat → Int32) : cm_flt (cm_set_bl S v) = cm_flt S := rfl
theorem mg_flt_lim (S : MS) (v : Nat → Int64) : cm_flt (cm_set_lim S v) = cm_flt S := rfl
theorem mg_flt_stk (S : MS) (v : Nat → Int32) : cm_flt (cm_set_stk S v) = cm_flt S := rfl
theorem mg_flt_flt (S : MS) (v : Nat → Int32) : cm_flt (cm_set_flt S v) = v := rfl
theorem mg_flt_pts (S : MS) (v : Nat → Int64) : cm_flt (cm_set_pts S v) = cm_flt S := rfl
theorem mg_flt_rng (S : MS) (v : Nat → Int32) : cm_flt (cm_set_rng S v) = cm_flt S := rfl
theorem mg_flt_low (S : MS) (v : Nat → Int32) : cm_flt (cm_set_low S v) = cm_flt S := rfl
theorem mg_pts_th (S : MS) (v : Int32) : cm_pts (cm_set_th S v) = cm_pts S := rfl
theorem mg_pts_st (S : MS) (v : Nat) : cm_pts (cm_set_st S v) = cm_pts S := rfl
theorem mg_pts_steps (S : MS) (v : Int32) : cm_pts (cm_set_steps S v) = cm_pts S := rfl
theorem mg_pts_beg (S : MS) (v : Int32) : cm_pts (cm_set_beg S v) = cm_pts S := rfl
theorem mg_pts_fc (S : MS) (v : Nat) : cm_pts (cm_set_fc S v) = cm_pts S := rfl
theorem mg_pts_many (S : MS) (v : Nat) : cm_pts (cm_set_many S v) = cm_pts S := rfl
theorem mg_pts_cyc (S : MS) (v : Nat) : cm_pts (cm_set_cyc S v) = cm_pts S := rfl
theorem mg_pts_ch (S : MS) (v : Nat → Int64) : cm_pts (cm_set_ch S v) = cm_pts S := rfl
theorem mg_pts_es (S : MS) (v : Nat → UInt64) : cm_pts (cm_set_es S v) = cm_pts S := rfl
theorem mg_pts_vo (S : MS) (v : Nat → Int64) : cm_pts (cm_set_vo S v) = cm_pts S := rfl
theorem mg_pts_wa (S : MS) (v : Nat → Int64) : cm_pts (cm_set_wa S v) = cm_pts S := rfl
theorem mg_pts_be (S : MS) (v : Nat → Int32) : cm_pts (cm_set_be S v) = cm_pts S := rfl
theorem mg_pts_bl (S : MS) (v : Nat → Int32) : cm_pts (cm_set_bl S v) = cm_pts S := rfl
theorem mg_pts_lim (S : MS) (v : Nat → Int64) : cm_pts (cm_set_lim S v) = cm_pts S := rfl
theorem mg_pts_stk (S : MS) (v : Nat → Int32) : cm_pts (cm_set_stk S v) = cm_pts S := rfl
theorem mg_pts_flt (S : MS) (v : Nat → Int32) : cm_pts (cm_set_flt S v) = cm_pts S := rfl
theorem mg_pts_pts (S : MS) (v : Nat → Int64) : cm_pts (cm_set_pts S v) = v := rfl
theorem mg_pts_rng (S : MS) (v : Nat → Int32) : cm_pts (cm_set_rng S v) = cm_pts S := rfl
theorem mg_pts_low (S : MS) (v : Nat → Int32) : cm_pts (cm_set_low S v) = cm_pts S := rfl
theorem mg_rng_th (S : MS) (v : Int32) : cm_rng (cm_set_th S v) = cm_rng S := rfl
theorem mg_rng_st (S : MS) (v : Nat) : cm_rng (cm_set_st S v) = cm_rng S := rfl
theorem mg_rng_steps (S : MS) (v : Int32) : cm_rng (cm_set_steps S v) = cm_rng S := rfl
theorem mg_rng_beg (S : MS) (v : Int32) : cm_rng (cm_set_beg S v) = cm_rng S := rfl
theorem mg_rng_fc (S : MS) (v : Nat) : cm_rng (cm_set_fc S v) = cm_rng S := rfl
theorem mg_rng_many (S : MS) (v : Nat) : cm_rng (cm_set_many S v) = cm_rng S := rfl
theorem mg_rng_cyc (S : MS) (v : Nat) : cm_rng (cm_set_cyc S v) = cm_rng S := rfl
theorem mg_rng_ch (S : MS) (v : Nat → Int64) : cm_rng (cm_set_ch S v) = cm_rng S := rfl
theorem mg_rng_es (S : MS) (v : Nat → UInt64) : cm_rng (cm_set_es S v) = cm_rng S := rfl
theorem mg_rng_vo (S : MS) (v : Nat → Int64) : cm_rng (cm_set_vo S v) = cm_rng S := rfl
theorem mg_rng_wa (S : MS) (v : Nat → Int64) : cm_rng (cm_set_wa S v) = cm_rng S := rfl
theorem mg_rng_be (S : MS) (v : Nat → Int32) : cm_rng (cm_set_be S v) = cm_rng S := rfl
theorem mg_rng_bl (S : MS) (v : Nat → Int32) : cm_rng (cm_set_bl S v) = cm_rng S := rfl
theorem mg_rng_lim (S : MS) (v : Nat → Int64) : cm_rng (cm_set_lim S v) = cm_rng S := rfl
theorem mg_rng_stk (S : MS) (v : Nat → Int32) : cm_rng (cm_set_stk S v) = cm_rng S := rfl
theorem mg_rng_flt (S : MS) (v : Nat → Int32) : cm_rng (cm_set_flt S v) = cm_rng S := rfl
theorem mg_rng_pts (S : MS) (v : Nat → Int64) : cm_rng (cm_set_pts S v) = cm_rng S := rfl
theorem mg_rng_rng (S : MS) (v : Nat → Int32) : cm_rng (cm_set_rng S v) = v := rfl
theorem mg_rng_low (S : MS) (v : Nat → Int32) : cm_rng (cm_set_low S v) = cm_rng S := rfl
theorem mg_low_th (S : MS) (v : Int32) : cm_low (cm_set_th S v) = cm_low S := rfl
theorem mg_low_st (S : MS) (v : Nat) : cm_low (cm_set_st S v) = cm_low S := rfl
theorem mg_low_steps (S : MS) (v : Int32) : cm_low (cm_set_steps S v) = cm_low S := rfl
theorem mg_low_beg (S : MS) (v : Int32) : cm_low (cm_set_beg S v) = cm_low S := rfl
theorem mg_low_fc (S : MS) (v : Nat) : cm_low (cm_set_fc S v) = cm_low S := rfl
theorem mg_low_many (S : MS) (v : Nat) : cm_low (cm_set_many S v) = cm_low S := rfl
theorem mg_low_cyc (S : MS) (v : Nat) : cm_low (cm_set_cyc S v) = cm_low S := rfl
theorem mg_low_ch (S : MS) (v : Nat → Int64) : cm_low (cm_set_ch S v) = cm_low S := rfl
theorem mg_low_es (S : MS) (v : Nat → UInt64) : cm_low (cm_set_es S v) = cm_low S := rfl
theorem mg_low_vo (S : MS) (v : Nat → Int64) : cm_low (cm_set_vo S v) = cm_low S := rfl
theorem mg_low_wa (S : MS) (v : Nat → Int64) : cm_low (cm_set_wa S v) = cm_low S := rfl
theorem mg_low_be (S : MS) (v : Nat → Int32) : cm_low (cm_set_be S v) = cm_low S := rfl
theorem mg_low_bl (S : MS) (v : Nat → Int32) : cm_low (cm_set_bl S v) = cm_low S := rfl
theorem mg_low_lim (S : MS) (v : Nat → Int64) : cm_low (cm_set_lim S v) = cm_low S := rfl
theorem mg_low_stk (S : MS) (v : Nat → Int32) : cm_low (cm_set_stk S v) = cm_low S := rfl
theorem mg_low_flt (S : MS) (v : Nat → Int32) : cm_low (cm_set_flt S v) = cm_low S := rfl
theorem mg_low_pts (S : MS) (v : Nat → Int64) : cm_low (cm_set_pts S v) = cm_low S := rfl
theorem mg_low_rng (S : MS) (v : Nat → Int32) : cm_low (cm_set_rng S v) = cm_low S := rfl
theorem mg_low_low (S : MS) (v : Nat → Int32) : cm_low (cm_set_low S v) = v := rfl
end
section
/-! what the reference's methods answer and leave -/
theorem nI_neN {a b : Nat} (h : ¬ nI a = nI b) : a ≠ b := fun q => h (by rw [q])
theorem ix_le2 {x : Int32} (h : ¬ 2 < x) : x < nI 3 := by
  rw [Int32.lt_iff_toInt_lt] at *
  have e : (2 : Int32).toInt = 2 := by decide
  have e2 : (nI 3).toInt = 3 := by decide
  omega
theorem ix_le5 {x : Int32} (h : ¬ 5 < x) : x < nI 6 := by
  rw [Int32.lt_iff_toInt_lt] at *
  have e : (5 : Int32).toInt = 5 := by decide
  have e2 : (nI 6).toInt = 6 := by decide
  omega
theorem ix_gt2 {x : Int32} (h : 2 < x) : ix 3 x = none := ix_big (by
  rw [Int32.lt_iff_toInt_lt] at *
  have e : (2 : Int32).toInt = 2 := by decide
  have e2 : (nI 3).toInt = 3 := by decide
  omega)
theorem ix_gt5 {x : Int32} (h : 5 < x) : ix 6 x = none := ix_big (by
  rw [Int32.lt_iff_toInt_lt] at *
  have e : (5 : Int32).toInt = 5 := by decide
  have e2 : (nI 6).toInt = 6 := by decide
  omega)
def mNo (n : Nat) (p : Int32) : Int32 := (ix n p).elim 1 (fun _ => 0)
theorem mNo_0 {n : Nat} {p : Int32} (h : mNo n p = 0) : ∃ j, ix n p = some j := by
  unfold mNo at h
  cases hq : ix n p with
  | none => rw [hq] at h; exact absurd h (by decide)
  | some j => exact ⟨j, rfl⟩
theorem mNo_1 {n : Nat} {p : Int32} (h : ¬ mNo n p = 0) : ix n p = none := by
  unfold mNo at h
  cases hq : ix n p with
  | none => rfl
  | some j => rw [hq] at h; exact absurd rfl h
def mSz (v : Int64) : Int64 := if v < 0 then -v else v
def mNote (M : MS) (k : Int32) : MS := cm_set_st (cm_set_fc (cm_set_flt M (va_up (cm_flt M) (cm_fc M) k)) (cm_fc M + 1)) 0
def mGo (f : Nat → Int64) (n : Nat) (v : Int64) : Int32 := if nI n = 0 then 0 else if v = f (n - 1) then 1 else if nI n = 1 then 0 else if (if f (n - 2) < f (n - 1) then (1 : Int32) else 0) = (if f (n - 1) < v then 1 else 0) then 1 else 0
theorem mGo_pos {f : Nat → Int64} {n : Nat} {v : Int64} (h : ¬ mGo f n v = 0) : 1 ≤ n := by
  rcases Nat.eq_zero_or_pos n with q | q
  · subst q
    exact absurd (by unfold mGo; rw [if_pos (by decide)]) h
  · exact q
def mPut (M : MS) (v : Int64) : MS := if mGo (cm_pts M) (cm_many M) v = 0 then (if nI (cm_many M) < 500 then cm_set_many (cm_set_pts M (va_up (cm_pts M) (cm_many M) v)) (cm_many M + 1) else M) else cm_set_pts M (va_up (cm_pts M) (cm_many M - 1) v)
theorem mPut_ok {M : MS} {v : Int64} (hp : cm_many M ≤ 500) : cm_many (mPut M v) ≤ 500 ∧ cm_many (mPut M v) + 2 * cm_cyc (mPut M v) ≤ cm_many M + 2 * cm_cyc M + 1 := by
  unfold mPut
  by_cases h : mGo (cm_pts M) (cm_many M) v = 0
  · rw [if_pos h]
    by_cases h2 : nI (cm_many M) < 500
    · rw [if_pos h2]
      have h3 := nI_islt (b := 500) (by omega) (by omega) h2
      constructor
      · show cm_many M + 1 ≤ 500; omega
      · show cm_many M + 1 + 2 * cm_cyc M ≤ _; omega
    · rw [if_neg h2]; omega
  · rw [if_neg h]
    exact ⟨hp, by show cm_many M + 2 * cm_cyc M ≤ _; omega⟩
def mTco1 (M : MS) : MS := cm_set_many (cm_set_pts (cm_set_cyc (cm_set_low (cm_set_rng M (va_up (cm_rng M) (cm_cyc M) (mSz (cm_pts M (cm_many M - 3) - cm_pts M (cm_many M - 2))).toInt32)) (va_up (cm_low M) (cm_cyc M) (if cm_pts M (cm_many M - 3) < cm_pts M (cm_many M - 2) then cm_pts M (cm_many M - 3) else cm_pts M (cm_many M - 2)).toInt32)) (cm_cyc M + 1)) (va_up (cm_pts M) (cm_many M - 3) (cm_pts M (cm_many M - 1)))) (cm_many M - 2)
def mTco : Nat → MS → MS
  | 0, M => M
  | k + 1, M => if 3 < nI (cm_many M) then (if mSz (cm_pts M (cm_many M - 4) - cm_pts M (cm_many M - 3)) < mSz (cm_pts M (cm_many M - 3) - cm_pts M (cm_many M - 2)) then M else if mSz (cm_pts M (cm_many M - 2) - cm_pts M (cm_many M - 1)) < mSz (cm_pts M (cm_many M - 3) - cm_pts M (cm_many M - 2)) then M else mTco k (mTco1 M)) else M
def mPoint (M : MS) (v : Int64) : MS := mTco 250 (mPut M v)
theorem mTco1_keep (M : MS) : cm_many (mTco1 M) = cm_many M - 2 ∧ cm_cyc (mTco1 M) = cm_cyc M + 1 ∧ cm_fc (mTco1 M) = cm_fc M ∧ cm_th (mTco1 M) = cm_th M ∧ cm_ch (mTco1 M) = cm_ch M ∧ cm_lim (mTco1 M) = cm_lim M ∧ cm_be (mTco1 M) = cm_be M ∧ cm_es (mTco1 M) = cm_es M ∧ cm_bl (mTco1 M) = cm_bl M := by
  unfold mTco1
  simp only [mg_many_many, mg_many_pts, mg_many_cyc, mg_many_low, mg_many_rng, mg_cyc_many, mg_cyc_pts, mg_cyc_cyc, mg_cyc_low, mg_cyc_rng, mg_fc_many, mg_fc_pts, mg_fc_cyc, mg_fc_low, mg_fc_rng, mg_th_many, mg_th_pts, mg_th_cyc, mg_th_low, mg_th_rng, mg_ch_many, mg_ch_pts, mg_ch_cyc, mg_ch_low, mg_ch_rng, mg_lim_many, mg_lim_pts, mg_lim_cyc, mg_lim_low, mg_lim_rng, mg_be_many, mg_be_pts, mg_be_cyc, mg_be_low, mg_be_rng, mg_es_many, mg_es_pts, mg_es_cyc, mg_es_low, mg_es_rng, mg_bl_many, mg_bl_pts, mg_bl_cyc, mg_bl_low, mg_bl_rng, and_self]
theorem mTco_le : ∀ (k : Nat) (M : MS), cm_many (mTco k M) ≤ cm_many M ∧ cm_many (mTco k M) + 2 * cm_cyc (mTco k M) ≤ cm_many M + 2 * cm_cyc M ∧ cm_fc (mTco k M) = cm_fc M ∧ cm_th (mTco k M) = cm_th M ∧ cm_ch (mTco k M) = cm_ch M ∧ cm_lim (mTco k M) = cm_lim M ∧ cm_be (mTco k M) = cm_be M ∧ cm_es (mTco k M) = cm_es M ∧ cm_bl (mTco k M) = cm_bl M
  | 0, M => ⟨Nat.le_refl _, Nat.le_refl _, rfl, rfl, rfl, rfl, rfl, rfl, rfl⟩
  | k + 1, M => by
    unfold mTco
    by_cases h1 : 3 < nI (cm_many M)
    · rw [if_pos h1]
      by_cases h2 : mSz (cm_pts M (cm_many M - 4) - cm_pts M (cm_many M - 3)) < mSz (cm_pts M (cm_many M - 3) - cm_pts M (cm_many M - 2))
      · rw [if_pos h2]; exact ⟨Nat.le_refl _, Nat.le_refl _, rfl, rfl, rfl, rfl, rfl, rfl, rfl⟩
      · rw [if_neg h2]
        by_cases h3 : mSz (cm_pts M (cm_many M - 2) - cm_pts M (cm_many M - 1)) < mSz (cm_pts M (cm_many M - 3) - cm_pts M (cm_many M - 2))
        · rw [if_pos h3]; exact ⟨Nat.le_refl _, Nat.le_refl _, rfl, rfl, rfl, rfl, rfl, rfl, rfl⟩
        · rw [if_neg h3]
          obtain ⟨a1, a2, a3, a4, a5, a6, a7, a8, a9⟩ := mTco_le k (mTco1 M)
          obtain ⟨e1, e2, k3, k4, k5, k6, k7, k8, k9⟩ := mTco1_keep M
          have e3 : 2 ≤ cm_many M := by
            rcases Nat.lt_or_ge (cm_many M) 2 with q | q
            · rcases (show cm_many M = 0 ∨ cm_many M = 1 by omega) with z | z <;> rw [z] at h1 <;> exact absurd h1 (by decide)
            · exact q
          exact ⟨by omega, by omega, a3.trans k3, a4.trans k4, a5.trans k5, a6.trans k6, a7.trans k7, a8.trans k8, a9.trans k9⟩
    · rw [if_neg h1]; exact ⟨Nat.le_refl _, Nat.le_refl _, rfl, rfl, rfl, rfl, rfl, rfl, rfl⟩
theorem mPut_keep (M : MS) (v : Int64) : cm_fc (mPut M v) = cm_fc M ∧ cm_th (mPut M v) = cm_th M ∧ cm_ch (mPut M v) = cm_ch M ∧ cm_lim (mPut M v) = cm_lim M ∧ cm_be (mPut M v) = cm_be M ∧ cm_es (mPut M v) = cm_es M ∧ cm_bl (mPut M v) = cm_bl M := by
  unfold mPut
  by_cases h : mGo (cm_pts M) (cm_many M) v = 0
  · rw [if_pos h]
    by_cases h2 : nI (cm_many M) < 500
    · rw [if_pos h2]; exact ⟨rfl, rfl, rfl, rfl, rfl, rfl, rfl⟩
    · rw [if_neg h2]; exact ⟨rfl, rfl, rfl, rfl, rfl, rfl, rfl⟩
  · rw [if_neg h]; exact ⟨rfl, rfl, rfl, rfl, rfl, rfl, rfl⟩
theorem mPoint_ok {M : MS} {v : Int64} (hp : cm_many M ≤ 500) : cm_many (mPoint M v) ≤ 500 ∧ cm_many (mPoint M v) + 2 * cm_cyc (mPoint M v) ≤ cm_many M + 2 * cm_cyc M + 1 ∧ cm_fc (mPoint M v) = cm_fc M ∧ cm_th (mPoint M v) = cm_th M ∧ cm_ch (mPoint M v) = cm_ch M ∧ cm_lim (mPoint M v) = cm_lim M ∧ cm_be (mPoint M v) = cm_be M ∧ cm_es (mPoint M v) = cm_es M ∧ cm_bl (mPoint M v) = cm_bl M := by
  obtain ⟨a1, a2, a3, a4, a5, a6, a7, a8, a9⟩ := mTco_le 250 (mPut M v)
  obtain ⟨b1, b2⟩ := mPut_ok (M := M) (v := v) hp
  obtain ⟨c3, c4, c5, c6, c7, c8, c9⟩ := mPut_keep M v
  exact ⟨Nat.le_trans a1 b1, Nat.le_trans a2 b2, a3.trans c3, a4.trans c4, a5.trans c5, a6.trans c6, a7.trans c7, a8.trans c8, a9.trans c9⟩
def mPre (M : MS) (j : Nat) : MS := if nI j = 0 then (if nI (cm_many M) = 0 then mPoint M (cm_ch M 0) else M) else M
theorem mPre_ok {M : MS} {j : Nat} (hp : cm_many M ≤ 500) : cm_many (mPre M j) ≤ 500 ∧ cm_many (mPre M j) + 2 * cm_cyc (mPre M j) ≤ cm_many M + 2 * cm_cyc M + 1 ∧ cm_fc (mPre M j) = cm_fc M ∧ cm_th (mPre M j) = cm_th M ∧ cm_ch (mPre M j) = cm_ch M ∧ cm_lim (mPre M j) = cm_lim M ∧ cm_be (mPre M j) = cm_be M ∧ cm_es (mPre M j) = cm_es M ∧ cm_bl (mPre M j) = cm_bl M := by
  unfold mPre
  by_cases h : nI j = 0
  · rw [if_pos h]
    by_cases h2 : nI (cm_many M) = 0
    · rw [if_pos h2]; exact mPoint_ok hp
    · rw [if_neg h2]; exact ⟨hp, by omega, rfl, rfl, rfl, rfl, rfl, rfl, rfl⟩
  · rw [if_neg h]; exact ⟨hp, by omega, rfl, rfl, rfl, rfl, rfl, rfl, rfl⟩
def mUpd (M : MS) (j : Nat) (cur vo wa : Int64) (b : Int32) : MS := cm_set_be (cm_set_es (cm_set_ch (cm_set_wa (cm_set_vo (cm_set_steps M (cm_steps M + 1)) (va_up (cm_vo M) j vo)) (va_up (cm_wa M) j wa)) (va_up (cm_ch M) j (cm_ch M j + cur - (if cm_bl M j = 0 then 0 else 5)))) (va_up (cm_es M) j (sEst (cm_es M j) cur vo (cm_lim M 5)))) (va_up (cm_be M) j (if b = 0 then 0 else cm_be M j + 1))
def mBey (M : MS) (cur vo wa : Int64) : Int32 := if vo < cm_lim M 0 then 1 else if cm_lim M 1 < vo then 1 else if cm_lim M 2 < wa then 1 else if cm_lim M 3 < mSz cur then 1 else 0
def mF1 (M : MS) (j : Nat) (b : Int32) : MS := if b = 0 then M else if cm_be M j - cm_be M j / 2 * 2 = 0 then mNote M 1 else M
def mF2 (M : MS) (j : Nat) (cap : Int64) : MS := if cm_ch M j < 0 then mNote M 2 else if cap < cm_ch M j then mNote M 2 else M
def mPost (M : MS) (j : Nat) : MS := if nI j = 0 then mPoint M (cm_ch M 0) else M
def mOutR (cur vo wa : Int64) : Int32 := if cur < (-100000) then 1 else if 100000 < cur then 1 else if vo < 0 then 1 else if 10000 < vo then 1 else if wa < (-1000) then 1 else if 2000 < wa then 1 else 0
def mS2 (M : MS) (j : Nat) : MS := mPre (cm_set_th M 0) j
def mS3 (M : MS) (j : Nat) (cur vo wa : Int64) : MS := mUpd (mS2 M j) j cur vo wa (mBey (mS2 M j) cur vo wa)
def mS4 (M : MS) (j : Nat) (cur vo wa : Int64) : MS := mF1 (mS3 M j cur vo wa) j (mBey (mS2 M j) cur vo wa)
def mS5 (M : MS) (j : Nat) (cur vo wa : Int64) : MS := mF2 (mS4 M j cur vo wa) j (cm_lim (mS2 M j) 5)
def mS6 (M : MS) (j : Nat) (cur vo wa : Int64) : MS := mPost (mS5 M j cur vo wa) j
def mR6 (M : MS) (j : Nat) (cur vo wa : Int64) : Int32 := if nI (cm_fc (mS3 M j cur vo wa)) < nI (cm_fc (mS6 M j cur vo wa)) then 2 else if mBey (mS2 M j) cur vo wa = 0 then 0 else 1
def rmStep (M : MS) (n : Nat) (p : Int32) (cur vo wa : Int64) : Int32 := if mOutR cur vo wa = 0 then (ix n p).elim 0 (fun j => mR6 M j cur vo wa) else (-2)
def gmStep (M : MS) (n : Nat) (p : Int32) (cur vo wa : Int64) : MS := if mOutR cur vo wa = 0 then (ix n p).elim (cm_set_th M 1) (fun j => mS6 M j cur vo wa) else cm_set_th M 0
def mLv (f : Nat → Int64) : Nat → Int64
  | 0 => f 0
  | z + 1 => if f (z + 1) < mLv f z then f (z + 1) else mLv f z
def mMx (f : Nat → Int64) : Nat → Int64
  | 0 => f 0
  | z + 1 => if mMx f z < f (z + 1) then f (z + 1) else mMx f z
def mWk (f : Nat → Int64) : Nat → Nat
  | 0 => 0
  | z + 1 => if f (z + 1) < f (mWk f z) then z + 1 else mWk f z
theorem mWk_le (f : Nat → Int64) : ∀ z, mWk f z ≤ z
  | 0 => Nat.le_refl _
  | z + 1 => by
    unfold mWk
    by_cases h : f (z + 1) < f (mWk f z)
    · rw [if_pos h]; exact Nat.le_refl _
    · rw [if_neg h]; exact Nat.le_succ_of_le (mWk_le f z)
def mMay (M : MS) (n j : Nat) : Int32 := if cm_ch M j < cm_lim M 4 then 0 else if cm_vo M j < mLv (cm_vo M) (n - 1) + 10 then 0 else 1
def mFlip (M : MS) (j : Nat) : MS := cm_set_bl M (va_up (cm_bl M) j (if cm_bl M j = 0 then 1 else 0))
def rmBle (M : MS) (n : Nat) (p : Int32) : Int32 := (ix n p).elim (-1) (fun j => if cm_bl M j = 0 then (if cm_ch M j < cm_lim M 4 then (-3) else if cm_vo M j < mLv (cm_vo M) (n - 1) + 10 then (-3) else sBc (cm_bl (cm_set_bl (cm_set_th M 0) (va_up (cm_bl M) j (if cm_bl M j = 0 then 1 else 0)))) n) else sBc (cm_bl (cm_set_bl (cm_set_th M 0) (va_up (cm_bl M) j (if cm_bl M j = 0 then 1 else 0)))) n)
def gmBle (M : MS) (n : Nat) (p : Int32) : MS := (ix n p).elim (cm_set_th M 0) (fun j => if cm_bl M j = 0 then (if cm_ch M j < cm_lim M 4 then cm_set_th M 0 else if cm_vo M j < mLv (cm_vo M) (n - 1) + 10 then cm_set_th M 0 else cm_set_bl (cm_set_th M 0) (va_up (cm_bl M) j (if cm_bl M j = 0 then 1 else 0))) else cm_set_bl (cm_set_th M 0) (va_up (cm_bl M) j (if cm_bl M j = 0 then 1 else 0)))
def rmLim (p : Int32) (v : Int64) : Int32 := (ix 6 p).elim (-1) (fun j => if v < (-1000) then (-2) else if 1000000 < v then (-2) else if nI j = 5 then (if v < 0 then (-2) else 1) else 1)
def gmLim (M : MS) (p : Int32) (v : Int64) : MS := (ix 6 p).elim M (fun j => if v < (-1000) then M else if 1000000 < v then M else if nI j = 5 then (if v < 0 then M else cm_set_lim M (va_up (cm_lim M) j v)) else cm_set_lim M (va_up (cm_lim M) j v))
def gmIns (M : MS) (v : Int64) : MS := if v < 0 then M else if v < 100 then mNote M 5 else M
def gmStu (M : MS) (p : Int32) : MS := (ix 3 p).elim M (fun j => cm_set_stk M (va_up (cm_stk M) j (if cm_stk M j = 0 then 1 else 0)))
def rmStu (M : MS) (p : Int32) : Int32 := (ix 3 p).elim (-1) (fun j => if va_up (cm_stk M) j (if cm_stk M j = 0 then 1 else 0) j = 0 then 0 else 1)
def rmCyc2 (M : MS) (i w : Int32) : Int32 := (ix (cm_cyc M) i).elim (-1) (fun j => if w = 0 then cm_rng M j else if w = 1 then cm_low M j else (-2))
def rmCyc (M : MS) (i w : Int32) : Int32 := if i = (-1) then (if w = 0 then nI (cm_cyc M) else rmCyc2 M i w) else rmCyc2 M i w
def rmCool (M : MS) (n : Nat) : Int32 := if 550 < mMx (cm_wa M) (n - 1) then 3 else if 450 < mMx (cm_wa M) (n - 1) then 2 else if 350 < mMx (cm_wa M) (n - 1) then 1 else 0
def mUp (M : MS) : MS := cm_set_beg (cm_set_st M (cm_st M + 1)) (if nI (cm_st M + 1) = 2 then cm_steps M else cm_beg M)
def rmCon2 (M : MS) : Int32 := if cm_stk M (cm_st M) = 0 then nI (cm_st M + 1) else nI (cm_st (mNote M 4))
def gmCon2 (M : MS) : MS := if cm_stk M (cm_st M) = 0 then mUp M else mNote M 4
def rmCon (M : MS) (p : Int32) : Int32 := if p = 0 then 0 else if nI (cm_st M) = 3 then (-3) else if nI (cm_st M) = 2 then (if cm_steps M - cm_beg M < 3 then (-3) else if cm_steps M - cm_beg M < 20 then rmCon2 M else nI (cm_st (mNote M 3))) else rmCon2 M
def gmCon (M : MS) (p : Int32) : MS := if p = 0 then cm_set_st M 0 else if nI (cm_st M) = 3 then M else if nI (cm_st M) = 2 then (if cm_steps M - cm_beg M < 3 then M else if cm_steps M - cm_beg M < 20 then gmCon2 M else mNote M 3) else gmCon2 M
end
section
set_option maxRecDepth 20000 in
theorem iX3_thrown_X3 : ∀ w ∈ wsX30, w ∈ wsX3_thrown := by decide +kernel
set_option maxHeartbeats 1000000 in
set_option maxRecDepth 100000 in
theorem kX3_thrown (l : Launch) (D : va_G) (cm : Nat → ClassId) (b : Nat → Nat) (n : Nat) (M : MS) (sz : Nat) : Met l yX3_thrown wsX3_thrown ({ frames := 0, cells := 0, slots := 0, locals := 0 }) (va_Pc [.ref (b 0)] (pM D cm b n M sz)) (vp_Si (fun r => r = cm_th M)) 0 0 (fun _ => False) := by
  refine Met.ofW (cc := cX3_thrown) (maxL := 1) (ret := (some .int)) (by decide) rfl ?_
  intro p e s m args below meth c s₁ B hml hv
  obtain ⟨rfl, hsz, hP, hK, hD0⟩ := hv
  have hx := B.exec
  have hb := B.bytes
  have hr := B.returns
  have hts := atoms_spec (ws := wsX3_thrown) B.pre
  have hown : s.vm.findClass RX3 = some m.cls := findClass_of_methodNamed B.named
  have hlocks := B.notSynchronized
  have hD := hD0
  have hl := lv_entry ([.ref (b 0)]) (n := 1) (Nat.le_of_ble_eq_true rfl)
  rw [lg_entry_eq]
  generalize (lg_sl ([.ref (b 0)]) ++ List.replicate (1 - (lg_sl ([.ref (b 0)])).length) Slot.unset).toArray = ls at hl ⊢
  have hl : lv_has ls 1 [(0, .ref (b 0))] := hl
  refine lv_aload_n hx hb dX3_thrown_0 rfl (lv_at hl 0 rfl) ?_
  refine va_get (D := D) (ci := 4) (v := .int (cm_th M)) (C := RX3) (T := TX3) (N := 20) hx hb hts iX3_thrown_X3 hown hK hP 0 rfl rfl 0 (by decide) (hts (.fieldLink RX3 73 "CellRows2Model" "thrown" "I") (by decide +kernel)) (fun _ h9 => h9) rfl dX3_thrown_1 ?_
  exact W.iret (v := (cm_th M)) hx hb hr (fun t ht hW => ⟨(cm_th M), rfl, (by first | rfl | (simp only [] <;> rfl)), ht⟩) (fun q hq => absurd hq List.not_mem_nil) dX3_thrown_4
set_option maxRecDepth 20000 in
theorem iX3_noCell_X3 : ∀ w ∈ wsX30, w ∈ wsX3_noCell := by decide +kernel
set_option maxHeartbeats 1000000 in
set_option maxRecDepth 100000 in
theorem kX3_noCell (l : Launch) (D : va_G) (cm : Nat → ClassId) (b : Nat → Nat) (n : Nat) (M : MS) (sz : Nat) (p0 : Int32) (hn : n ≤ 24) : Met l yX3_noCell wsX3_noCell ({ frames := 0, cells := 0, slots := 0, locals := 0 }) (va_Pc [.ref (b 0), .int p0] (pM D cm b n M sz)) (vp_Si (fun r => r = mNo n p0)) 0 0 (fun _ => False) := by
  refine Met.ofW (cc := cX3_noCell) (maxL := 2) (ret := (some .boolean)) (by decide) rfl ?_
  intro p e s m args below meth c s₁ B hml hv
  obtain ⟨rfl, hsz, hP, hK, hD0⟩ := hv
  have hx := B.exec
  have hb := B.bytes
  have hr := B.returns
  have hts := atoms_spec (ws := wsX3_noCell) B.pre
  have hown : s.vm.findClass RX3 = some m.cls := findClass_of_methodNamed B.named
  have hlocks := B.notSynchronized
  have hD := hD0
  have hl := lv_entry ([.ref (b 0), .int p0]) (n := 2) (Nat.le_of_ble_eq_true rfl)
  rw [lg_entry_eq]
  generalize (lg_sl ([.ref (b 0), .int p0]) ++ List.replicate (2 - (lg_sl ([.ref (b 0), .int p0])).length) Slot.unset).toArray = ls at hl ⊢
  have hl : lv_has ls 2 [(0, .ref (b 0)), (1, .int p0)] := hl
  refine lv_iload_n hx hb dX3_noCell_0 rfl (lv_at hl 1 rfl) ?_
  refine iz_lt (tgt := 12) hx hb dX3_noCell_1 (by decide) (fun h_1 => ?_) (fun h_1 => ?_)
  · refine lv_iconst (v := 1) hx hb dX3_noCell_12 (by decide) ?_
    refine lv_goto (tgt := 17) hx hb dX3_noCell_13 (by decide) ?_
    exact W.zret (v := 1) hx hb hr rfl (fun t ht hW => ⟨1, rfl, (by simp only [mNo, Option.elim_none, if_pos h_1, ix_neg h_1]), ht⟩) (fun q hq => absurd hq List.not_mem_nil) dX3_noCell_17
  · refine lv_iload_n hx hb dX3_noCell_4 rfl (lv_at hl 1 rfl) ?_
    refine lv_aload_n hx hb dX3_noCell_5 rfl (lv_at hl 0 rfl) ?_
    refine va_get (D := D) (ci := 4) (v := .int (nI n)) (C := RX3) (T := TX3) (N := 20) hx hb hts iX3_noCell_X3 hown hK hP 0 rfl rfl 1 (by decide) (hts (.fieldLink RX3 61 "CellRows2Model" "cells" "I") (by decide +kernel)) (fun _ h9 => h9) rfl dX3_noCell_6 ?_
    refine ib_lt (tgt := 16) hx hb dX3_noCell_9 (by decide) (fun h_2 => ?_) (fun h_2 => ?_)
    · obtain ⟨j, hj, rfl⟩ := ix_of (n := n) (by omega) h_1 h_2
      have e_ix := ix_at (n := n) (by omega) hj
      refine lv_iconst (v := 0) hx hb dX3_noCell_16 (by decide) ?_
      exact W.zret (v := 0) hx hb hr rfl (fun t ht hW => ⟨0, rfl, (by simp only [mNo, Option.elim_none, if_neg h_1, if_pos h_2, e_ix, Option.elim_some]), ht⟩) (fun q hq => absurd hq List.not_mem_nil) dX3_noCell_17
    · refine lv_iconst (v := 1) hx hb dX3_noCell_12 (by decide) ?_
      refine lv_goto (tgt := 17) hx hb dX3_noCell_13 (by decide) ?_
      exact W.zret (v := 1) hx hb hr rfl (fun t ht hW => ⟨1, rfl, (by simp only [mNo, Option.elim_none, if_neg h_1, if_neg h_2, ix_big h_2]), ht⟩) (fun q hq => absurd hq List.not_mem_nil) dX3_noCell_17
set_option maxRecDepth 20000 in
theorem iX3_fails_X3 : ∀ w ∈ wsX30, w ∈ wsX3_fails := by decide +kernel
set_option maxHeartbeats 1000000 in
set_option maxRecDepth 100000 in
theorem kX3_fails (l : Launch) (D : va_G) (cm : Nat → ClassId) (b : Nat → Nat) (n : Nat) (M : MS) (sz : Nat) (k : Int32) (hf : cm_fc M < 2048) : Met l yX3_fails wsX3_fails ({ frames := 0, cells := 0, slots := 0, locals := 0 }) (va_Pc [.ref (b 0), .int k] (pM D cm b n M sz)) (va_Qv (fun u : MS => u = mNote M k) (eM D cm b n (va_A (wM cm b n M) sz)) (va_A (wM cm b n M) sz)) 0 0 (va_A (wM cm b n M) sz) := by
  refine Met.ofW (cc := cX3_fails) (maxL := 2) (ret := none) (by decide) rfl ?_
  intro p e s m args below meth c s₁ B hml hv
  obtain ⟨rfl, hsz, hP, hK, hD0⟩ := hv
  have hx := B.exec
  have hb := B.bytes
  have hr := B.returns
  have hts := atoms_spec (ws := wsX3_fails) B.pre
  have hown : s.vm.findClass RX3 = some m.cls := findClass_of_methodNamed B.named
  have hlocks := B.notSynchronized
  subst hsz
  have hD := hD0.self (sz := s.heap.size)
  generalize hAe : va_A (wM cm b n M) s.heap.size = A at hD ⊢
  have hA : ∀ q : Nat, s.heap.size ≤ q → A q := fun q h => by rw [← hAe]; exact Or.inr h
  have hS : va_S A s.heap s.heap [] := va_S.rf
  have hl := lv_entry ([.ref (b 0), .int k]) (n := 2) (Nat.le_of_ble_eq_true rfl)
  rw [lg_entry_eq]
  generalize (lg_sl ([.ref (b 0), .int k]) ++ List.replicate (2 - (lg_sl ([.ref (b 0), .int k])).length) Slot.unset).toArray = ls at hl ⊢
  have hl : lv_has ls 2 [(0, .ref (b 0)), (1, .int k)] := hl
  refine lv_aload_n hx hb dX3_fails_0 rfl (lv_at hl 0 rfl) ?_
  refine va_get (D := D) (ci := 4) (v := .ref (b 9)) (C := RX3) (T := TX3) (N := 20) hx hb hts iX3_fails_X3 hown hK hP 0 rfl rfl 13 (by decide) (hts (.fieldLink RX3 49 "CellRows2Model" "faults" "[I") (by decide +kernel)) (fun _ h9 => h9) rfl dX3_fails_1 ?_
  refine lv_aload_n hx hb dX3_fails_4 rfl (lv_at hl 0 rfl) ?_
  refine va_get (D := D) (ci := 4) (v := .int (nI (cm_fc M))) (C := RX3) (T := TX3) (N := 20) hx hb hts iX3_fails_X3 hown hK hP 0 rfl rfl 14 (by decide) (hts (.fieldLink RX3 76 "CellRows2Model" "faultCount" "I") (by decide +kernel)) (fun _ h9 => h9) rfl dX3_fails_5 ?_
  refine lv_iload_n hx hb dX3_fails_8 rfl (lv_at hl 1 rfl) ?_
  refine rs_i (f := (cm_flt M)) hx hb hK hP hD hS 9 8 rfl rfl (cm_fc M) rfl (by omega) (Nat.le_of_ble_eq_true rfl) dX3_fails_9 (fun H1 locs1 hP hD hS => ?_)
  have hP : va_P D vwCl (wM cm b n (cm_set_flt M (va_up (cm_flt M) (cm_fc M) k))) H1 := hP
  have hD : va_D A (wM cm b n (cm_set_flt M (va_up (cm_flt M) (cm_fc M) k))) := hD
  refine lv_aload_n hx hb dX3_fails_10 rfl (lv_at hl 0 rfl) ?_
  refine lv_dup hx hb dX3_fails_11 rfl ?_
  refine va_get (D := D) (ci := 4) (v := .int (nI (cm_fc M))) (C := RX3) (T := TX3) (N := 20) hx hb hts iX3_fails_X3 hown hK hP 0 rfl rfl 14 (by decide) (hts (.fieldLink RX3 76 "CellRows2Model" "faultCount" "I") (by decide +kernel)) (fun _ h9 => h9) rfl dX3_fails_12 ?_
  refine lv_iconst (v := 1) hx hb dX3_fails_15 (by decide) ?_
  refine lv_iadd hx hb dX3_fails_16 ?_
  refine W.eqi (nI_1 (cm_fc M)) ?_
  refine va_put (D := D) (ci := 4) (v := .int (nI ((cm_fc M) + 1))) (ty := .int) (C := RX3) (T := TX3) (N := 20) hx hb hts iX3_fails_X3 tyX3 tyX3_ok nmX3 hown hK hP hD hS 0 rfl rfl 14 (by decide) (hts (.fieldLink RX3 76 "CellRows2Model" "faultCount" "I") (by decide +kernel)) (fun _ h9 => h9) rfl (by decide +kernel) rfl rfl (Nat.le_of_ble_eq_true rfl) dX3_fails_17 (fun H2 locs2 hP hD hS => ?_)
  have hP : va_P D vwCl (wM cm b n (cm_set_fc (cm_set_flt M (va_up (cm_flt M) (cm_fc M) k)) ((cm_fc M) + 1))) H2 := hP
  have hD : va_D A (wM cm b n (cm_set_fc (cm_set_flt M (va_up (cm_flt M) (cm_fc M) k)) ((cm_fc M) + 1))) := hD
  refine lv_aload_n hx hb dX3_fails_20 rfl (lv_at hl 0 rfl) ?_
  refine lv_iconst (v := 0) hx hb dX3_fails_21 (by decide) ?_
  refine va_put (D := D) (ci := 4) (v := .int 0) (ty := .int) (C := RX3) (T := TX3) (N := 20) hx hb hts iX3_fails_X3 tyX3 tyX3_ok nmX3 hown hK hP hD hS 0 rfl rfl 9 (by decide) (hts (.fieldLink RX3 79 "CellRows2Model" "stage" "I") (by decide +kernel)) (fun _ h9 => h9) rfl (by decide +kernel) rfl rfl (Nat.le_of_ble_eq_true rfl) dX3_fails_22 (fun H3 locs3 hP hD hS => ?_)
  have hP : va_P D vwCl (wM cm b n (cm_set_st (cm_set_fc (cm_set_flt M (va_up (cm_flt M) (cm_fc M) k)) ((cm_fc M) + 1)) 0)) H3 := hP
  have hD : va_D A (wM cm b n (cm_set_st (cm_set_fc (cm_set_flt M (va_up (cm_flt M) (cm_fc M) k)) ((cm_fc M) + 1)) 0)) := hD
  exact W.vret hx hb hr (fun t ht hW => ⟨⟨(cm_set_st (cm_set_fc (cm_set_flt M (va_up (cm_flt M) (cm_fc M) k)) ((cm_fc M) + 1)) 0), rfl, (by first | rfl | (simp only [mNote] <;> rfl)), by rw [ht]; exact hP, va_K.moved hW.alike hK, hD⟩, hS.F ht⟩) hS.2.2 dX3_fails_25
set_option maxHeartbeats 1000000 in
set_option maxRecDepth 100000 in
theorem kX3_within (l : Launch) (x : UInt64) : Met l yX3_within wsX3_within ({ frames := 0, cells := 0, slots := 0, locals := 0 }) (va_Pc [.double x] (fun _ => True)) (vp_Sd (fun r => r = sWin x)) 0 0 (fun _ => False) := by
  refine Met.ofW (cc := cX3_within) (maxL := 2) (ret := (some .double)) (by decide) rfl ?_
  intro p e s m args below meth c s₁ B hml hv
  obtain ⟨rfl, -⟩ := hv
  have hx := B.exec
  have hb := B.bytes
  have hr := B.returns
  have hts := atoms_spec (ws := wsX3_within) B.pre
  have hown : s.vm.findClass RX3 = some m.cls := findClass_of_methodNamed B.named
  have hlocks := B.notSynchronized
  have hl := lv_entry ([.double x]) (n := 2) (Nat.le_of_ble_eq_true rfl)
  rw [lg_entry_eq]
  generalize (lg_sl ([.double x]) ++ List.replicate (2 - (lg_sl ([.double x])).length) Slot.unset).toArray = ls at hl ⊢
  have hl : lv_has ls 2 [(0, .double x)] := hl
  refine lv_dload_n hx hb dX3_within_0 rfl (lv_at hl 0 rfl) ?_
  refine lv_dconst0 hx hb dX3_within_1 ?_
  refine lv_dcmp hx hb dX3_within_2 ?_
  refine iz_ge (tgt := 10) hx hb dX3_within_3 (by decide) (fun h_1 => ?_) (fun h_1 => ?_)
  · refine lv_dload_n hx hb dX3_within_10 rfl (lv_at hl 0 rfl) ?_
    refine lv_dconst1 hx hb dX3_within_11 ?_
    refine lv_dcmp hx hb dX3_within_12 ?_
    refine iz_le (tgt := 20) hx hb dX3_within_13 (by decide) (fun h_2 => ?_) (fun h_2 => ?_)
    · refine lv_dload_n hx hb dX3_within_20 rfl (lv_at hl 0 rfl) ?_
      exact W.dret (v := x) hx hb hr (fun t ht hW => ⟨x, rfl, (by simp only [sWin, if_neg h_1, if_neg h_2]), ht⟩) (fun q hq => absurd hq List.not_mem_nil) dX3_within_21
    · refine lv_dconst1 hx hb dX3_within_16 ?_
      refine lv_goto (tgt := 21) hx hb dX3_within_17 (by decide) ?_
      exact W.dret (v := FP.dconst1) hx hb hr (fun t ht hW => ⟨FP.dconst1, rfl, (by simp only [sWin, if_neg h_1, if_pos h_2]), ht⟩) (fun q hq => absurd hq List.not_mem_nil) dX3_within_21
  · refine lv_dconst0 hx hb dX3_within_6 ?_
    refine lv_goto (tgt := 21) hx hb dX3_within_7 (by decide) ?_
    exact W.dret (v := FP.dconst0) hx hb hr (fun t ht hW => ⟨FP.dconst0, rfl, (by simp only [sWin, if_pos h_1]), ht⟩) (fun q hq => absurd hq List.not_mem_nil) dX3_within_21
set_option maxHeartbeats 1000000 in
set_option maxRecDepth 100000 in
theorem kX3_size (l : Launch) (x : Int64) : Met l yX3_size wsX3_size ({ frames := 0, cells := 0, slots := 0, locals := 0 }) (va_Pc [.long x] (fun _ => True)) (vp_Sl (fun r => r = mSz x)) 0 0 (fun _ => False) := by
  refine Met.ofW (cc := cX3_size) (maxL := 2) (ret := (some .long)) (by decide) rfl ?_
  intro p e s m args below meth c s₁ B hml hv
  obtain ⟨rfl, -⟩ := hv
  have hx := B.exec
  have hb := B.bytes
  have hr := B.returns
  have hts := atoms_spec (ws := wsX3_size) B.pre
  have hown : s.vm.findClass RX3 = some m.cls := findClass_of_methodNamed B.named
  have hlocks := B.notSynchronized
  have hl := lv_entry ([.long x]) (n := 2) (Nat.le_of_ble_eq_true rfl)
  rw [lg_entry_eq]
  generalize (lg_sl ([.long x]) ++ List.replicate (2 - (lg_sl ([.long x])).length) Slot.unset).toArray = ls at hl ⊢
  have hl : lv_has ls 2 [(0, .long x)] := hl
  refine lv_lload_n hx hb dX3_size_0 rfl (lv_at hl 0 rfl) ?_
  refine lv_lconst (v := 0) hx hb dX3_size_1 (by decide) ?_
  refine il_ge (tgt := 11) hx hb dX3_size_2 dX3_size_3 (by decide) (fun h_1 => ?_) (fun h_1 => ?_)
  · refine lv_lload_n hx hb dX3_size_11 rfl (lv_at hl 0 rfl) ?_
    exact W.lret (v := x) hx hb hr (fun t ht hW => ⟨x, rfl, (by simp only [mSz, if_neg h_1]), ht⟩) (fun q hq => absurd hq List.not_mem_nil) dX3_size_12
  · refine lv_lload_n hx hb dX3_size_6 rfl (lv_at hl 0 rfl) ?_
    refine lv_lneg hx hb dX3_size_7 ?_
    refine lv_goto (tgt := 12) hx hb dX3_size_8 (by decide) ?_
    exact W.lret (v := -x) hx hb hr (fun t ht hW => ⟨-x, rfl, (by simp only [mSz, if_pos h_1]), ht⟩) (fun q hq => absurd hq List.not_mem_nil) dX3_size_12
set_option maxRecDepth 20000 in
theorem iX3_goesOn_X3 : ∀ w ∈ wsX30, w ∈ wsX3_goesOn := by decide +kernel
set_option maxHeartbeats 1000000 in
set_option maxRecDepth 100000 in
theorem kX3_goesOn (l : Launch) (D : va_G) (cm : Nat → ClassId) (b : Nat → Nat) (n : Nat) (M : MS) (sz : Nat) (v : Int64) (hp : cm_many M ≤ 500) : Met l yX3_goesOn wsX3_goesOn ({ frames := 0, cells := 0, slots := 0, locals := 0 }) (va_Pc [.ref (b 0), .long v] (pM D cm b n M sz)) (vp_Si (fun r => r = mGo (cm_pts M) (cm_many M) v)) 0 0 (fun _ => False) := by
  refine Met.ofW (cc := cX3_goesOn) (maxL := 5) (ret := (some .boolean)) (by decide) rfl ?_
  intro p e s m args below meth c s₁ B hml hv
  obtain ⟨rfl, hsz, hP, hK, hD0⟩ := hv
  have hx := B.exec
  have hb := B.bytes
  have hr := B.returns
  have hts := atoms_spec (ws := wsX3_goesOn) B.pre
  have hown : s.vm.findClass RX3 = some m.cls := findClass_of_methodNamed B.named
  have hlocks := B.notSynchronized
  have hD := hD0
  have hl := lv_entry ([.ref (b 0), .long v]) (n := 5) (Nat.le_of_ble_eq_true rfl)
  rw [lg_entry_eq]
  generalize (lg_sl ([.ref (b 0), .long v]) ++ List.replicate (5 - (lg_sl ([.ref (b 0), .long v])).length) Slot.unset).toArray = ls at hl ⊢
  have hl : lv_has ls 5 [(0, .ref (b 0)), (1, .long v)] := hl
  refine lv_aload_n hx hb dX3_goesOn_0 rfl (lv_at hl 0 rfl) ?_
  refine va_get (D := D) (ci := 4) (v := .int (nI (cm_many M))) (C := RX3) (T := TX3) (N := 20) hx hb hts iX3_goesOn_X3 hown hK hP 0 rfl rfl 16 (by decide) (hts (.fieldLink RX3 82 "CellRows2Model" "many" "I") (by decide +kernel)) (fun _ h9 => h9) rfl dX3_goesOn_1 ?_
  refine iz_ne (tgt := 9) hx hb dX3_goesOn_4 (by decide) (fun h_1 => ?_) (fun h_1 => ?_)
  · have g0 : cm_many M ≠ 0 := nI_neN (b := 0) h_1
    refine lv_aload_n hx hb dX3_goesOn_9 rfl (lv_at hl 0 rfl) ?_
    refine va_get (D := D) (ci := 4) (v := .ref (b 10)) (C := RX3) (T := TX3) (N := 20) hx hb hts iX3_goesOn_X3 hown hK hP 0 rfl rfl 15 (by decide) (hts (.fieldLink RX3 52 "CellRows2Model" "points" "[J") (by decide +kernel)) (fun _ h9 => h9) rfl dX3_goesOn_10 ?_
    refine lv_aload_n hx hb dX3_goesOn_13 rfl (lv_at hl 0 rfl) ?_
    refine va_get (D := D) (ci := 4) (v := .int (nI (cm_many M))) (C := RX3) (T := TX3) (N := 20) hx hb hts iX3_goesOn_X3 hown hK hP 0 rfl rfl 16 (by decide) (hts (.fieldLink RX3 82 "CellRows2Model" "many" "I") (by decide +kernel)) (fun _ h9 => h9) rfl dX3_goesOn_14 ?_
    refine lv_iconst (v := 1) hx hb dX3_goesOn_17 (by decide) ?_
    refine lv_isub hx hb dX3_goesOn_18 ?_
    refine W.eqi (pk_sub (a := (cm_many M)) (b := 1) (by omega)) ?_
    refine ra_l (f := (cm_pts M)) hx hb hK hP 10 9 rfl rfl ((cm_many M) - 1) rfl (by omega) (Nat.le_of_ble_eq_true rfl) dX3_goesOn_19 ?_
    refine lv_lstore_n (lv' := [(3, .long ((cm_pts M) ((cm_many M) - 1))), (0, .ref (b 0)), (1, .long v)]) hx hb dX3_goesOn_20 rfl hl (by decide) rfl (fun ls hl => ?_)
    refine lv_lload_n hx hb dX3_goesOn_21 rfl (lv_at hl 2 rfl) ?_
    refine lv_lload_n hx hb dX3_goesOn_22 rfl (lv_at hl 0 rfl) ?_
    refine il_ne (tgt := 29) hx hb dX3_goesOn_23 dX3_goesOn_24 (by decide) (fun h_2 => ?_) (fun h_2 => ?_)
    · refine lv_aload_n hx hb dX3_goesOn_29 rfl (lv_at hl 1 rfl) ?_
      refine va_get (D := D) (ci := 4) (v := .int (nI (cm_many M))) (C := RX3) (T := TX3) (N := 20) hx hb hts iX3_goesOn_X3 hown hK hP 0 rfl rfl 16 (by decide) (hts (.fieldLink RX3 82 "CellRows2Model" "many" "I") (by decide +kernel)) (fun _ h9 => h9) rfl dX3_goesOn_30 ?_
      refine lv_iconst (v := 1) hx hb dX3_goesOn_33 (by decide) ?_
      refine ib_ne (tgt := 39) hx hb dX3_goesOn_34 (by decide) (fun h_3 => ?_) (fun h_3 => ?_)
      · have g1 : cm_many M ≠ 1 := nI_neN (b := 1) h_3
        refine W.join (P := fun v9 : Int32 => v9 = if ((cm_pts M) ((cm_many M) - 2)) < (cm_pts M) ((cm_many M) - 1) then 1 else 0) (g := fun v9 => F0 m 60 ls [.int v9]) (fun v4 hv4 => ?_) (fun J4 => ?_)
        · subst hv4
          refine W.join (P := fun v9 : Int32 => v9 = if ((cm_pts M) ((cm_many M) - 1)) < v then 1 else 0) (g := fun v9 => F0 m 71 ls [.int v9, .int (if ((cm_pts M) ((cm_many M) - 2)) < (cm_pts M) ((cm_many M) - 1) then 1 else 0)]) (fun v6 hv6 => ?_) (fun J6 => ?_)
          · subst hv6
            refine ib_ne (tgt := 78) hx hb dX3_goesOn_71 (by decide) (fun h_8 => ?_) (fun h_8 => ?_)
            · refine lv_iconst (v := 0) hx hb dX3_goesOn_78 (by decide) ?_
              exact W.zret (v := 0) hx hb hr rfl (fun t ht hW => ⟨0, rfl, (by simp only [mGo, if_neg h_1, if_neg h_2, if_neg h_3, if_neg h_8]), ht⟩) (fun q hq => absurd hq List.not_mem_nil) dX3_goesOn_79
            · refine lv_iconst (v := 1) hx hb dX3_goesOn_74 (by decide) ?_
              refine lv_goto (tgt := 79) hx hb dX3_goesOn_75 (by decide) ?_
              exact W.zret (v := 1) hx hb hr rfl (fun t ht hW => ⟨1, rfl, (by simp only [mGo, if_neg h_1, if_neg h_2, if_neg h_3, if_pos h_8]), ht⟩) (fun q hq => absurd hq List.not_mem_nil) dX3_goesOn_79
          · refine lv_lload_n hx hb dX3_goesOn_60 rfl (lv_at hl 2 rfl) ?_
            refine lv_lload_n hx hb dX3_goesOn_61 rfl (lv_at hl 0 rfl) ?_
            refine il_le (tgt := 70) hx hb dX3_goesOn_62 dX3_goesOn_63 (by decide) (fun h_7 => ?_) (fun h_7 => ?_)
            · refine lv_iconst (v := 0) hx hb dX3_goesOn_70 (by decide) ?_
              exact J6 _ (by simp only [if_neg h_7])
            · refine lv_iconst (v := 1) hx hb dX3_goesOn_66 (by decide) ?_
              refine lv_goto (tgt := 71) hx hb dX3_goesOn_67 (by decide) ?_
              exact J6 _ (by simp only [if_pos h_7])
        · refine lv_lload_n hx hb dX3_goesOn_39 rfl (lv_at hl 0 rfl) ?_
          refine lv_aload_n hx hb dX3_goesOn_40 rfl (lv_at hl 1 rfl) ?_
          refine va_get (D := D) (ci := 4) (v := .ref (b 10)) (C := RX3) (T := TX3) (N := 20) hx hb hts iX3_goesOn_X3 hown hK hP 0 rfl rfl 15 (by decide) (hts (.fieldLink RX3 52 "CellRows2Model" "points" "[J") (by decide +kernel)) (fun _ h9 => h9) rfl dX3_goesOn_41 ?_
          refine lv_aload_n hx hb dX3_goesOn_44 rfl (lv_at hl 1 rfl) ?_
          refine va_get (D := D) (ci := 4) (v := .int (nI (cm_many M))) (C := RX3) (T := TX3) (N := 20) hx hb hts iX3_goesOn_X3 hown hK hP 0 rfl rfl 16 (by decide) (hts (.fieldLink RX3 82 "CellRows2Model" "many" "I") (by decide +kernel)) (fun _ h9 => h9) rfl dX3_goesOn_45 ?_
          refine lv_iconst (v := 2) hx hb dX3_goesOn_48 (by decide) ?_
          refine lv_isub hx hb dX3_goesOn_49 ?_
          refine W.eqi (pk_sub (a := (cm_many M)) (b := 2) (by omega)) ?_
          refine ra_l (f := (cm_pts M)) hx hb hK hP 10 9 rfl rfl ((cm_many M) - 2) rfl (by omega) (Nat.le_of_ble_eq_true rfl) dX3_goesOn_50 ?_
          refine il_le (tgt := 59) hx hb dX3_goesOn_51 dX3_goesOn_52 (by decide) (fun h_5 => ?_) (fun h_5 => ?_)
          · refine lv_iconst (v := 0) hx hb dX3_goesOn_59 (by decide) ?_
            exact J4 _ (by simp only [if_neg h_5])
          · refine lv_iconst (v := 1) hx hb dX3_goesOn_55 (by decide) ?_
            refine lv_goto (tgt := 60) hx hb dX3_goesOn_56 (by decide) ?_
            exact J4 _ (by simp only [if_pos h_5])
      · refine lv_iconst (v := 0) hx hb dX3_goesOn_37 (by decide) ?_
        exact W.zret (v := 0) hx hb hr rfl (fun t ht hW => ⟨0, rfl, (by simp only [mGo, if_neg h_1, if_neg h_2, if_pos h_3]), ht⟩) (fun q hq => absurd hq List.not_mem_nil) dX3_goesOn_38
    · refine lv_iconst (v := 1) hx hb dX3_goesOn_27 (by decide) ?_
      exact W.zret (v := 1) hx hb hr rfl (fun t ht hW => ⟨1, rfl, (by simp only [mGo, if_neg h_1, if_pos h_2]), ht⟩) (fun q hq => absurd hq List.not_mem_nil) dX3_goesOn_28
  · refine lv_iconst (v := 0) hx hb dX3_goesOn_7 (by decide) ?_
    exact W.zret (v := 0) hx hb hr rfl (fun t ht hW => ⟨0, rfl, (by simp only [mGo, if_pos h_1]), ht⟩) (fun q hq => absurd hq List.not_mem_nil) dX3_goesOn_8
set_option maxRecDepth 20000 in
theorem iX3_charge_X3 : ∀ w ∈ wsX30, w ∈ wsX3_charge := by decide +kernel
set_option maxHeartbeats 1000000 in
set_option maxRecDepth 100000 in
theorem kX3_charge (l : Launch) (D : va_G) (cm : Nat → ClassId) (b : Nat → Nat) (n : Nat) (M : MS) (sz : Nat) (p0 : Int32) (hn : n ≤ 24) : Met l yX3_charge wsX3_charge ({ frames := 1, cells := 0, slots := 0, locals := 21 }) (va_Pc [.ref (b 0), .int p0] (pM D cm b n M sz)) (va_Ql (fun r (u : MS) => r = (ix n p0).elim 0 (cm_ch M) ∧ u = cm_set_th M 0) (eM D cm b n (va_A (wM cm b n M) sz)) (va_A (wM cm b n M) sz)) 0 0 (va_A (wM cm b n M) sz) := by
  refine Met.ofW (cc := cX3_charge) (maxL := 2) (ret := (some .long)) (by decide) rfl ?_
  intro p e s m args below meth c s₁ B hml hv
  obtain ⟨rfl, hsz, hP, hK, hD0⟩ := hv
  have hx := B.exec
  have hb := B.bytes
  have hr := B.returns
  have hts := atoms_spec (ws := wsX3_charge) B.pre
  have hown : s.vm.findClass RX3 = some m.cls := findClass_of_methodNamed B.named
  have hlocks := B.notSynchronized
  subst hsz
  have hD := hD0.self (sz := s.heap.size)
  generalize hAe : va_A (wM cm b n M) s.heap.size = A at hD ⊢
  have hA : ∀ q : Nat, s.heap.size ≤ q → A q := fun q h => by rw [← hAe]; exact Or.inr h
  have hS : va_S A s.heap s.heap [] := va_S.rf
  have hl := lv_entry ([.ref (b 0), .int p0]) (n := 2) (Nat.le_of_ble_eq_true rfl)
  rw [lg_entry_eq]
  generalize (lg_sl ([.ref (b 0), .int p0]) ++ List.replicate (2 - (lg_sl ([.ref (b 0), .int p0])).length) Slot.unset).toArray = ls at hl ⊢
  have hl : lv_has ls 2 [(0, .ref (b 0)), (1, .int p0)] := hl
  refine lv_aload_n hx hb dX3_charge_0 rfl (lv_at hl 0 rfl) ?_
  refine lv_iconst (v := 0) hx hb dX3_charge_1 (by decide) ?_
  refine va_put (D := D) (ci := 4) (v := .int 0) (ty := .int) (C := RX3) (T := TX3) (N := 20) hx hb hts iX3_charge_X3 tyX3 tyX3_ok nmX3 hown hK hP hD hS 0 rfl rfl 0 (by decide) (hts (.fieldLink RX3 73 "CellRows2Model" "thrown" "I") (by decide +kernel)) (fun _ h9 => h9) rfl (by decide +kernel) rfl rfl (Nat.le_of_ble_eq_true rfl) dX3_charge_2 (fun H1 locs1 hP hD hS => ?_)
  have hP : va_P D vwCl (wM cm b n (cm_set_th M 0)) H1 := hP
  have hD : va_D A (wM cm b n (cm_set_th M 0)) := hD
  refine lv_aload_n hx hb dX3_charge_5 rfl (lv_at hl 0 rfl) ?_
  refine lv_iload_n hx hb dX3_charge_6 rfl (lv_at hl 1 rfl) ?_
  refine vp_callSi (W.runV (As := [.int p0]) (rest := []) ⟨hx, hb, hml, hown, hts⟩ (kX3_noCell l D cm b n (cm_set_th M 0) H1.size p0 hn) (cwV 1 hts gX3_charge_X3_noCell rfl rfl rfl (by decide +kernel) ⟨Nat.le_of_ble_eq_true rfl, Nat.le_of_ble_eq_true rfl⟩) ⟨pM_blind, va_recv hK hP (ci := 4) (q0 := 0) rfl rfl, fun U hU hW => ⟨rfl, pM_mk hP hK hD hU hW⟩⟩ rfl rfl hl.1 rfl (lv_room (Nat.le_of_ble_eq_true rfl)) dX3_charge_7 ⟨Nat.le_of_ble_eq_true rfl, Nat.le_of_ble_eq_true rfl⟩) (fun r2 hr2 => ?_)
  obtain rfl : r2 = mNo n p0 := hr2
  refine iz_eq (tgt := 17) hx hb dX3_charge_10 (by decide) (fun h_3 => ?_) (fun h_3 => ?_)
  · obtain ⟨j, e_ix⟩ := mNo_0 h_3
    obtain ⟨hj, rfl⟩ := ix_some e_ix
    refine lv_aload_n hx hb dX3_charge_17 rfl (lv_at hl 0 rfl) ?_
    refine va_get (D := D) (ci := 4) (v := .ref (b 1)) (C := RX3) (T := TX3) (N := 20) hx hb hts iX3_charge_X3 hown hK hP 0 rfl rfl 2 (by decide) (hts (.fieldLink RX3 7 "CellRows2Model" "charges" "[J") (by decide +kernel)) (fun _ h9 => h9) rfl dX3_charge_18 ?_
    refine lv_iload_n hx hb dX3_charge_21 rfl (lv_at hl 1 rfl) ?_
    refine ra_l (f := (cm_ch M)) hx hb hK hP 1 0 rfl rfl j rfl (by omega) (Nat.le_of_ble_eq_true rfl) dX3_charge_22 ?_
    exact W.lret (v := (cm_ch M) j) hx hb hr (fun t ht hW => ⟨⟨(cm_ch M) j, (cm_set_th M 0), rfl, ⟨(by first | rfl | (simp only [if_pos h_3, e_ix, Option.elim_some] <;> rfl)), (by first | rfl | (simp only [if_pos h_3, e_ix, Option.elim_some] <;> rfl))⟩, by rw [ht]; exact hP, va_K.moved hW.alike hK, hD⟩, hS.F ht⟩) hS.2.2 dX3_charge_23
  · have e_ixn := mNo_1 h_3
    refine lv_lconst (v := 0) hx hb dX3_charge_13 (by decide) ?_
    refine lv_goto (tgt := 23) hx hb dX3_charge_14 (by decide) ?_
    exact W.lret (v := 0) hx hb hr (fun t ht hW => ⟨⟨0, (cm_set_th M 0), rfl, ⟨(by first | rfl | (simp only [if_neg h_3, e_ixn, Option.elim_none] <;> rfl)), (by first | rfl | (simp only [if_neg h_3, e_ixn, Option.elim_none] <;> rfl))⟩, by rw [ht]; exact hP, va_K.moved hW.alike hK, hD⟩, hS.F ht⟩) hS.2.2 dX3_charge_23
set_option maxRecDepth 20000 in
theorem iX3_share_X3 : ∀ w ∈ wsX30, w ∈ wsX3_share := by decide +kernel
set_option maxHeartbeats 1000000 in
set_option maxRecDepth 100000 in
theorem kX3_share (l : Launch) (D : va_G) (cm : Nat → ClassId) (b : Nat → Nat) (n : Nat) (M : MS) (sz : Nat) (p0 : Int32) (hn : n ≤ 24) : Met l yX3_share wsX3_share ({ frames := 1, cells := 0, slots := 0, locals := 21 }) (va_Pc [.ref (b 0), .int p0] (pM D cm b n M sz)) (va_Qd (fun r (u : MS) => r = (ix n p0).elim FP.dconst0 (cm_es M) ∧ u = cm_set_th M 0) (eM D cm b n (va_A (wM cm b n M) sz)) (va_A (wM cm b n M) sz)) 0 0 (va_A (wM cm b n M) sz) := by
  refine Met.ofW (cc := cX3_share) (maxL := 2) (ret := (some .double)) (by decide) rfl ?_
  intro p e s m args below meth c s₁ B hml hv
  obtain ⟨rfl, hsz, hP, hK, hD0⟩ := hv
  have hx := B.exec
  have hb := B.bytes
  have hr := B.returns
  have hts := atoms_spec (ws := wsX3_share) B.pre
  have hown : s.vm.findClass RX3 = some m.cls := findClass_of_methodNamed B.named
  have hlocks := B.notSynchronized
  subst hsz
  have hD := hD0.self (sz := s.heap.size)
  generalize hAe : va_A (wM cm b n M) s.heap.size = A at hD ⊢
  have hA : ∀ q : Nat, s.heap.size ≤ q → A q := fun q h => by rw [← hAe]; exact Or.inr h
  have hS : va_S A s.heap s.heap [] := va_S.rf
  have hl := lv_entry ([.ref (b 0), .int p0]) (n := 2) (Nat.le_of_ble_eq_true rfl)
  rw [lg_entry_eq]
  generalize (lg_sl ([.ref (b 0), .int p0]) ++ List.replicate (2 - (lg_sl ([.ref (b 0), .int p0])).length) Slot.unset).toArray = ls at hl ⊢
  have hl : lv_has ls 2 [(0, .ref (b 0)), (1, .int p0)] := hl
  refine lv_aload_n hx hb dX3_share_0 rfl (lv_at hl 0 rfl) ?_
  refine lv_iconst (v := 0) hx hb dX3_share_1 (by decide) ?_
  refine va_put (D := D) (ci := 4) (v := .int 0) (ty := .int) (C := RX3) (T := TX3) (N := 20) hx hb hts iX3_share_X3 tyX3 tyX3_ok nmX3 hown hK hP hD hS 0 rfl rfl 0 (by decide) (hts (.fieldLink RX3 73 "CellRows2Model" "thrown" "I") (by decide +kernel)) (fun _ h9 => h9) rfl (by decide +kernel) rfl rfl (Nat.le_of_ble_eq_true rfl) dX3_share_2 (fun H1 locs1 hP hD hS => ?_)
  have hP : va_P D vwCl (wM cm b n (cm_set_th M 0)) H1 := hP
  have hD : va_D A (wM cm b n (cm_set_th M 0)) := hD
  refine lv_aload_n hx hb dX3_share_5 rfl (lv_at hl 0 rfl) ?_
  refine lv_iload_n hx hb dX3_share_6 rfl (lv_at hl 1 rfl) ?_
  refine vp_callSi (W.runV (As := [.int p0]) (rest := []) ⟨hx, hb, hml, hown, hts⟩ (kX3_noCell l D cm b n (cm_set_th M 0) H1.size p0 hn) (cwV 1 hts gX3_share_X3_noCell rfl rfl rfl (by decide +kernel) ⟨Nat.le_of_ble_eq_true rfl, Nat.le_of_ble_eq_true rfl⟩) ⟨pM_blind, va_recv hK hP (ci := 4) (q0 := 0) rfl rfl, fun U hU hW => ⟨rfl, pM_mk hP hK hD hU hW⟩⟩ rfl rfl hl.1 rfl (lv_room (Nat.le_of_ble_eq_true rfl)) dX3_share_7 ⟨Nat.le_of_ble_eq_true rfl, Nat.le_of_ble_eq_true rfl⟩) (fun r2 hr2 => ?_)
  obtain rfl : r2 = mNo n p0 := hr2
  refine iz_eq (tgt := 17) hx hb dX3_share_10 (by decide) (fun h_3 => ?_) (fun h_3 => ?_)
  · obtain ⟨j, e_ix⟩ := mNo_0 h_3
    obtain ⟨hj, rfl⟩ := ix_some e_ix
    refine lv_aload_n hx hb dX3_share_17 rfl (lv_at hl 0 rfl) ?_
    refine va_get (D := D) (ci := 4) (v := .ref (b 2)) (C := RX3) (T := TX3) (N := 20) hx hb hts iX3_share_X3 hown hK hP 0 rfl rfl 3 (by decide) (hts (.fieldLink RX3 13 "CellRows2Model" "shares" "[D") (by decide +kernel)) (fun _ h9 => h9) rfl dX3_share_18 ?_
    refine lv_iload_n hx hb dX3_share_21 rfl (lv_at hl 1 rfl) ?_
    refine ra_d (f := (cm_es M)) hx hb hK hP 2 1 rfl rfl j rfl (by omega) (Nat.le_of_ble_eq_true rfl) dX3_share_22 ?_
    exact W.dret (v := (cm_es M) j) hx hb hr (fun t ht hW => ⟨⟨(cm_es M) j, (cm_set_th M 0), rfl, ⟨(by first | rfl | (simp only [if_pos h_3, e_ix, Option.elim_some] <;> rfl)), (by first | rfl | (simp only [if_pos h_3, e_ix, Option.elim_some] <;> rfl))⟩, by rw [ht]; exact hP, va_K.moved hW.alike hK, hD⟩, hS.F ht⟩) hS.2.2 dX3_share_23
  · have e_ixn := mNo_1 h_3
    refine lv_dconst0 hx hb dX3_share_13 ?_
    refine lv_goto (tgt := 23) hx hb dX3_share_14 (by decide) ?_
    exact W.dret (v := FP.dconst0) hx hb hr (fun t ht hW => ⟨⟨FP.dconst0, (cm_set_th M 0), rfl, ⟨(by first | rfl | (simp only [if_neg h_3, e_ixn, Option.elim_none] <;> rfl)), (by first | rfl | (simp only [if_neg h_3, e_ixn, Option.elim_none] <;> rfl))⟩, by rw [ht]; exact hP, va_K.moved hW.alike hK, hD⟩, hS.F ht⟩) hS.2.2 dX3_share_23
set_option maxRecDepth 20000 in
theorem iX3_contactor_X3 : ∀ w ∈ wsX30, w ∈ wsX3_contactor := by decide +kernel
set_option maxHeartbeats 1000000 in
set_option maxRecDepth 100000 in
theorem kX3_contactor (l : Launch) (D : va_G) (cm : Nat → ClassId) (b : Nat → Nat) (n : Nat) (M : MS) (sz : Nat) (p0 : Int32) (hf : cm_fc M < 2048) (hs : cm_st M ≤ 3) : Met l yX3_contactor wsX3_contactor ({ frames := 1, cells := 0, slots := 0, locals := 21 }) (va_Pc [.ref (b 0), .int p0] (pM D cm b n M sz)) (va_Qi (fun r (u : MS) => r = rmCon M p0 ∧ u = cm_set_th (gmCon M p0) 0) (eM D cm b n (va_A (wM cm b n M) sz)) (va_A (wM cm b n M) sz)) 0 0 (va_A (wM cm b n M) sz) := by
  refine Met.ofW (cc := cX3_contactor) (maxL := 2) (ret := (some .int)) (by decide) rfl ?_
  intro p e s m args below meth c s₁ B hml hv
  obtain ⟨rfl, hsz, hP, hK, hD0⟩ := hv
  have hx := B.exec
  have hb := B.bytes
  have hr := B.returns
  have hts := atoms_spec (ws := wsX3_contactor) B.pre
  have hown : s.vm.findClass RX3 = some m.cls := findClass_of_methodNamed B.named
  have hlocks := B.notSynchronized
  subst hsz
  have hD := hD0.self (sz := s.heap.size)
  generalize hAe : va_A (wM cm b n M) s.heap.size = A at hD ⊢
  have hA : ∀ q : Nat, s.heap.size ≤ q → A q := fun q h => by rw [← hAe]; exact Or.inr h
  have hS : va_S A s.heap s.heap [] := va_S.rf
  have hl := lv_entry ([.ref (b 0), .int p0]) (n := 2) (Nat.le_of_ble_eq_true rfl)
  rw [lg_entry_eq]
  generalize (lg_sl ([.ref (b 0), .int p0]) ++ List.replicate (2 - (lg_sl ([.ref (b 0), .int p0])).length) Slot.unset).toArray = ls at hl ⊢
  have hl : lv_has ls 2 [(0, .ref (b 0)), (1, .int p0)] := hl
  refine lv_aload_n hx hb dX3_contactor_0 rfl (lv_at hl 0 rfl) ?_
  refine lv_iconst (v := 0) hx hb dX3_contactor_1 (by decide) ?_
  refine va_put (D := D) (ci := 4) (v := .int 0) (ty := .int) (C := RX3) (T := TX3) (N := 20) hx hb hts iX3_contactor_X3 tyX3 tyX3_ok nmX3 hown hK hP hD hS 0 rfl rfl 0 (by decide) (hts (.fieldLink RX3 73 "CellRows2Model" "thrown" "I") (by decide +kernel)) (fun _ h9 => h9) rfl (by decide +kernel) rfl rfl (Nat.le_of_ble_eq_true rfl) dX3_contactor_2 (fun H1 locs1 hP hD hS => ?_)
  have hP : va_P D vwCl (wM cm b n (cm_set_th M 0)) H1 := hP
  have hD : va_D A (wM cm b n (cm_set_th M 0)) := hD
  refine lv_iload_n hx hb dX3_contactor_5 rfl (lv_at hl 1 rfl) ?_
  refine iz_ne (tgt := 16) hx hb dX3_contactor_6 (by decide) (fun h_2 => ?_) (fun h_2 => ?_)
  · refine lv_aload_n hx hb dX3_contactor_16 rfl (lv_at hl 0 rfl) ?_
    refine va_get (D := D) (ci := 4) (v := .int (nI (cm_st M))) (C := RX3) (T := TX3) (N := 20) hx hb hts iX3_contactor_X3 hown hK hP 0 rfl rfl 9 (by decide) (hts (.fieldLink RX3 79 "CellRows2Model" "stage" "I") (by decide +kernel)) (fun _ h9 => h9) rfl dX3_contactor_17 ?_
    refine lv_iconst (v := 3) hx hb dX3_contactor_20 (by decide) ?_
    refine ib_eq (tgt := 45) hx hb dX3_contactor_21 (by decide) (fun h_3 => ?_) (fun h_3 => ?_)
    · refine lv_bipush (v := (-3)) hx hb dX3_contactor_45 (by decide) ?_
      exact W.iret (v := (-3)) hx hb hr (fun t ht hW => ⟨⟨(-3), (cm_set_th M 0), rfl, ⟨(by first | rfl | (simp only [rmCon, gmCon, rmCon2, gmCon2, if_neg h_2, if_pos h_3] <;> rfl)), (by first | rfl | (simp only [rmCon, gmCon, rmCon2, gmCon2, if_neg h_2, if_pos h_3] <;> rfl))⟩, by rw [ht]; exact hP, va_K.moved hW.alike hK, hD⟩, hS.F ht⟩) hS.2.2 dX3_contactor_47
    · refine lv_aload_n hx hb dX3_contactor_24 rfl (lv_at hl 0 rfl) ?_
      refine va_get (D := D) (ci := 4) (v := .int (nI (cm_st M))) (C := RX3) (T := TX3) (N := 20) hx hb hts iX3_contactor_X3 hown hK hP 0 rfl rfl 9 (by decide) (hts (.fieldLink RX3 79 "CellRows2Model" "stage" "I") (by decide +kernel)) (fun _ h9 => h9) rfl dX3_contactor_25 ?_
      refine lv_iconst (v := 2) hx hb dX3_contactor_28 (by decide) ?_
      refine ib_ne (tgt := 48) hx hb dX3_contactor_29 (by decide) (fun h_4 => ?_) (fun h_4 => ?_)
      · refine lv_aload_n hx hb dX3_contactor_48 rfl (lv_at hl 0 rfl) ?_
        refine va_get (D := D) (ci := 4) (v := .int (nI (cm_st M))) (C := RX3) (T := TX3) (N := 20) hx hb hts iX3_contactor_X3 hown hK hP 0 rfl rfl 9 (by decide) (hts (.fieldLink RX3 79 "CellRows2Model" "stage" "I") (by decide +kernel)) (fun _ h9 => h9) rfl dX3_contactor_49 ?_
        refine lv_iconst (v := 2) hx hb dX3_contactor_52 (by decide) ?_
        refine ib_ne (tgt := 78) hx hb dX3_contactor_53 (by decide) (fun h_5 => ?_) (fun h_5 => ?_)
        · have g3 : cm_st M ≠ 3 := nI_neN (b := 3) h_3
          refine lv_aload_n hx hb dX3_contactor_78 rfl (lv_at hl 0 rfl) ?_
          refine va_get (D := D) (ci := 4) (v := .ref (b 8)) (C := RX3) (T := TX3) (N := 20) hx hb hts iX3_contactor_X3 hown hK hP 0 rfl rfl 12 (by decide) (hts (.fieldLink RX3 46 "CellRows2Model" "stucks" "[Z") (by decide +kernel)) (fun _ h9 => h9) rfl dX3_contactor_79 ?_
          refine lv_aload_n hx hb dX3_contactor_82 rfl (lv_at hl 0 rfl) ?_
          refine va_get (D := D) (ci := 4) (v := .int (nI (cm_st M))) (C := RX3) (T := TX3) (N := 20) hx hb hts iX3_contactor_X3 hown hK hP 0 rfl rfl 9 (by decide) (hts (.fieldLink RX3 79 "CellRows2Model" "stage" "I") (by decide +kernel)) (fun _ h9 => h9) rfl dX3_contactor_83 ?_
          refine ra_z (f := (cm_stk M)) hx hb hK hP 8 7 rfl rfl (cm_st M) rfl (by omega) (Nat.le_of_ble_eq_true rfl) dX3_contactor_86 ?_
          refine iz_eq (tgt := 98) hx hb dX3_contactor_87 (by decide) (fun h_6 => ?_) (fun h_6 => ?_)
          · refine lv_aload_n hx hb dX3_contactor_98 rfl (lv_at hl 0 rfl) ?_
            refine lv_dup hx hb dX3_contactor_99 rfl ?_
            refine va_get (D := D) (ci := 4) (v := .int (nI (cm_st M))) (C := RX3) (T := TX3) (N := 20) hx hb hts iX3_contactor_X3 hown hK hP 0 rfl rfl 9 (by decide) (hts (.fieldLink RX3 79 "CellRows2Model" "stage" "I") (by decide +kernel)) (fun _ h9 => h9) rfl dX3_contactor_100 ?_
            refine lv_iconst (v := 1) hx hb dX3_contactor_103 (by decide) ?_
            refine lv_iadd hx hb dX3_contactor_104 ?_
            refine W.eqi (nI_1 (cm_st M)) ?_
            refine va_put (D := D) (ci := 4) (v := .int (nI ((cm_st M) + 1))) (ty := .int) (C := RX3) (T := TX3) (N := 20) hx hb hts iX3_contactor_X3 tyX3 tyX3_ok nmX3 hown hK hP hD hS 0 rfl rfl 9 (by decide) (hts (.fieldLink RX3 79 "CellRows2Model" "stage" "I") (by decide +kernel)) (fun _ h9 => h9) rfl (by decide +kernel) rfl rfl (Nat.le_of_ble_eq_true rfl) dX3_contactor_105 (fun H7 locs7 hP hD hS => ?_)
            have hP : va_P D vwCl (wM cm b n (cm_set_st (cm_set_th M 0) ((cm_st M) + 1))) H7 := hP
            have hD : va_D A (wM cm b n (cm_set_st (cm_set_th M 0) ((cm_st M) + 1))) := hD
            refine lv_aload_n hx hb dX3_contactor_108 rfl (lv_at hl 0 rfl) ?_
            refine lv_aload_n hx hb dX3_contactor_109 rfl (lv_at hl 0 rfl) ?_
            refine va_get (D := D) (ci := 4) (v := .int (nI ((cm_st M) + 1))) (C := RX3) (T := TX3) (N := 20) hx hb hts iX3_contactor_X3 hown hK hP 0 rfl rfl 9 (by decide) (hts (.fieldLink RX3 79 "CellRows2Model" "stage" "I") (by decide +kernel)) (fun _ h9 => h9) rfl dX3_contactor_110 ?_
            refine lv_iconst (v := 2) hx hb dX3_contactor_113 (by decide) ?_
            refine W.join (P := fun v9 : Int32 => v9 = if nI ((cm_st M) + 1) = 2 then (cm_steps M) else (cm_beg M)) (g := fun v9 => F0 m 128 ls [.int v9, .ref (b 0)]) (fun v8 hv8 => ?_) (fun J8 => ?_)
            · subst hv8
              refine va_put (D := D) (ci := 4) (v := .int (if nI ((cm_st M) + 1) = 2 then (cm_steps M) else (cm_beg M))) (ty := .int) (C := RX3) (T := TX3) (N := 20) hx hb hts iX3_contactor_X3 tyX3 tyX3_ok nmX3 hown hK hP hD hS 0 rfl rfl 11 (by decide) (hts (.fieldLink RX3 131 "CellRows2Model" "began" "I") (by decide +kernel)) (fun _ h9 => h9) rfl (by decide +kernel) rfl rfl (Nat.le_of_ble_eq_true rfl) dX3_contactor_128 (fun H10 locs10 hP hD hS => ?_)
              have hP : va_P D vwCl (wM cm b n (cm_set_beg (cm_set_st (cm_set_th M 0) ((cm_st M) + 1)) (if nI ((cm_st M) + 1) = 2 then (cm_steps M) else (cm_beg M)))) H10 := hP
              have hD : va_D A (wM cm b n (cm_set_beg (cm_set_st (cm_set_th M 0) ((cm_st M) + 1)) (if nI ((cm_st M) + 1) = 2 then (cm_steps M) else (cm_beg M)))) := hD
              refine lv_aload_n hx hb dX3_contactor_131 rfl (lv_at hl 0 rfl) ?_
              refine va_get (D := D) (ci := 4) (v := .int (nI ((cm_st M) + 1))) (C := RX3) (T := TX3) (N := 20) hx hb hts iX3_contactor_X3 hown hK hP 0 rfl rfl 9 (by decide) (hts (.fieldLink RX3 79 "CellRows2Model" "stage" "I") (by decide +kernel)) (fun _ h9 => h9) rfl dX3_contactor_132 ?_
              exact W.iret (v := nI ((cm_st M) + 1)) hx hb hr (fun t ht hW => ⟨⟨nI ((cm_st M) + 1), (cm_set_beg (cm_set_st (cm_set_th M 0) ((cm_st M) + 1)) (if nI ((cm_st M) + 1) = 2 then (cm_steps M) else (cm_beg M))), rfl, ⟨(by first | rfl | (simp only [rmCon, gmCon, rmCon2, gmCon2, if_neg h_2, if_neg h_3, if_neg h_4, if_neg h_5, if_pos h_6] <;> rfl)), (by first | rfl | (simp only [rmCon, gmCon, rmCon2, gmCon2, if_neg h_2, if_neg h_3, if_neg h_4, if_neg h_5, if_pos h_6] <;> rfl))⟩, by rw [ht]; exact hP, va_K.moved hW.alike hK, hD⟩, hS.F ht⟩) hS.2.2 dX3_contactor_135
            · refine ib_ne (tgt := 124) hx hb dX3_contactor_114 (by decide) (fun h_9 => ?_) (fun h_9 => ?_)
              · refine lv_aload_n hx hb dX3_contactor_124 rfl (lv_at hl 0 rfl) ?_
                refine va_get (D := D) (ci := 4) (v := .int (cm_beg M)) (C := RX3) (T := TX3) (N := 20) hx hb hts iX3_contactor_X3 hown hK hP 0 rfl rfl 11 (by decide) (hts (.fieldLink RX3 131 "CellRows2Model" "began" "I") (by decide +kernel)) (fun _ h9 => h9) rfl dX3_contactor_125 ?_
                exact J8 _ (by simp only [if_neg h_9])
              · refine lv_aload_n hx hb dX3_contactor_117 rfl (lv_at hl 0 rfl) ?_
                refine va_get (D := D) (ci := 4) (v := .int (cm_steps M)) (C := RX3) (T := TX3) (N := 20) hx hb hts iX3_contactor_X3 hown hK hP 0 rfl rfl 10 (by decide) (hts (.fieldLink RX3 112 "CellRows2Model" "steps" "I") (by decide +kernel)) (fun _ h9 => h9) rfl dX3_contactor_118 ?_
                refine lv_goto (tgt := 128) hx hb dX3_contactor_121 (by decide) ?_
                exact J8 _ (by simp only [if_pos h_9])
          · refine lv_aload_n hx hb dX3_contactor_90 rfl (lv_at hl 0 rfl) ?_
            refine lv_iconst (v := 4) hx hb dX3_contactor_91 (by decide) ?_
            have hSo := hS
            refine va_callv (va_runV (As := [.int 4]) (rest := []) ⟨hx, hb, hml, hown, hts⟩ (kX3_fails l D cm b n (cm_set_th M 0) H1.size 4 (by first | assumption | omega)) (cwV 1 hts gX3_contactor_X3_fails rfl rfl rfl (by decide +kernel) ⟨Nat.le_of_ble_eq_true rfl, Nat.le_of_ble_eq_true rfl⟩) ⟨pM_blind, va_recv hK hP (ci := 4) (q0 := 0) rfl rfl, fun U hU hW => ⟨rfl, pM_mk hP hK hD hU hW⟩⟩ rfl rfl hl.1 rfl (lv_room (Nat.le_of_ble_eq_true rfl)) dX3_contactor_92 ⟨Nat.le_of_ble_eq_true rfl, Nat.le_of_ble_eq_true rfl⟩) hS (fun q _ h => freeAll hD hS hA q h) (freeAll hD hS hA) (fun u11 t11 H11 locs11 ht hvm hw hB hz1 hk1 hS => ?_)
            obtain ⟨hP1, hK1, hD1⟩ := hB
            rw [ht] at hP1
            have hK := va_K.moved hvm.symm hK1
            obtain rfl : u11 = mNote (cm_set_th M 0) 4 := hw
            have hD := hD1.weaken (fun _ q _ h => freeAll hD hSo hA q.1 h)
            have hP := hP1
            refine lv_goto (tgt := 131) hx hb dX3_contactor_95 (by decide) ?_
            refine lv_aload_n hx hb dX3_contactor_131 rfl (lv_at hl 0 rfl) ?_
            refine va_get (D := D) (ci := 4) (v := .int (nI (cm_st (mNote (cm_set_th M 0) 4)))) (C := RX3) (T := TX3) (N := 20) hx hb hts iX3_contactor_X3 hown hK hP 0 rfl rfl 9 (by decide) (hts (.fieldLink RX3 79 "CellRows2Model" "stage" "I") (by decide +kernel)) (fun _ h9 => h9) rfl dX3_contactor_132 ?_
            exact W.iret (v := nI (cm_st (mNote (cm_set_th M 0) 4))) hx hb hr (fun t ht hW => ⟨⟨nI (cm_st (mNote (cm_set_th M 0) 4)), mNote (cm_set_th M 0) 4, rfl, ⟨(by first | rfl | (simp only [rmCon, gmCon, rmCon2, gmCon2, if_neg h_2, if_neg h_3, if_neg h_4, if_neg h_5, if_neg h_6] <;> rfl)), (by first | rfl | (simp only [rmCon, gmCon, rmCon2, gmCon2, if_neg h_2, if_neg h_3, if_neg h_4, if_neg h_5, if_neg h_6] <;> rfl))⟩, by rw [ht]; exact hP, va_K.moved hW.alike hK, hD⟩, hS.F ht⟩) hS.2.2 dX3_contactor_135
        · exact absurd h_5 h_4
      · refine lv_aload_n hx hb dX3_contactor_32 rfl (lv_at hl 0 rfl) ?_
        refine va_get (D := D) (ci := 4) (v := .int (cm_steps M)) (C := RX3) (T := TX3) (N := 20) hx hb hts iX3_contactor_X3 hown hK hP 0 rfl rfl 10 (by decide) (hts (.fieldLink RX3 112 "CellRows2Model" "steps" "I") (by decide +kernel)) (fun _ h9 => h9) rfl dX3_contactor_33 ?_
        refine lv_aload_n hx hb dX3_contactor_36 rfl (lv_at hl 0 rfl) ?_
        refine va_get (D := D) (ci := 4) (v := .int (cm_beg M)) (C := RX3) (T := TX3) (N := 20) hx hb hts iX3_contactor_X3 hown hK hP 0 rfl rfl 11 (by decide) (hts (.fieldLink RX3 131 "CellRows2Model" "began" "I") (by decide +kernel)) (fun _ h9 => h9) rfl dX3_contactor_37 ?_
        refine lv_isub hx hb dX3_contactor_40 ?_
        refine lv_iconst (v := 3) hx hb dX3_contactor_41 (by decide) ?_
        refine ib_ge (tgt := 48) hx hb dX3_contactor_42 (by decide) (fun h_12 => ?_) (fun h_12 => ?_)
        · refine lv_aload_n hx hb dX3_contactor_48 rfl (lv_at hl 0 rfl) ?_
          refine va_get (D := D) (ci := 4) (v := .int (nI (cm_st M))) (C := RX3) (T := TX3) (N := 20) hx hb hts iX3_contactor_X3 hown hK hP 0 rfl rfl 9 (by decide) (hts (.fieldLink RX3 79 "CellRows2Model" "stage" "I") (by decide +kernel)) (fun _ h9 => h9) rfl dX3_contactor_49 ?_
          refine lv_iconst (v := 2) hx hb dX3_contactor_52 (by decide) ?_
          refine ib_ne (tgt := 78) hx hb dX3_contactor_53 (by decide) (fun h_13 => ?_) (fun h_13 => ?_)
          · exact absurd h_4 h_13
          · refine lv_aload_n hx hb dX3_contactor_56 rfl (lv_at hl 0 rfl) ?_
            refine va_get (D := D) (ci := 4) (v := .int (cm_steps M)) (C := RX3) (T := TX3) (N := 20) hx hb hts iX3_contactor_X3 hown hK hP 0 rfl rfl 10 (by decide) (hts (.fieldLink RX3 112 "CellRows2Model" "steps" "I") (by decide +kernel)) (fun _ h9 => h9) rfl dX3_contactor_57 ?_
            refine lv_aload_n hx hb dX3_contactor_60 rfl (lv_at hl 0 rfl) ?_
            refine va_get (D := D) (ci := 4) (v := .int (cm_beg M)) (C := RX3) (T := TX3) (N := 20) hx hb hts iX3_contactor_X3 hown hK hP 0 rfl rfl 11 (by decide) (hts (.fieldLink RX3 131 "CellRows2Model" "began" "I") (by decide +kernel)) (fun _ h9 => h9) rfl dX3_contactor_61 ?_
            refine lv_isub hx hb dX3_contactor_64 ?_
            refine lv_bipush (v := 20) hx hb dX3_contactor_65 (by decide) ?_
            refine ib_lt (tgt := 78) hx hb dX3_contactor_67 (by decide) (fun h_14 => ?_) (fun h_14 => ?_)
            · have g3 : cm_st M ≠ 3 := nI_neN (b := 3) h_3
              refine lv_aload_n hx hb dX3_contactor_78 rfl (lv_at hl 0 rfl) ?_
              refine va_get (D := D) (ci := 4) (v := .ref (b 8)) (C := RX3) (T := TX3) (N := 20) hx hb hts iX3_contactor_X3 hown hK hP 0 rfl rfl 12 (by decide) (hts (.fieldLink RX3 46 "CellRows2Model" "stucks" "[Z") (by decide +kernel)) (fun _ h9 => h9) rfl dX3_contactor_79 ?_
              refine lv_aload_n hx hb dX3_contactor_82 rfl (lv_at hl 0 rfl) ?_
              refine va_get (D := D) (ci := 4) (v := .int (nI (cm_st M))) (C := RX3) (T := TX3) (N := 20) hx hb hts iX3_contactor_X3 hown hK hP 0 rfl rfl 9 (by decide) (hts (.fieldLink RX3 79 "CellRows2Model" "stage" "I") (by decide +kernel)) (fun _ h9 => h9) rfl dX3_contactor_83 ?_
              refine ra_z (f := (cm_stk M)) hx hb hK hP 8 7 rfl rfl (cm_st M) rfl (by omega) (Nat.le_of_ble_eq_true rfl) dX3_contactor_86 ?_
              refine iz_eq (tgt := 98) hx hb dX3_contactor_87 (by decide) (fun h_15 => ?_) (fun h_15 => ?_)
              · refine lv_aload_n hx hb dX3_contactor_98 rfl (lv_at hl 0 rfl) ?_
                refine lv_dup hx hb dX3_contactor_99 rfl ?_
                refine va_get (D := D) (ci := 4) (v := .int (nI (cm_st M))) (C := RX3) (T := TX3) (N := 20) hx hb hts iX3_contactor_X3 hown hK hP 0 rfl rfl 9 (by decide) (hts (.fieldLink RX3 79 "CellRows2Model" "stage" "I") (by decide +kernel)) (fun _ h9 => h9) rfl dX3_contactor_100 ?_
                refine lv_iconst (v := 1) hx hb dX3_contactor_103 (by decide) ?_
                refine lv_iadd hx hb dX3_contactor_104 ?_
                refine W.eqi (nI_1 (cm_st M)) ?_
                refine va_put (D := D) (ci := 4) (v := .int (nI ((cm_st M) + 1))) (ty := .int) (C := RX3) (T := TX3) (N := 20) hx hb hts iX3_contactor_X3 tyX3 tyX3_ok nmX3 hown hK hP hD hS 0 rfl rfl 9 (by decide) (hts (.fieldLink RX3 79 "CellRows2Model" "stage" "I") (by decide +kernel)) (fun _ h9 => h9) rfl (by decide +kernel) rfl rfl (Nat.le_of_ble_eq_true rfl) dX3_contactor_105 (fun H16 locs16 hP hD hS => ?_)
                have hP : va_P D vwCl (wM cm b n (cm_set_st (cm_set_th M 0) ((cm_st M) + 1))) H16 := hP
                have hD : va_D A (wM cm b n (cm_set_st (cm_set_th M 0) ((cm_st M) + 1))) := hD
                refine lv_aload_n hx hb dX3_contactor_108 rfl (lv_at hl 0 rfl) ?_
                refine lv_aload_n hx hb dX3_contactor_109 rfl (lv_at hl 0 rfl) ?_
                refine va_get (D := D) (ci := 4) (v := .int (nI ((cm_st M) + 1))) (C := RX3) (T := TX3) (N := 20) hx hb hts iX3_contactor_X3 hown hK hP 0 rfl rfl 9 (by decide) (hts (.fieldLink RX3 79 "CellRows2Model" "stage" "I") (by decide +kernel)) (fun _ h9 => h9) rfl dX3_contactor_110 ?_
                refine lv_iconst (v := 2) hx hb dX3_contactor_113 (by decide) ?_
                refine W.join (P := fun v9 : Int32 => v9 = if nI ((cm_st M) + 1) = 2 then (cm_steps M) else (cm_beg M)) (g := fun v9 => F0 m 128 ls [.int v9, .ref (b 0)]) (fun v17 hv17 => ?_) (fun J17 => ?_)
                · subst hv17
                  refine va_put (D := D) (ci := 4) (v := .int (if nI ((cm_st M) + 1) = 2 then (cm_steps M) else (cm_beg M))) (ty := .int) (C := RX3) (T := TX3) (N := 20) hx hb hts iX3_contactor_X3 tyX3 tyX3_ok nmX3 hown hK hP hD hS 0 rfl rfl 11 (by decide) (hts (.fieldLink RX3 131 "CellRows2Model" "began" "I") (by decide +kernel)) (fun _ h9 => h9) rfl (by decide +kernel) rfl rfl (Nat.le_of_ble_eq_true rfl) dX3_contactor_128 (fun H19 locs19 hP hD hS => ?_)
                  have hP : va_P D vwCl (wM cm b n (cm_set_beg (cm_set_st (cm_set_th M 0) ((cm_st M) + 1)) (if nI ((cm_st M) + 1) = 2 then (cm_steps M) else (cm_beg M)))) H19 := hP
                  have hD : va_D A (wM cm b n (cm_set_beg (cm_set_st (cm_set_th M 0) ((cm_st M) + 1)) (if nI ((cm_st M) + 1) = 2 then (cm_steps M) else (cm_beg M)))) := hD
                  refine lv_aload_n hx hb dX3_contactor_131 rfl (lv_at hl 0 rfl) ?_
                  refine va_get (D := D) (ci := 4) (v := .int (nI ((cm_st M) + 1))) (C := RX3) (T := TX3) (N := 20) hx hb hts iX3_contactor_X3 hown hK hP 0 rfl rfl 9 (by decide) (hts (.fieldLink RX3 79 "CellRows2Model" "stage" "I") (by decide +kernel)) (fun _ h9 => h9) rfl dX3_contactor_132 ?_
                  exact W.iret (v := nI ((cm_st M) + 1)) hx hb hr (fun t ht hW => ⟨⟨nI ((cm_st M) + 1), (cm_set_beg (cm_set_st (cm_set_th M 0) ((cm_st M) + 1)) (if nI ((cm_st M) + 1) = 2 then (cm_steps M) else (cm_beg M))), rfl, ⟨(by first | rfl | (simp only [rmCon, gmCon, rmCon2, gmCon2, if_neg h_2, if_neg h_3, if_pos h_4, if_neg h_12, if_pos h_13, if_pos h_14, if_pos h_15] <;> rfl)), (by first | rfl | (simp only [rmCon, gmCon, rmCon2, gmCon2, if_neg h_2, if_neg h_3, if_pos h_4, if_neg h_12, if_pos h_13, if_pos h_14, if_pos h_15] <;> rfl))⟩, by rw [ht]; exact hP, va_K.moved hW.alike hK, hD⟩, hS.F ht⟩) hS.2.2 dX3_contactor_135
                · refine ib_ne (tgt := 124) hx hb dX3_contactor_114 (by decide) (fun h_18 => ?_) (fun h_18 => ?_)
                  · refine lv_aload_n hx hb dX3_contactor_124 rfl (lv_at hl 0 rfl) ?_
                    refine va_get (D := D) (ci := 4) (v := .int (cm_beg M)) (C := RX3) (T := TX3) (N := 20) hx hb hts iX3_contactor_X3 hown hK hP 0 rfl rfl 11 (by decide) (hts (.fieldLink RX3 131 "CellRows2Model" "began" "I") (by decide +kernel)) (fun _ h9 => h9) rfl dX3_contactor_125 ?_
                    exact J17 _ (by simp only [if_neg h_18])
                  · refine lv_aload_n hx hb dX3_contactor_117 rfl (lv_at hl 0 rfl) ?_
                    refine va_get (D := D) (ci := 4) (v := .int (cm_steps M)) (C := RX3) (T := TX3) (N := 20) hx hb hts iX3_contactor_X3 hown hK hP 0 rfl rfl 10 (by decide) (hts (.fieldLink RX3 112 "CellRows2Model" "steps" "I") (by decide +kernel)) (fun _ h9 => h9) rfl dX3_contactor_118 ?_
                    refine lv_goto (tgt := 128) hx hb dX3_contactor_121 (by decide) ?_
                    exact J17 _ (by simp only [if_pos h_18])
              · refine lv_aload_n hx hb dX3_contactor_90 rfl (lv_at hl 0 rfl) ?_
                refine lv_iconst (v := 4) hx hb dX3_contactor_91 (by decide) ?_
                have hSo := hS
                refine va_callv (va_runV (As := [.int 4]) (rest := []) ⟨hx, hb, hml, hown, hts⟩ (kX3_fails l D cm b n (cm_set_th M 0) H1.size 4 (by first | assumption | omega)) (cwV 1 hts gX3_contactor_X3_fails rfl rfl rfl (by decide +kernel) ⟨Nat.le_of_ble_eq_true rfl, Nat.le_of_ble_eq_true rfl⟩) ⟨pM_blind, va_recv hK hP (ci := 4) (q0 := 0) rfl rfl, fun U hU hW => ⟨rfl, pM_mk hP hK hD hU hW⟩⟩ rfl rfl hl.1 rfl (lv_room (Nat.le_of_ble_eq_true rfl)) dX3_contactor_92 ⟨Nat.le_of_ble_eq_true rfl, Nat.le_of_ble_eq_true rfl⟩) hS (fun q _ h => freeAll hD hS hA q h) (freeAll hD hS hA) (fun u20 t20 H20 locs20 ht hvm hw hB hz1 hk1 hS => ?_)
                obtain ⟨hP1, hK1, hD1⟩ := hB
                rw [ht] at hP1
                have hK := va_K.moved hvm.symm hK1
                obtain rfl : u20 = mNote (cm_set_th M 0) 4 := hw
                have hD := hD1.weaken (fun _ q _ h => freeAll hD hSo hA q.1 h)
                have hP := hP1
                refine lv_goto (tgt := 131) hx hb dX3_contactor_95 (by decide) ?_
                refine lv_aload_n hx hb dX3_contactor_131 rfl (lv_at hl 0 rfl) ?_
                refine va_get (D := D) (ci := 4) (v := .int (nI (cm_st (mNote (cm_set_th M 0) 4)))) (C := RX3) (T := TX3) (N := 20) hx hb hts iX3_contactor_X3 hown hK hP 0 rfl rfl 9 (by decide) (hts (.fieldLink RX3 79 "CellRows2Model" "stage" "I") (by decide +kernel)) (fun _ h9 => h9) rfl dX3_contactor_132 ?_
                exact W.iret (v := nI (cm_st (mNote (cm_set_th M 0) 4))) hx hb hr (fun t ht hW => ⟨⟨nI (cm_st (mNote (cm_set_th M 0) 4)), mNote (cm_set_th M 0) 4, rfl, ⟨(by first | rfl | (simp only [rmCon, gmCon, rmCon2, gmCon2, if_neg h_2, if_neg h_3, if_pos h_4, if_neg h_12, if_pos h_13, if_pos h_14, if_neg h_15] <;> rfl)), (by first | rfl | (simp only [rmCon, gmCon, rmCon2, gmCon2, if_neg h_2, if_neg h_3, if_pos h_4, if_neg h_12, if_pos h_13, if_pos h_14, if_neg h_15] <;> rfl))⟩, by rw [ht]; exact hP, va_K.moved hW.alike hK, hD⟩, hS.F ht⟩) hS.2.2 dX3_contactor_135
            · refine lv_aload_n hx hb dX3_contactor_70 rfl (lv_at hl 0 rfl) ?_
              refine lv_iconst (v := 3) hx hb dX3_contactor_71 (by decide) ?_
              have hSo := hS
              refine va_callv (va_runV (As := [.int 3]) (rest := []) ⟨hx, hb, hml, hown, hts⟩ (kX3_fails l D cm b n (cm_set_th M 0) H1.size 3 (by first | assumption | omega)) (cwV 1 hts gX3_contactor_X3_fails rfl rfl rfl (by decide +kernel) ⟨Nat.le_of_ble_eq_true rfl, Nat.le_of_ble_eq_true rfl⟩) ⟨pM_blind, va_recv hK hP (ci := 4) (q0 := 0) rfl rfl, fun U hU hW => ⟨rfl, pM_mk hP hK hD hU hW⟩⟩ rfl rfl hl.1 rfl (lv_room (Nat.le_of_ble_eq_true rfl)) dX3_contactor_72 ⟨Nat.le_of_ble_eq_true rfl, Nat.le_of_ble_eq_true rfl⟩) hS (fun q _ h => freeAll hD hS hA q h) (freeAll hD hS hA) (fun u21 t21 H21 locs21 ht hvm hw hB hz1 hk1 hS => ?_)
              obtain ⟨hP1, hK1, hD1⟩ := hB
              rw [ht] at hP1
              have hK := va_K.moved hvm.symm hK1
              obtain rfl : u21 = mNote (cm_set_th M 0) 3 := hw
              have hD := hD1.weaken (fun _ q _ h => freeAll hD hSo hA q.1 h)
              have hP := hP1
              refine lv_goto (tgt := 131) hx hb dX3_contactor_75 (by decide) ?_
              refine lv_aload_n hx hb dX3_contactor_131 rfl (lv_at hl 0 rfl) ?_
              refine va_get (D := D) (ci := 4) (v := .int (nI (cm_st (mNote (cm_set_th M 0) 3)))) (C := RX3) (T := TX3) (N := 20) hx hb hts iX3_contactor_X3 hown hK hP 0 rfl rfl 9 (by decide) (hts (.fieldLink RX3 79 "CellRows2Model" "stage" "I") (by decide +kernel)) (fun _ h9 => h9) rfl dX3_contactor_132 ?_
              exact W.iret (v := nI (cm_st (mNote (cm_set_th M 0) 3))) hx hb hr (fun t ht hW => ⟨⟨nI (cm_st (mNote (cm_set_th M 0) 3)), mNote (cm_set_th M 0) 3, rfl, ⟨(by first | rfl | (simp only [rmCon, gmCon, rmCon2, gmCon2, if_neg h_2, if_neg h_3, if_pos h_4, if_neg h_12, if_pos h_13, if_neg h_14] <;> rfl)), (by first | rfl | (simp only [rmCon, gmCon, rmCon2, gmCon2, if_neg h_2, if_neg h_3, if_pos h_4, if_neg h_12, if_pos h_13, if_neg h_14] <;> rfl))⟩, by rw [ht]; exact hP, va_K.moved hW.alike hK, hD⟩, hS.F ht⟩) hS.2.2 dX3_contactor_135
        · refine lv_bipush (v := (-3)) hx hb dX3_contactor_45 (by decide) ?_
          exact W.iret (v := (-3)) hx hb hr (fun t ht hW => ⟨⟨(-3), (cm_set_th M 0), rfl, ⟨(by first | rfl | (simp only [rmCon, gmCon, rmCon2, gmCon2, if_neg h_2, if_neg h_3, if_pos h_4, if_pos h_12] <;> rfl)), (by first | rfl | (simp only [rmCon, gmCon, rmCon2, gmCon2, if_neg h_2, if_neg h_3, if_pos h_4, if_pos h_12] <;> rfl))⟩, by rw [ht]; exact hP, va_K.moved hW.alike hK, hD⟩, hS.F ht⟩) hS.2.2 dX3_contactor_47
  · refine lv_aload_n hx hb dX3_contactor_9 rfl (lv_at hl 0 rfl) ?_
    refine lv_iconst (v := 0) hx hb dX3_contactor_10 (by decide) ?_
    refine va_put (D := D) (ci := 4) (v := .int 0) (ty := .int) (C := RX3) (T := TX3) (N := 20) hx hb hts iX3_contactor_X3 tyX3 tyX3_ok nmX3 hown hK hP hD hS 0 rfl rfl 9 (by decide) (hts (.fieldLink RX3 79 "CellRows2Model" "stage" "I") (by decide +kernel)) (fun _ h9 => h9) rfl (by decide +kernel) rfl rfl (Nat.le_of_ble_eq_true rfl) dX3_contactor_11 (fun H22 locs22 hP hD hS => ?_)
    have hP : va_P D vwCl (wM cm b n (cm_set_st (cm_set_th M 0) 0)) H22 := hP
    have hD : va_D A (wM cm b n (cm_set_st (cm_set_th M 0) 0)) := hD
    refine lv_iconst (v := 0) hx hb dX3_contactor_14 (by decide) ?_
    exact W.iret (v := 0) hx hb hr (fun t ht hW => ⟨⟨0, (cm_set_st (cm_set_th M 0) 0), rfl, ⟨(by first | rfl | (simp only [rmCon, gmCon, rmCon2, gmCon2, if_pos h_2] <;> rfl)), (by first | rfl | (simp only [rmCon, gmCon, rmCon2, gmCon2, if_pos h_2] <;> rfl))⟩, by rw [ht]; exact hP, va_K.moved hW.alike hK, hD⟩, hS.F ht⟩) hS.2.2 dX3_contactor_15
set_option maxRecDepth 20000 in
theorem iX3_leastVolt_X3 : ∀ w ∈ wsX30, w ∈ wsX3_leastVolt := by decide +kernel
set_option maxHeartbeats 1000000 in
set_option maxRecDepth 100000 in
theorem kX3_leastVolt (l : Launch) (D : va_G) (cm : Nat → ClassId) (b : Nat → Nat) (n : Nat) (M : MS) (sz : Nat) (h1 : 1 ≤ n) (hn : n ≤ 24) : Met l yX3_leastVolt wsX3_leastVolt ({ frames := 0, cells := 0, slots := 0, locals := 0 }) (va_Pc [.ref (b 0)] (pM D cm b n M sz)) (vp_Sl (fun r => r = mLv (cm_vo M) (n - 1))) 0 0 (fun _ => False) := by
  refine Met.ofW (cc := cX3_leastVolt) (maxL := 4) (ret := (some .long)) (by decide) rfl ?_
  intro p e s m args below meth c s₁ B hml hv
  obtain ⟨rfl, hsz, hP, hK, hD0⟩ := hv
  have hx := B.exec
  have hb := B.bytes
  have hr := B.returns
  have hts := atoms_spec (ws := wsX3_leastVolt) B.pre
  have hown : s.vm.findClass RX3 = some m.cls := findClass_of_methodNamed B.named
  have hlocks := B.notSynchronized
  have hD := hD0
  have hl := lv_entry ([.ref (b 0)]) (n := 4) (Nat.le_of_ble_eq_true rfl)
  rw [lg_entry_eq]
  generalize (lg_sl ([.ref (b 0)]) ++ List.replicate (4 - (lg_sl ([.ref (b 0)])).length) Slot.unset).toArray = ls at hl ⊢
  have hl : lv_has ls 4 [(0, .ref (b 0))] := hl
  refine lv_aload_n hx hb dX3_leastVolt_0 rfl (lv_at hl 0 rfl) ?_
  refine va_get (D := D) (ci := 4) (v := .ref (b 3)) (C := RX3) (T := TX3) (N := 20) hx hb hts iX3_leastVolt_X3 hown hK hP 0 rfl rfl 4 (by decide) (hts (.fieldLink RX3 17 "CellRows2Model" "volts" "[J") (by decide +kernel)) (fun _ h9 => h9) rfl dX3_leastVolt_1 ?_
  refine lv_iconst (v := 0) hx hb dX3_leastVolt_4 (by decide) ?_
  refine ra_l (f := (cm_vo M)) hx hb hK hP 3 2 rfl rfl 0 rfl (Nat.le_of_ble_eq_true rfl) (Nat.le_of_ble_eq_true rfl) dX3_leastVolt_5 ?_
  refine lv_lstore_n (lv' := [(1, .long ((cm_vo M) 0)), (0, .ref (b 0))]) hx hb dX3_leastVolt_6 rfl hl (by decide) rfl (fun ls hl => ?_)
  refine lv_iconst (v := 1) hx hb dX3_leastVolt_7 (by decide) ?_
  refine lv_istore_n (lv' := [(3, .int 1), (1, .long ((cm_vo M) 0)), (0, .ref (b 0))]) hx hb dX3_leastVolt_8 rfl hl (by decide) rfl (fun ls hl => ?_)
  refine W.loop (α := Nat × Array Slot) (g := fun v9 => F0 m 9 v9.2 []) (fun k9 v9 => v9.1 + 1 + k9 = n ∧ lv_has v9.2 4 [(0, .ref (b 0)), (1, .long (mLv (cm_vo M) v9.1)), (3, .int (nI (v9.1 + 1)))]) ?_ ?_ (n - 1) (0, ls) ⟨by omega, lv_sub hl [2, 1, 0] rfl⟩
  · rintro ⟨z, ls⟩ ⟨h9, hl⟩
    have h9 : z + 1 + 0 = n := h9
    have e9 : z = n - 1 := by omega
    have hl : lv_has ls 4 [(0, .ref (b 0)), (1, .long (mLv (cm_vo M) z)), (3, .int (nI (z + 1)))] := hl
    rw [e9] at hl
    have hl : lv_has ls 4 [(0, .ref (b 0)), (1, .long (mLv (cm_vo M) (n - 1))), (3, .int (nI ((n - 1) + 1)))] := hl
    refine lv_iload_n hx hb dX3_leastVolt_9 rfl (lv_at hl 2 rfl) ?_
    refine lv_aload_n hx hb dX3_leastVolt_10 rfl (lv_at hl 0 rfl) ?_
    refine va_get (D := D) (ci := 4) (v := .int (nI n)) (C := RX3) (T := TX3) (N := 20) hx hb hts iX3_leastVolt_X3 hown hK hP 0 rfl rfl 1 (by decide) (hts (.fieldLink RX3 61 "CellRows2Model" "cells" "I") (by decide +kernel)) (fun _ h9 => h9) rfl dX3_leastVolt_11 ?_
    refine ib_ge (tgt := 45) hx hb dX3_leastVolt_14 (by decide) (fun h_2 => ?_) (fun h_2 => ?_)
    · refine lv_lload_n hx hb dX3_leastVolt_45 rfl (lv_at hl 1 rfl) ?_
      exact W.lret (v := mLv (cm_vo M) (n - 1)) hx hb hr (fun t ht hW => ⟨mLv (cm_vo M) (n - 1), rfl, rfl, ht⟩) (fun q hq => absurd hq List.not_mem_nil) dX3_leastVolt_46
    · exact absurd h_2 (nI_nlt (a := n - 1 + 1) (b := n) (by omega) (by omega))
  · rintro k9 ih ⟨z, ls⟩ ⟨h9, hl⟩
    have h9 : z + 1 + (k9 + 1) = n := h9
    have hl : lv_has ls 4 [(0, .ref (b 0)), (1, .long (mLv (cm_vo M) z)), (3, .int (nI (z + 1)))] := hl
    refine lv_iload_n hx hb dX3_leastVolt_9 rfl (lv_at hl 2 rfl) ?_
    refine lv_aload_n hx hb dX3_leastVolt_10 rfl (lv_at hl 0 rfl) ?_
    refine va_get (D := D) (ci := 4) (v := .int (nI n)) (C := RX3) (T := TX3) (N := 20) hx hb hts iX3_leastVolt_X3 hown hK hP 0 rfl rfl 1 (by decide) (hts (.fieldLink RX3 61 "CellRows2Model" "cells" "I") (by decide +kernel)) (fun _ h9 => h9) rfl dX3_leastVolt_11 ?_
    refine ib_ge (tgt := 45) hx hb dX3_leastVolt_14 (by decide) (fun h_3 => ?_) (fun h_3 => ?_)
    · exact absurd (nI_lt (a := z + 1) (b := n) (by omega) (by omega)) h_3
    · refine lv_aload_n hx hb dX3_leastVolt_17 rfl (lv_at hl 0 rfl) ?_
      refine va_get (D := D) (ci := 4) (v := .ref (b 3)) (C := RX3) (T := TX3) (N := 20) hx hb hts iX3_leastVolt_X3 hown hK hP 0 rfl rfl 4 (by decide) (hts (.fieldLink RX3 17 "CellRows2Model" "volts" "[J") (by decide +kernel)) (fun _ h9 => h9) rfl dX3_leastVolt_18 ?_
      refine lv_iload_n hx hb dX3_leastVolt_21 rfl (lv_at hl 2 rfl) ?_
      refine ra_l (f := (cm_vo M)) hx hb hK hP 3 2 rfl rfl (z + 1) rfl (by omega) (Nat.le_of_ble_eq_true rfl) dX3_leastVolt_22 ?_
      refine lv_lload_n hx hb dX3_leastVolt_23 rfl (lv_at hl 1 rfl) ?_
      refine W.join (P := fun v9 : Int64 => v9 = mLv (cm_vo M) (z + 1)) (g := fun v9 => F0 m 38 ls [.long v9]) (fun v4 hv4 => ?_) (fun J4 => ?_)
      · subst hv4
        refine lv_lstore_n (lv' := [(1, .long (mLv (cm_vo M) (z + 1))), (0, .ref (b 0)), (3, .int (nI (z + 1)))]) hx hb dX3_leastVolt_38 rfl hl (by decide) rfl (fun ls hl => ?_)
        refine lv_iinc (v := nI (z + 1 + 1)) (lv' := [(3, .int (nI (z + 1 + 1))), (1, .long (mLv (cm_vo M) (z + 1))), (0, .ref (b 0))]) hx hb dX3_leastVolt_39 hl (k := 2) rfl (nI_1 (z + 1)) (by decide) rfl (fun ls hl => ?_)
        refine lv_goto (tgt := 9) hx hb dX3_leastVolt_42 (by decide) ?_
        exact ih ((z + 1), ls) ⟨by show z + 1 + 1 + k9 = n; omega, lv_sub hl [2, 1, 0] rfl⟩
      · refine il_ge (tgt := 37) hx hb dX3_leastVolt_24 dX3_leastVolt_25 (by decide) (fun h_5 => ?_) (fun h_5 => ?_)
        · refine lv_lload_n hx hb dX3_leastVolt_37 rfl (lv_at hl 1 rfl) ?_
          exact J4 _ (by simp only [mLv, if_neg h_5])
        · refine lv_aload_n hx hb dX3_leastVolt_28 rfl (lv_at hl 0 rfl) ?_
          refine va_get (D := D) (ci := 4) (v := .ref (b 3)) (C := RX3) (T := TX3) (N := 20) hx hb hts iX3_leastVolt_X3 hown hK hP 0 rfl rfl 4 (by decide) (hts (.fieldLink RX3 17 "CellRows2Model" "volts" "[J") (by decide +kernel)) (fun _ h9 => h9) rfl dX3_leastVolt_29 ?_
          refine lv_iload_n hx hb dX3_leastVolt_32 rfl (lv_at hl 2 rfl) ?_
          refine ra_l (f := (cm_vo M)) hx hb hK hP 3 2 rfl rfl (z + 1) rfl (by omega) (Nat.le_of_ble_eq_true rfl) dX3_leastVolt_33 ?_
          refine lv_goto (tgt := 38) hx hb dX3_leastVolt_34 (by decide) ?_
          exact J4 _ (by simp only [mLv, if_pos h_5])
set_option maxRecDepth 20000 in
theorem iX3_bleed_X3 : ∀ w ∈ wsX30, w ∈ wsX3_bleed := by decide +kernel
set_option maxHeartbeats 1000000 in
set_option maxRecDepth 100000 in
theorem kX3_bleed (l : Launch) (D : va_G) (cm : Nat → ClassId) (b : Nat → Nat) (n : Nat) (M : MS) (sz : Nat) (p0 : Int32) (h1 : 1 ≤ n) (hn : n ≤ 24) : Met l yX3_bleed wsX3_bleed ({ frames := 1, cells := 0, slots := 0, locals := 23 }) (va_Pc [.ref (b 0), .int p0] (pM D cm b n M sz)) (va_Qi (fun r (u : MS) => r = rmBle M n p0 ∧ u = gmBle M n p0) (eM D cm b n (va_A (wM cm b n M) sz)) (va_A (wM cm b n M) sz)) 0 0 (va_A (wM cm b n M) sz) := by
  refine Met.ofW (cc := cX3_bleed) (maxL := 4) (ret := (some .int)) (by decide) rfl ?_
  intro p e s m args below meth c s₁ B hml hv
  obtain ⟨rfl, hsz, hP, hK, hD0⟩ := hv
  have hx := B.exec
  have hb := B.bytes
  have hr := B.returns
  have hts := atoms_spec (ws := wsX3_bleed) B.pre
  have hown : s.vm.findClass RX3 = some m.cls := findClass_of_methodNamed B.named
  have hlocks := B.notSynchronized
  subst hsz
  have hD := hD0.self (sz := s.heap.size)
  generalize hAe : va_A (wM cm b n M) s.heap.size = A at hD ⊢
  have hA : ∀ q : Nat, s.heap.size ≤ q → A q := fun q h => by rw [← hAe]; exact Or.inr h
  have hS : va_S A s.heap s.heap [] := va_S.rf
  have hl := lv_entry ([.ref (b 0), .int p0]) (n := 4) (Nat.le_of_ble_eq_true rfl)
  rw [lg_entry_eq]
  generalize (lg_sl ([.ref (b 0), .int p0]) ++ List.replicate (4 - (lg_sl ([.ref (b 0), .int p0])).length) Slot.unset).toArray = ls at hl ⊢
  have hl : lv_has ls 4 [(0, .ref (b 0)), (1, .int p0)] := hl
  refine lv_aload_n hx hb dX3_bleed_0 rfl (lv_at hl 0 rfl) ?_
  refine lv_iconst (v := 0) hx hb dX3_bleed_1 (by decide) ?_
  refine va_put (D := D) (ci := 4) (v := .int 0) (ty := .int) (C := RX3) (T := TX3) (N := 20) hx hb hts iX3_bleed_X3 tyX3 tyX3_ok nmX3 hown hK hP hD hS 0 rfl rfl 0 (by decide) (hts (.fieldLink RX3 73 "CellRows2Model" "thrown" "I") (by decide +kernel)) (fun _ h9 => h9) rfl (by decide +kernel) rfl rfl (Nat.le_of_ble_eq_true rfl) dX3_bleed_2 (fun H1 locs1 hP hD hS => ?_)
  have hP : va_P D vwCl (wM cm b n (cm_set_th M 0)) H1 := hP
  have hD : va_D A (wM cm b n (cm_set_th M 0)) := hD
  refine lv_aload_n hx hb dX3_bleed_5 rfl (lv_at hl 0 rfl) ?_
  refine lv_iload_n hx hb dX3_bleed_6 rfl (lv_at hl 1 rfl) ?_
  refine vp_callSi (W.runV (As := [.int p0]) (rest := []) ⟨hx, hb, hml, hown, hts⟩ (kX3_noCell l D cm b n (cm_set_th M 0) H1.size p0 hn) (cwV 1 hts gX3_bleed_X3_noCell rfl rfl rfl (by decide +kernel) ⟨Nat.le_of_ble_eq_true rfl, Nat.le_of_ble_eq_true rfl⟩) ⟨pM_blind, va_recv hK hP (ci := 4) (q0 := 0) rfl rfl, fun U hU hW => ⟨rfl, pM_mk hP hK hD hU hW⟩⟩ rfl rfl hl.1 rfl (lv_room (Nat.le_of_ble_eq_true rfl)) dX3_bleed_7 ⟨Nat.le_of_ble_eq_true rfl, Nat.le_of_ble_eq_true rfl⟩) (fun r2 hr2 => ?_)
  obtain rfl : r2 = mNo n p0 := hr2
  refine iz_eq (tgt := 15) hx hb dX3_bleed_10 (by decide) (fun h_3 => ?_) (fun h_3 => ?_)
  · obtain ⟨j, e_ix⟩ := mNo_0 h_3
    obtain ⟨hj, rfl⟩ := ix_some e_ix
    refine lv_aload_n hx hb dX3_bleed_15 rfl (lv_at hl 0 rfl) ?_
    refine va_get (D := D) (ci := 4) (v := .ref (b 6)) (C := RX3) (T := TX3) (N := 20) hx hb hts iX3_bleed_X3 hown hK hP 0 rfl rfl 7 (by decide) (hts (.fieldLink RX3 27 "CellRows2Model" "bleeds" "[Z") (by decide +kernel)) (fun _ h9 => h9) rfl dX3_bleed_16 ?_
    refine lv_iload_n hx hb dX3_bleed_19 rfl (lv_at hl 1 rfl) ?_
    refine ra_z (f := (cm_bl M)) hx hb hK hP 6 5 rfl rfl j rfl (by omega) (Nat.le_of_ble_eq_true rfl) dX3_bleed_20 ?_
    refine iz_ne (tgt := 61) hx hb dX3_bleed_21 (by decide) (fun h_4 => ?_) (fun h_4 => ?_)
    · refine W.joinH (P := fun (v9 : MS) (H' : Heap) (locs' : List Loc) => v9 = cm_set_bl (cm_set_th M 0) (va_up (cm_bl M) j (if cm_bl M j = 0 then 1 else 0)) ∧ va_P D vwCl (wM cm b n v9) H' ∧ va_D A (wM cm b n v9) ∧ va_S A s.heap H' locs') (g := fun _ => F0 m 81 ls []) (fun M1 H5 locs5 hj5 => ?_) (fun J5 => ?_)
      · obtain ⟨hs_M1, hP, hD, hS⟩ := hj5
        refine lv_iconst (v := 0) hx hb dX3_bleed_81 (by decide) ?_
        refine lv_istore_n (lv' := [(2, .int 0), (0, .ref (b 0)), (1, .int (nI j))]) hx hb dX3_bleed_82 rfl hl (by decide) rfl (fun ls hl => ?_)
        refine lv_iconst (v := 0) hx hb dX3_bleed_83 (by decide) ?_
        refine lv_istore_n (lv' := [(3, .int 0), (2, .int 0), (0, .ref (b 0)), (1, .int (nI j))]) hx hb dX3_bleed_84 rfl hl (by decide) rfl (fun ls hl => ?_)
        refine W.loop (α := Nat × Array Slot) (g := fun v9 => F0 m 85 v9.2 []) (fun k9 v9 => v9.1 + k9 = n ∧ lv_has v9.2 4 [(0, .ref (b 0)), (2, .int (sBc (cm_bl M1) v9.1)), (3, .int (nI v9.1))]) ?_ ?_ n (0, ls) ⟨by omega, lv_sub hl [2, 1, 0] rfl⟩
        · rintro ⟨i, ls⟩ ⟨h9, hl⟩
          have h9 : i + 0 = n := h9
          have e9 : i = n := by omega
          have hl : lv_has ls 4 [(0, .ref (b 0)), (2, .int (sBc (cm_bl M1) i)), (3, .int (nI i))] := hl
          rw [e9] at hl
          have hl : lv_has ls 4 [(0, .ref (b 0)), (2, .int (sBc (cm_bl M1) n)), (3, .int (nI n))] := hl
          refine lv_iload_n hx hb dX3_bleed_85 rfl (lv_at hl 2 rfl) ?_
          refine lv_aload_n hx hb dX3_bleed_86 rfl (lv_at hl 0 rfl) ?_
          refine va_get (D := D) (ci := 4) (v := .int (nI n)) (C := RX3) (T := TX3) (N := 20) hx hb hts iX3_bleed_X3 hown hK hP 0 rfl rfl 1 (by decide) (hts (.fieldLink RX3 61 "CellRows2Model" "cells" "I") (by decide +kernel)) (fun _ h9 => h9) rfl dX3_bleed_87 ?_
          refine ib_ge (tgt := 116) hx hb dX3_bleed_90 (by decide) (fun h_10 => ?_) (fun h_10 => ?_)
          · refine lv_iload_n hx hb dX3_bleed_116 rfl (lv_at hl 1 rfl) ?_
            subst hs_M1
            exact W.iret (v := sBc (cm_bl (cm_set_bl (cm_set_th M 0) (va_up (cm_bl M) j (if cm_bl M j = 0 then 1 else 0)))) n) hx hb hr (fun t ht hW => ⟨⟨sBc (cm_bl (cm_set_bl (cm_set_th M 0) (va_up (cm_bl M) j (if cm_bl M j = 0 then 1 else 0)))) n, (cm_set_bl (cm_set_th M 0) (va_up (cm_bl M) j (if cm_bl M j = 0 then 1 else 0))), rfl, ⟨(by first | rfl | (simp only [rmBle, gmBle, if_pos h_3, e_ix, Option.elim_some, if_neg h_4, if_neg h_10] <;> rfl)), (by first | rfl | (simp only [rmBle, gmBle, if_pos h_3, e_ix, Option.elim_some, if_neg h_4, if_neg h_10] <;> rfl))⟩, by rw [ht]; exact hP, va_K.moved hW.alike hK, hD⟩, hS.F ht⟩) hS.2.2 dX3_bleed_117
          · exact absurd h_10 (nI_nlt (a := n) (b := n) (Nat.le_refl _) (by omega))
        · rintro k9 ih ⟨i, ls⟩ ⟨h9, hl⟩
          have h9 : i + (k9 + 1) = n := h9
          have hi : i < n := by omega
          have hl : lv_has ls 4 [(0, .ref (b 0)), (2, .int (sBc (cm_bl M1) i)), (3, .int (nI i))] := hl
          refine lv_iload_n hx hb dX3_bleed_85 rfl (lv_at hl 2 rfl) ?_
          refine lv_aload_n hx hb dX3_bleed_86 rfl (lv_at hl 0 rfl) ?_
          refine va_get (D := D) (ci := 4) (v := .int (nI n)) (C := RX3) (T := TX3) (N := 20) hx hb hts iX3_bleed_X3 hown hK hP 0 rfl rfl 1 (by decide) (hts (.fieldLink RX3 61 "CellRows2Model" "cells" "I") (by decide +kernel)) (fun _ h9 => h9) rfl dX3_bleed_87 ?_
          refine ib_ge (tgt := 116) hx hb dX3_bleed_90 (by decide) (fun h_11 => ?_) (fun h_11 => ?_)
          · exact absurd (nI_lt (a := i) (b := n) (by omega) (by omega)) h_11
          · refine lv_aload_n hx hb dX3_bleed_93 rfl (lv_at hl 0 rfl) ?_
            refine va_get (D := D) (ci := 4) (v := .ref (b 6)) (C := RX3) (T := TX3) (N := 20) hx hb hts iX3_bleed_X3 hown hK hP 0 rfl rfl 7 (by decide) (hts (.fieldLink RX3 27 "CellRows2Model" "bleeds" "[Z") (by decide +kernel)) (fun _ h9 => h9) rfl dX3_bleed_94 ?_
            refine lv_iload_n hx hb dX3_bleed_97 rfl (lv_at hl 2 rfl) ?_
            refine ra_z (f := (cm_bl M1)) hx hb hK hP 6 5 rfl rfl i rfl (by omega) (Nat.le_of_ble_eq_true rfl) dX3_bleed_98 ?_
            refine W.join (P := fun v9 : Int32 => v9 = sBc (cm_bl M1) (i + 1)) (g := fun v9 => F0 m 109 ls [.int v9]) (fun v12 hv12 => ?_) (fun J12 => ?_)
            · subst hv12
              refine lv_istore_n (lv' := [(2, .int (sBc (cm_bl M1) (i + 1))), (0, .ref (b 0)), (3, .int (nI i))]) hx hb dX3_bleed_109 rfl hl (by decide) rfl (fun ls hl => ?_)
              refine lv_iinc (v := nI (i + 1)) (lv' := [(3, .int (nI (i + 1))), (2, .int (sBc (cm_bl M1) (i + 1))), (0, .ref (b 0))]) hx hb dX3_bleed_110 hl (k := 2) rfl (nI_1 i) (by decide) rfl (fun ls hl => ?_)
              refine lv_goto (tgt := 85) hx hb dX3_bleed_113 (by decide) ?_
              exact ih ((i + 1), ls) ⟨by show i + 1 + k9 = n; omega, lv_sub hl [2, 1, 0] rfl⟩
            · refine iz_eq (tgt := 108) hx hb dX3_bleed_99 (by decide) (fun h_13 => ?_) (fun h_13 => ?_)
              · refine lv_iload_n hx hb dX3_bleed_108 rfl (lv_at hl 1 rfl) ?_
                exact J12 _ (by simp only [sBc, if_pos h_13])
              · refine lv_iload_n hx hb dX3_bleed_102 rfl (lv_at hl 1 rfl) ?_
                refine lv_iconst (v := 1) hx hb dX3_bleed_103 (by decide) ?_
                refine lv_iadd hx hb dX3_bleed_104 ?_
                refine lv_goto (tgt := 109) hx hb dX3_bleed_105 (by decide) ?_
                exact J12 _ (by simp only [sBc, if_neg h_13])
      · refine lv_aload_n hx hb dX3_bleed_61 rfl (lv_at hl 0 rfl) ?_
        refine va_get (D := D) (ci := 4) (v := .ref (b 6)) (C := RX3) (T := TX3) (N := 20) hx hb hts iX3_bleed_X3 hown hK hP 0 rfl rfl 7 (by decide) (hts (.fieldLink RX3 27 "CellRows2Model" "bleeds" "[Z") (by decide +kernel)) (fun _ h9 => h9) rfl dX3_bleed_62 ?_
        refine lv_iload_n hx hb dX3_bleed_65 rfl (lv_at hl 1 rfl) ?_
        refine lv_aload_n hx hb dX3_bleed_66 rfl (lv_at hl 0 rfl) ?_
        refine va_get (D := D) (ci := 4) (v := .ref (b 6)) (C := RX3) (T := TX3) (N := 20) hx hb hts iX3_bleed_X3 hown hK hP 0 rfl rfl 7 (by decide) (hts (.fieldLink RX3 27 "CellRows2Model" "bleeds" "[Z") (by decide +kernel)) (fun _ h9 => h9) rfl dX3_bleed_67 ?_
        refine lv_iload_n hx hb dX3_bleed_70 rfl (lv_at hl 1 rfl) ?_
        refine ra_z (f := (cm_bl M)) hx hb hK hP 6 5 rfl rfl j rfl (by omega) (Nat.le_of_ble_eq_true rfl) dX3_bleed_71 ?_
        refine W.join (P := fun v9 : Int32 => v9 = 0) (g := fun v9 => F0 m 80 ls [.int v9, .int (nI j), .ref (b 6)]) (fun v6 hv6 => ?_) (fun J6 => ?_)
        · subst hv6
          refine rs_z (f := (cm_bl M)) hx hb hK hP hD hS 6 5 rfl rfl (Or.inl rfl) j rfl (by omega) (Nat.le_of_ble_eq_true rfl) dX3_bleed_80 (fun H8 locs8 hP hD hS => ?_)
          have hP : va_P D vwCl (wM cm b n (cm_set_bl (cm_set_th M 0) (va_up (cm_bl M) j 0))) H8 := hP
          have hD : va_D A (wM cm b n (cm_set_bl (cm_set_th M 0) (va_up (cm_bl M) j 0))) := hD
          exact J5 (cm_set_bl (cm_set_th M 0) (va_up (cm_bl M) j 0)) _ _ ⟨by first | rfl | (simp only [if_pos h_3, e_ix, Option.elim_some, if_neg h_4]), hP, hD, hS⟩
        · refine iz_ne (tgt := 79) hx hb dX3_bleed_72 (by decide) (fun h_7 => ?_) (fun h_7 => ?_)
          · refine lv_iconst (v := 0) hx hb dX3_bleed_79 (by decide) ?_
            exact J6 _ (by simp only [if_neg h_7])
          · exact absurd h_7 h_4
    · refine lv_aload_n hx hb dX3_bleed_24 rfl (lv_at hl 0 rfl) ?_
      refine va_get (D := D) (ci := 4) (v := .ref (b 1)) (C := RX3) (T := TX3) (N := 20) hx hb hts iX3_bleed_X3 hown hK hP 0 rfl rfl 2 (by decide) (hts (.fieldLink RX3 7 "CellRows2Model" "charges" "[J") (by decide +kernel)) (fun _ h9 => h9) rfl dX3_bleed_25 ?_
      refine lv_iload_n hx hb dX3_bleed_28 rfl (lv_at hl 1 rfl) ?_
      refine ra_l (f := (cm_ch M)) hx hb hK hP 1 0 rfl rfl j rfl (by omega) (Nat.le_of_ble_eq_true rfl) dX3_bleed_29 ?_
      refine lv_aload_n hx hb dX3_bleed_30 rfl (lv_at hl 0 rfl) ?_
      refine va_get (D := D) (ci := 4) (v := .ref (b 7)) (C := RX3) (T := TX3) (N := 20) hx hb hts iX3_bleed_X3 hown hK hP 0 rfl rfl 8 (by decide) (hts (.fieldLink RX3 43 "CellRows2Model" "limits" "[J") (by decide +kernel)) (fun _ h9 => h9) rfl dX3_bleed_31 ?_
      refine lv_iconst (v := 4) hx hb dX3_bleed_34 (by decide) ?_
      refine ra_l (f := (cm_lim M)) hx hb hK hP 7 6 rfl rfl 4 rfl (Nat.le_of_ble_eq_true rfl) (Nat.le_of_ble_eq_true rfl) dX3_bleed_35 ?_
      refine il_lt (tgt := 58) hx hb dX3_bleed_36 dX3_bleed_37 (by decide) (fun h_14 => ?_) (fun h_14 => ?_)
      · refine lv_bipush (v := (-3)) hx hb dX3_bleed_58 (by decide) ?_
        exact W.iret (v := (-3)) hx hb hr (fun t ht hW => ⟨⟨(-3), (cm_set_th M 0), rfl, ⟨(by first | rfl | (simp only [rmBle, gmBle, if_pos h_3, e_ix, Option.elim_some, if_pos h_4, if_pos h_14] <;> rfl)), (by first | rfl | (simp only [rmBle, gmBle, if_pos h_3, e_ix, Option.elim_some, if_pos h_4, if_pos h_14] <;> rfl))⟩, by rw [ht]; exact hP, va_K.moved hW.alike hK, hD⟩, hS.F ht⟩) hS.2.2 dX3_bleed_60
      · refine lv_aload_n hx hb dX3_bleed_40 rfl (lv_at hl 0 rfl) ?_
        refine va_get (D := D) (ci := 4) (v := .ref (b 3)) (C := RX3) (T := TX3) (N := 20) hx hb hts iX3_bleed_X3 hown hK hP 0 rfl rfl 4 (by decide) (hts (.fieldLink RX3 17 "CellRows2Model" "volts" "[J") (by decide +kernel)) (fun _ h9 => h9) rfl dX3_bleed_41 ?_
        refine lv_iload_n hx hb dX3_bleed_44 rfl (lv_at hl 1 rfl) ?_
        refine ra_l (f := (cm_vo M)) hx hb hK hP 3 2 rfl rfl j rfl (by omega) (Nat.le_of_ble_eq_true rfl) dX3_bleed_45 ?_
        refine lv_aload_n hx hb dX3_bleed_46 rfl (lv_at hl 0 rfl) ?_
        refine vp_callSl (W.runV (As := []) (rest := [.long ((cm_vo M) j)]) ⟨hx, hb, hml, hown, hts⟩ (kX3_leastVolt l D cm b n (cm_set_th M 0) H1.size h1 hn) (cwV 0 hts gX3_bleed_X3_leastVolt rfl rfl rfl (by decide +kernel) ⟨Nat.le_of_ble_eq_true rfl, Nat.le_of_ble_eq_true rfl⟩) ⟨pM_blind, va_recv hK hP (ci := 4) (q0 := 0) rfl rfl, fun U hU hW => ⟨rfl, pM_mk hP hK hD hU hW⟩⟩ rfl rfl hl.1 rfl (lv_room (Nat.le_of_ble_eq_true rfl)) dX3_bleed_47 ⟨Nat.le_of_ble_eq_true rfl, Nat.le_of_ble_eq_true rfl⟩) (fun r15 hr15 => ?_)
        obtain rfl : r15 = mLv (cm_vo M) (n - 1) := hr15
        refine lv_ldc2 hx hb hown (hts (.constantLong RX3 138 (10)) (by decide +kernel)) dX3_bleed_50 ?_
        refine lv_ladd hx hb dX3_bleed_53 ?_
        refine il_ge (tgt := 61) hx hb dX3_bleed_54 dX3_bleed_55 (by decide) (fun h_16 => ?_) (fun h_16 => ?_)
        · refine W.joinH (P := fun (v9 : MS) (H' : Heap) (locs' : List Loc) => v9 = cm_set_bl (cm_set_th M 0) (va_up (cm_bl M) j (if cm_bl M j = 0 then 1 else 0)) ∧ va_P D vwCl (wM cm b n v9) H' ∧ va_D A (wM cm b n v9) ∧ va_S A s.heap H' locs') (g := fun _ => F0 m 81 ls []) (fun M1 H17 locs17 hj17 => ?_) (fun J17 => ?_)
          · obtain ⟨hs_M1, hP, hD, hS⟩ := hj17
            refine lv_iconst (v := 0) hx hb dX3_bleed_81 (by decide) ?_
            refine lv_istore_n (lv' := [(2, .int 0), (0, .ref (b 0)), (1, .int (nI j))]) hx hb dX3_bleed_82 rfl hl (by decide) rfl (fun ls hl => ?_)
            refine lv_iconst (v := 0) hx hb dX3_bleed_83 (by decide) ?_
            refine lv_istore_n (lv' := [(3, .int 0), (2, .int 0), (0, .ref (b 0)), (1, .int (nI j))]) hx hb dX3_bleed_84 rfl hl (by decide) rfl (fun ls hl => ?_)
            refine W.loop (α := Nat × Array Slot) (g := fun v9 => F0 m 85 v9.2 []) (fun k9 v9 => v9.1 + k9 = n ∧ lv_has v9.2 4 [(0, .ref (b 0)), (2, .int (sBc (cm_bl M1) v9.1)), (3, .int (nI v9.1))]) ?_ ?_ n (0, ls) ⟨by omega, lv_sub hl [2, 1, 0] rfl⟩
            · rintro ⟨i, ls⟩ ⟨h9, hl⟩
              have h9 : i + 0 = n := h9
              have e9 : i = n := by omega
              have hl : lv_has ls 4 [(0, .ref (b 0)), (2, .int (sBc (cm_bl M1) i)), (3, .int (nI i))] := hl
              rw [e9] at hl
              have hl : lv_has ls 4 [(0, .ref (b 0)), (2, .int (sBc (cm_bl M1) n)), (3, .int (nI n))] := hl
              refine lv_iload_n hx hb dX3_bleed_85 rfl (lv_at hl 2 rfl) ?_
              refine lv_aload_n hx hb dX3_bleed_86 rfl (lv_at hl 0 rfl) ?_
              refine va_get (D := D) (ci := 4) (v := .int (nI n)) (C := RX3) (T := TX3) (N := 20) hx hb hts iX3_bleed_X3 hown hK hP 0 rfl rfl 1 (by decide) (hts (.fieldLink RX3 61 "CellRows2Model" "cells" "I") (by decide +kernel)) (fun _ h9 => h9) rfl dX3_bleed_87 ?_
              refine ib_ge (tgt := 116) hx hb dX3_bleed_90 (by decide) (fun h_22 => ?_) (fun h_22 => ?_)
              · refine lv_iload_n hx hb dX3_bleed_116 rfl (lv_at hl 1 rfl) ?_
                subst hs_M1
                exact W.iret (v := sBc (cm_bl (cm_set_bl (cm_set_th M 0) (va_up (cm_bl M) j (if cm_bl M j = 0 then 1 else 0)))) n) hx hb hr (fun t ht hW => ⟨⟨sBc (cm_bl (cm_set_bl (cm_set_th M 0) (va_up (cm_bl M) j (if cm_bl M j = 0 then 1 else 0)))) n, (cm_set_bl (cm_set_th M 0) (va_up (cm_bl M) j (if cm_bl M j = 0 then 1 else 0))), rfl, ⟨(by first | rfl | (simp only [rmBle, gmBle, if_pos h_3, e_ix, Option.elim_some, if_pos h_4, if_neg h_14, if_neg h_16, if_neg h_22] <;> rfl)), (by first | rfl | (simp only [rmBle, gmBle, if_pos h_3, e_ix, Option.elim_some, if_pos h_4, if_neg h_14, if_neg h_16, if_neg h_22] <;> rfl))⟩, by rw [ht]; exact hP, va_K.moved hW.alike hK, hD⟩, hS.F ht⟩) hS.2.2 dX3_bleed_117
              · exact absurd h_22 (nI_nlt (a := n) (b := n) (Nat.le_refl _) (by omega))
            · rintro k9 ih ⟨i, ls⟩ ⟨h9, hl⟩
              have h9 : i + (k9 + 1) = n := h9
              have hi : i < n := by omega
              have hl : lv_has ls 4 [(0, .ref (b 0)), (2, .int (sBc (cm_bl M1) i)), (3, .int (nI i))] := hl
              refine lv_iload_n hx hb dX3_bleed_85 rfl (lv_at hl 2 rfl) ?_
              refine lv_aload_n hx hb dX3_bleed_86 rfl (lv_at hl 0 rfl) ?_
              refine va_get (D := D) (ci := 4) (v := .int (nI n)) (C := RX3) (T := TX3) (N := 20) hx hb hts iX3_bleed_X3 hown hK hP 0 rfl rfl 1 (by decide) (hts (.fieldLink RX3 61 "CellRows2Model" "cells" "I") (by decide +kernel)) (fun _ h9 => h9) rfl dX3_bleed_87 ?_
              refine ib_ge (tgt := 116) hx hb dX3_bleed_90 (by decide) (fun h_23 => ?_) (fun h_23 => ?_)
              · exact absurd (nI_lt (a := i) (b := n) (by omega) (by omega)) h_23
              · refine lv_aload_n hx hb dX3_bleed_93 rfl (lv_at hl 0 rfl) ?_
                refine va_get (D := D) (ci := 4) (v := .ref (b 6)) (C := RX3) (T := TX3) (N := 20) hx hb hts iX3_bleed_X3 hown hK hP 0 rfl rfl 7 (by decide) (hts (.fieldLink RX3 27 "CellRows2Model" "bleeds" "[Z") (by decide +kernel)) (fun _ h9 => h9) rfl dX3_bleed_94 ?_
                refine lv_iload_n hx hb dX3_bleed_97 rfl (lv_at hl 2 rfl) ?_
                refine ra_z (f := (cm_bl M1)) hx hb hK hP 6 5 rfl rfl i rfl (by omega) (Nat.le_of_ble_eq_true rfl) dX3_bleed_98 ?_
                refine W.join (P := fun v9 : Int32 => v9 = sBc (cm_bl M1) (i + 1)) (g := fun v9 => F0 m 109 ls [.int v9]) (fun v24 hv24 => ?_) (fun J24 => ?_)
                · subst hv24
                  refine lv_istore_n (lv' := [(2, .int (sBc (cm_bl M1) (i + 1))), (0, .ref (b 0)), (3, .int (nI i))]) hx hb dX3_bleed_109 rfl hl (by decide) rfl (fun ls hl => ?_)
                  refine lv_iinc (v := nI (i + 1)) (lv' := [(3, .int (nI (i + 1))), (2, .int (sBc (cm_bl M1) (i + 1))), (0, .ref (b 0))]) hx hb dX3_bleed_110 hl (k := 2) rfl (nI_1 i) (by decide) rfl (fun ls hl => ?_)
                  refine lv_goto (tgt := 85) hx hb dX3_bleed_113 (by decide) ?_
                  exact ih ((i + 1), ls) ⟨by show i + 1 + k9 = n; omega, lv_sub hl [2, 1, 0] rfl⟩
                · refine iz_eq (tgt := 108) hx hb dX3_bleed_99 (by decide) (fun h_25 => ?_) (fun h_25 => ?_)
                  · refine lv_iload_n hx hb dX3_bleed_108 rfl (lv_at hl 1 rfl) ?_
                    exact J24 _ (by simp only [sBc, if_pos h_25])
                  · refine lv_iload_n hx hb dX3_bleed_102 rfl (lv_at hl 1 rfl) ?_
                    refine lv_iconst (v := 1) hx hb dX3_bleed_103 (by decide) ?_
                    refine lv_iadd hx hb dX3_bleed_104 ?_
                    refine lv_goto (tgt := 109) hx hb dX3_bleed_105 (by decide) ?_
                    exact J24 _ (by simp only [sBc, if_neg h_25])
          · refine lv_aload_n hx hb dX3_bleed_61 rfl (lv_at hl 0 rfl) ?_
            refine va_get (D := D) (ci := 4) (v := .ref (b 6)) (C := RX3) (T := TX3) (N := 20) hx hb hts iX3_bleed_X3 hown hK hP 0 rfl rfl 7 (by decide) (hts (.fieldLink RX3 27 "CellRows2Model" "bleeds" "[Z") (by decide +kernel)) (fun _ h9 => h9) rfl dX3_bleed_62 ?_
            refine lv_iload_n hx hb dX3_bleed_65 rfl (lv_at hl 1 rfl) ?_
            refine lv_aload_n hx hb dX3_bleed_66 rfl (lv_at hl 0 rfl) ?_
            refine va_get (D := D) (ci := 4) (v := .ref (b 6)) (C := RX3) (T := TX3) (N := 20) hx hb hts iX3_bleed_X3 hown hK hP 0 rfl rfl 7 (by decide) (hts (.fieldLink RX3 27 "CellRows2Model" "bleeds" "[Z") (by decide +kernel)) (fun _ h9 => h9) rfl dX3_bleed_67 ?_
            refine lv_iload_n hx hb dX3_bleed_70 rfl (lv_at hl 1 rfl) ?_
            refine ra_z (f := (cm_bl M)) hx hb hK hP 6 5 rfl rfl j rfl (by omega) (Nat.le_of_ble_eq_true rfl) dX3_bleed_71 ?_
            refine W.join (P := fun v9 : Int32 => v9 = 1) (g := fun v9 => F0 m 80 ls [.int v9, .int (nI j), .ref (b 6)]) (fun v18 hv18 => ?_) (fun J18 => ?_)
            · subst hv18
              refine rs_z (f := (cm_bl M)) hx hb hK hP hD hS 6 5 rfl rfl (Or.inr rfl) j rfl (by omega) (Nat.le_of_ble_eq_true rfl) dX3_bleed_80 (fun H20 locs20 hP hD hS => ?_)
              have hP : va_P D vwCl (wM cm b n (cm_set_bl (cm_set_th M 0) (va_up (cm_bl M) j 1))) H20 := hP
              have hD : va_D A (wM cm b n (cm_set_bl (cm_set_th M 0) (va_up (cm_bl M) j 1))) := hD
              exact J17 (cm_set_bl (cm_set_th M 0) (va_up (cm_bl M) j 1)) _ _ ⟨by first | rfl | (simp only [if_pos h_3, e_ix, Option.elim_some, if_pos h_4, if_neg h_14, if_neg h_16]), hP, hD, hS⟩
            · refine iz_ne (tgt := 79) hx hb dX3_bleed_72 (by decide) (fun h_19 => ?_) (fun h_19 => ?_)
              · exact absurd h_4 h_19
              · refine lv_iconst (v := 1) hx hb dX3_bleed_75 (by decide) ?_
                refine lv_goto (tgt := 80) hx hb dX3_bleed_76 (by decide) ?_
                exact J18 _ (by simp only [if_pos h_19])
        · refine lv_bipush (v := (-3)) hx hb dX3_bleed_58 (by decide) ?_
          exact W.iret (v := (-3)) hx hb hr (fun t ht hW => ⟨⟨(-3), (cm_set_th M 0), rfl, ⟨(by first | rfl | (simp only [rmBle, gmBle, if_pos h_3, e_ix, Option.elim_some, if_pos h_4, if_neg h_14, if_pos h_16] <;> rfl)), (by first | rfl | (simp only [rmBle, gmBle, if_pos h_3, e_ix, Option.elim_some, if_pos h_4, if_neg h_14, if_pos h_16] <;> rfl))⟩, by rw [ht]; exact hP, va_K.moved hW.alike hK, hD⟩, hS.F ht⟩) hS.2.2 dX3_bleed_60
  · have e_ixn := mNo_1 h_3
    refine lv_iconst (v := (-1)) hx hb dX3_bleed_13 (by decide) ?_
    exact W.iret (v := (-1)) hx hb hr (fun t ht hW => ⟨⟨(-1), (cm_set_th M 0), rfl, ⟨(by first | rfl | (simp only [rmBle, gmBle, if_neg h_3, e_ixn, Option.elim_none] <;> rfl)), (by first | rfl | (simp only [rmBle, gmBle, if_neg h_3, e_ixn, Option.elim_none] <;> rfl))⟩, by rw [ht]; exact hP, va_K.moved hW.alike hK, hD⟩, hS.F ht⟩) hS.2.2 dX3_bleed_14
set_option maxRecDepth 20000 in
theorem iX3_limit_X3 : ∀ w ∈ wsX30, w ∈ wsX3_limit := by decide +kernel
set_option maxHeartbeats 1000000 in
set_option maxRecDepth 100000 in
theorem kX3_limit (l : Launch) (D : va_G) (cm : Nat → ClassId) (b : Nat → Nat) (n : Nat) (M : MS) (sz : Nat) (p0 : Int32) (v : Int64) : Met l yX3_limit wsX3_limit ({ frames := 0, cells := 0, slots := 0, locals := 0 }) (va_Pc [.ref (b 0), .int p0, .long v] (pM D cm b n M sz)) (va_Qi (fun r (u : MS) => r = rmLim p0 v ∧ u = cm_set_th (gmLim M p0 v) 0) (eM D cm b n (va_A (wM cm b n M) sz)) (va_A (wM cm b n M) sz)) 0 0 (va_A (wM cm b n M) sz) := by
  refine Met.ofW (cc := cX3_limit) (maxL := 4) (ret := (some .int)) (by decide) rfl ?_
  intro p e s m args below meth c s₁ B hml hv
  obtain ⟨rfl, hsz, hP, hK, hD0⟩ := hv
  have hx := B.exec
  have hb := B.bytes
  have hr := B.returns
  have hts := atoms_spec (ws := wsX3_limit) B.pre
  have hown : s.vm.findClass RX3 = some m.cls := findClass_of_methodNamed B.named
  have hlocks := B.notSynchronized
  subst hsz
  have hD := hD0.self (sz := s.heap.size)
  generalize hAe : va_A (wM cm b n M) s.heap.size = A at hD ⊢
  have hA : ∀ q : Nat, s.heap.size ≤ q → A q := fun q h => by rw [← hAe]; exact Or.inr h
  have hS : va_S A s.heap s.heap [] := va_S.rf
  have hl := lv_entry ([.ref (b 0), .int p0, .long v]) (n := 4) (Nat.le_of_ble_eq_true rfl)
  rw [lg_entry_eq]
  generalize (lg_sl ([.ref (b 0), .int p0, .long v]) ++ List.replicate (4 - (lg_sl ([.ref (b 0), .int p0, .long v])).length) Slot.unset).toArray = ls at hl ⊢
  have hl : lv_has ls 4 [(0, .ref (b 0)), (1, .int p0), (2, .long v)] := hl
  refine lv_aload_n hx hb dX3_limit_0 rfl (lv_at hl 0 rfl) ?_
  refine lv_iconst (v := 0) hx hb dX3_limit_1 (by decide) ?_
  refine va_put (D := D) (ci := 4) (v := .int 0) (ty := .int) (C := RX3) (T := TX3) (N := 20) hx hb hts iX3_limit_X3 tyX3 tyX3_ok nmX3 hown hK hP hD hS 0 rfl rfl 0 (by decide) (hts (.fieldLink RX3 73 "CellRows2Model" "thrown" "I") (by decide +kernel)) (fun _ h9 => h9) rfl (by decide +kernel) rfl rfl (Nat.le_of_ble_eq_true rfl) dX3_limit_2 (fun H1 locs1 hP hD hS => ?_)
  have hP : va_P D vwCl (wM cm b n (cm_set_th M 0)) H1 := hP
  have hD : va_D A (wM cm b n (cm_set_th M 0)) := hD
  refine lv_iload_n hx hb dX3_limit_5 rfl (lv_at hl 1 rfl) ?_
  refine iz_lt (tgt := 14) hx hb dX3_limit_6 (by decide) (fun h_2 => ?_) (fun h_2 => ?_)
  · refine lv_iconst (v := (-1)) hx hb dX3_limit_14 (by decide) ?_
    exact W.iret (v := (-1)) hx hb hr (fun t ht hW => ⟨⟨(-1), (cm_set_th M 0), rfl, ⟨(by first | rfl | (simp only [rmLim, gmLim, Option.elim_none, Option.map_none, if_pos h_2, ix_neg h_2] <;> rfl)), (by first | rfl | (simp only [rmLim, gmLim, Option.elim_none, Option.map_none, if_pos h_2, ix_neg h_2] <;> rfl))⟩, by rw [ht]; exact hP, va_K.moved hW.alike hK, hD⟩, hS.F ht⟩) hS.2.2 dX3_limit_15
  · refine lv_iload_n hx hb dX3_limit_9 rfl (lv_at hl 1 rfl) ?_
    refine lv_iconst (v := 5) hx hb dX3_limit_10 (by decide) ?_
    refine ib_le (tgt := 16) hx hb dX3_limit_11 (by decide) (fun h_3 => ?_) (fun h_3 => ?_)
    · obtain ⟨j, hj, rfl⟩ := ix_of (n := 6) (by omega) h_2 (ix_le5 h_3)
      have e_ix := ix_at (n := 6) (by omega) hj
      refine lv_lload_n hx hb dX3_limit_16 rfl (lv_at hl 2 rfl) ?_
      refine lv_ldc2 hx hb hown (hts (.constantLong RX3 100 (-1000)) (by decide +kernel)) dX3_limit_17 ?_
      refine il_lt (tgt := 43) hx hb dX3_limit_20 dX3_limit_21 (by decide) (fun h_4 => ?_) (fun h_4 => ?_)
      · refine lv_bipush (v := (-2)) hx hb dX3_limit_43 (by decide) ?_
        exact W.iret (v := (-2)) hx hb hr (fun t ht hW => ⟨⟨(-2), (cm_set_th M 0), rfl, ⟨(by first | rfl | (simp only [rmLim, gmLim, Option.elim_none, Option.map_none, if_neg h_2, if_neg h_3, e_ix, Option.elim_some, if_pos h_4] <;> rfl)), (by first | rfl | (simp only [rmLim, gmLim, Option.elim_none, Option.map_none, if_neg h_2, if_neg h_3, e_ix, Option.elim_some, if_pos h_4] <;> rfl))⟩, by rw [ht]; exact hP, va_K.moved hW.alike hK, hD⟩, hS.F ht⟩) hS.2.2 dX3_limit_45
      · refine lv_lload_n hx hb dX3_limit_24 rfl (lv_at hl 2 rfl) ?_
        refine lv_ldc2 hx hb hown (hts (.constantLong RX3 140 (1000000)) (by decide +kernel)) dX3_limit_25 ?_
        refine il_gt (tgt := 43) hx hb dX3_limit_28 dX3_limit_29 (by decide) (fun h_5 => ?_) (fun h_5 => ?_)
        · refine lv_bipush (v := (-2)) hx hb dX3_limit_43 (by decide) ?_
          exact W.iret (v := (-2)) hx hb hr (fun t ht hW => ⟨⟨(-2), (cm_set_th M 0), rfl, ⟨(by first | rfl | (simp only [rmLim, gmLim, Option.elim_none, Option.map_none, if_neg h_2, if_neg h_3, e_ix, Option.elim_some, if_neg h_4, if_pos h_5] <;> rfl)), (by first | rfl | (simp only [rmLim, gmLim, Option.elim_none, Option.map_none, if_neg h_2, if_neg h_3, e_ix, Option.elim_some, if_neg h_4, if_pos h_5] <;> rfl))⟩, by rw [ht]; exact hP, va_K.moved hW.alike hK, hD⟩, hS.F ht⟩) hS.2.2 dX3_limit_45
        · refine lv_iload_n hx hb dX3_limit_32 rfl (lv_at hl 1 rfl) ?_
          refine lv_iconst (v := 5) hx hb dX3_limit_33 (by decide) ?_
          refine ib_ne (tgt := 46) hx hb dX3_limit_34 (by decide) (fun h_6 => ?_) (fun h_6 => ?_)
          · refine lv_aload_n hx hb dX3_limit_46 rfl (lv_at hl 0 rfl) ?_
            refine va_get (D := D) (ci := 4) (v := .ref (b 7)) (C := RX3) (T := TX3) (N := 20) hx hb hts iX3_limit_X3 hown hK hP 0 rfl rfl 8 (by decide) (hts (.fieldLink RX3 43 "CellRows2Model" "limits" "[J") (by decide +kernel)) (fun _ h9 => h9) rfl dX3_limit_47 ?_
            refine lv_iload_n hx hb dX3_limit_50 rfl (lv_at hl 1 rfl) ?_
            refine lv_lload_n hx hb dX3_limit_51 rfl (lv_at hl 2 rfl) ?_
            refine rs_l (f := (cm_lim M)) hx hb hK hP hD hS 7 6 rfl rfl j rfl (by omega) (Nat.le_of_ble_eq_true rfl) dX3_limit_52 (fun H7 locs7 hP hD hS => ?_)
            have hP : va_P D vwCl (wM cm b n (cm_set_lim (cm_set_th M 0) (va_up (cm_lim M) j v))) H7 := hP
            have hD : va_D A (wM cm b n (cm_set_lim (cm_set_th M 0) (va_up (cm_lim M) j v))) := hD
            refine lv_iconst (v := 1) hx hb dX3_limit_53 (by decide) ?_
            exact W.iret (v := 1) hx hb hr (fun t ht hW => ⟨⟨1, (cm_set_lim (cm_set_th M 0) (va_up (cm_lim M) j v)), rfl, ⟨(by first | rfl | (simp only [rmLim, gmLim, Option.elim_none, Option.map_none, if_neg h_2, if_neg h_3, e_ix, Option.elim_some, if_neg h_4, if_neg h_5, if_neg h_6] <;> rfl)), (by first | rfl | (simp only [rmLim, gmLim, Option.elim_none, Option.map_none, if_neg h_2, if_neg h_3, e_ix, Option.elim_some, if_neg h_4, if_neg h_5, if_neg h_6] <;> rfl))⟩, by rw [ht]; exact hP, va_K.moved hW.alike hK, hD⟩, hS.F ht⟩) hS.2.2 dX3_limit_54
          · refine lv_lload_n hx hb dX3_limit_37 rfl (lv_at hl 2 rfl) ?_
            refine lv_lconst (v := 0) hx hb dX3_limit_38 (by decide) ?_
            refine il_ge (tgt := 46) hx hb dX3_limit_39 dX3_limit_40 (by decide) (fun h_8 => ?_) (fun h_8 => ?_)
            · refine lv_aload_n hx hb dX3_limit_46 rfl (lv_at hl 0 rfl) ?_
              refine va_get (D := D) (ci := 4) (v := .ref (b 7)) (C := RX3) (T := TX3) (N := 20) hx hb hts iX3_limit_X3 hown hK hP 0 rfl rfl 8 (by decide) (hts (.fieldLink RX3 43 "CellRows2Model" "limits" "[J") (by decide +kernel)) (fun _ h9 => h9) rfl dX3_limit_47 ?_
              refine lv_iload_n hx hb dX3_limit_50 rfl (lv_at hl 1 rfl) ?_
              refine lv_lload_n hx hb dX3_limit_51 rfl (lv_at hl 2 rfl) ?_
              refine rs_l (f := (cm_lim M)) hx hb hK hP hD hS 7 6 rfl rfl j rfl (by omega) (Nat.le_of_ble_eq_true rfl) dX3_limit_52 (fun H9 locs9 hP hD hS => ?_)
              have hP : va_P D vwCl (wM cm b n (cm_set_lim (cm_set_th M 0) (va_up (cm_lim M) j v))) H9 := hP
              have hD : va_D A (wM cm b n (cm_set_lim (cm_set_th M 0) (va_up (cm_lim M) j v))) := hD
              refine lv_iconst (v := 1) hx hb dX3_limit_53 (by decide) ?_
              exact W.iret (v := 1) hx hb hr (fun t ht hW => ⟨⟨1, (cm_set_lim (cm_set_th M 0) (va_up (cm_lim M) j v)), rfl, ⟨(by first | rfl | (simp only [rmLim, gmLim, Option.elim_none, Option.map_none, if_neg h_2, if_neg h_3, e_ix, Option.elim_some, if_neg h_4, if_neg h_5, if_pos h_6, if_neg h_8] <;> rfl)), (by first | rfl | (simp only [rmLim, gmLim, Option.elim_none, Option.map_none, if_neg h_2, if_neg h_3, e_ix, Option.elim_some, if_neg h_4, if_neg h_5, if_pos h_6, if_neg h_8] <;> rfl))⟩, by rw [ht]; exact hP, va_K.moved hW.alike hK, hD⟩, hS.F ht⟩) hS.2.2 dX3_limit_54
            · refine lv_bipush (v := (-2)) hx hb dX3_limit_43 (by decide) ?_
              exact W.iret (v := (-2)) hx hb hr (fun t ht hW => ⟨⟨(-2), (cm_set_th M 0), rfl, ⟨(by first | rfl | (simp only [rmLim, gmLim, Option.elim_none, Option.map_none, if_neg h_2, if_neg h_3, e_ix, Option.elim_some, if_neg h_4, if_neg h_5, if_pos h_6, if_pos h_8] <;> rfl)), (by first | rfl | (simp only [rmLim, gmLim, Option.elim_none, Option.map_none, if_neg h_2, if_neg h_3, e_ix, Option.elim_some, if_neg h_4, if_neg h_5, if_pos h_6, if_pos h_8] <;> rfl))⟩, by rw [ht]; exact hP, va_K.moved hW.alike hK, hD⟩, hS.F ht⟩) hS.2.2 dX3_limit_45
    · refine lv_iconst (v := (-1)) hx hb dX3_limit_14 (by decide) ?_
      exact W.iret (v := (-1)) hx hb hr (fun t ht hW => ⟨⟨(-1), (cm_set_th M 0), rfl, ⟨(by first | rfl | (simp only [rmLim, gmLim, Option.elim_none, Option.map_none, if_neg h_2, if_pos h_3, ix_gt5 h_3] <;> rfl)), (by first | rfl | (simp only [rmLim, gmLim, Option.elim_none, Option.map_none, if_neg h_2, if_pos h_3, ix_gt5 h_3] <;> rfl))⟩, by rw [ht]; exact hP, va_K.moved hW.alike hK, hD⟩, hS.F ht⟩) hS.2.2 dX3_limit_15
set_option maxRecDepth 20000 in
theorem iX3_weakest_X3 : ∀ w ∈ wsX30, w ∈ wsX3_weakest := by decide +kernel
set_option maxHeartbeats 1000000 in
set_option maxRecDepth 100000 in
theorem kX3_weakest (l : Launch) (D : va_G) (cm : Nat → ClassId) (b : Nat → Nat) (n : Nat) (M : MS) (sz : Nat) (h1 : 1 ≤ n) (hn : n ≤ 24) : Met l yX3_weakest wsX3_weakest ({ frames := 0, cells := 0, slots := 0, locals := 0 }) (va_Pc [.ref (b 0)] (pM D cm b n M sz)) (va_Qi (fun r (u : MS) => r = nI (mWk (cm_ch M) (n - 1)) ∧ u = cm_set_th M 0) (eM D cm b n (va_A (wM cm b n M) sz)) (va_A (wM cm b n M) sz)) 0 0 (va_A (wM cm b n M) sz) := by
  refine Met.ofW (cc := cX3_weakest) (maxL := 3) (ret := (some .int)) (by decide) rfl ?_
  intro p e s m args below meth c s₁ B hml hv
  obtain ⟨rfl, hsz, hP, hK, hD0⟩ := hv
  have hx := B.exec
  have hb := B.bytes
  have hr := B.returns
  have hts := atoms_spec (ws := wsX3_weakest) B.pre
  have hown : s.vm.findClass RX3 = some m.cls := findClass_of_methodNamed B.named
  have hlocks := B.notSynchronized
  subst hsz
  have hD := hD0.self (sz := s.heap.size)
  generalize hAe : va_A (wM cm b n M) s.heap.size = A at hD ⊢
  have hA : ∀ q : Nat, s.heap.size ≤ q → A q := fun q h => by rw [← hAe]; exact Or.inr h
  have hS : va_S A s.heap s.heap [] := va_S.rf
  have hl := lv_entry ([.ref (b 0)]) (n := 3) (Nat.le_of_ble_eq_true rfl)
  rw [lg_entry_eq]
  generalize (lg_sl ([.ref (b 0)]) ++ List.replicate (3 - (lg_sl ([.ref (b 0)])).length) Slot.unset).toArray = ls at hl ⊢
  have hl : lv_has ls 3 [(0, .ref (b 0))] := hl
  refine lv_aload_n hx hb dX3_weakest_0 rfl (lv_at hl 0 rfl) ?_
  refine lv_iconst (v := 0) hx hb dX3_weakest_1 (by decide) ?_
  refine va_put (D := D) (ci := 4) (v := .int 0) (ty := .int) (C := RX3) (T := TX3) (N := 20) hx hb hts iX3_weakest_X3 tyX3 tyX3_ok nmX3 hown hK hP hD hS 0 rfl rfl 0 (by decide) (hts (.fieldLink RX3 73 "CellRows2Model" "thrown" "I") (by decide +kernel)) (fun _ h9 => h9) rfl (by decide +kernel) rfl rfl (Nat.le_of_ble_eq_true rfl) dX3_weakest_2 (fun H1 locs1 hP hD hS => ?_)
  have hP : va_P D vwCl (wM cm b n (cm_set_th M 0)) H1 := hP
  have hD : va_D A (wM cm b n (cm_set_th M 0)) := hD
  refine lv_iconst (v := 0) hx hb dX3_weakest_5 (by decide) ?_
  refine lv_istore_n (lv' := [(1, .int 0), (0, .ref (b 0))]) hx hb dX3_weakest_6 rfl hl (by decide) rfl (fun ls hl => ?_)
  refine lv_iconst (v := 1) hx hb dX3_weakest_7 (by decide) ?_
  refine lv_istore_n (lv' := [(2, .int 1), (1, .int 0), (0, .ref (b 0))]) hx hb dX3_weakest_8 rfl hl (by decide) rfl (fun ls hl => ?_)
  refine W.loop (α := Nat × Array Slot) (g := fun v9 => F0 m 9 v9.2 []) (fun k9 v9 => v9.1 + 1 + k9 = n ∧ lv_has v9.2 3 [(0, .ref (b 0)), (1, .int (nI (mWk (cm_ch M) v9.1))), (2, .int (nI (v9.1 + 1)))]) ?_ ?_ (n - 1) (0, ls) ⟨by omega, lv_sub hl [2, 1, 0] rfl⟩
  · rintro ⟨z, ls⟩ ⟨h9, hl⟩
    have h9 : z + 1 + 0 = n := h9
    have e9 : z = n - 1 := by omega
    have hl : lv_has ls 3 [(0, .ref (b 0)), (1, .int (nI (mWk (cm_ch M) z))), (2, .int (nI (z + 1)))] := hl
    rw [e9] at hl
    have hl : lv_has ls 3 [(0, .ref (b 0)), (1, .int (nI (mWk (cm_ch M) (n - 1)))), (2, .int (nI ((n - 1) + 1)))] := hl
    refine lv_iload_n hx hb dX3_weakest_9 rfl (lv_at hl 2 rfl) ?_
    refine lv_aload_n hx hb dX3_weakest_10 rfl (lv_at hl 0 rfl) ?_
    refine va_get (D := D) (ci := 4) (v := .int (nI n)) (C := RX3) (T := TX3) (N := 20) hx hb hts iX3_weakest_X3 hown hK hP 0 rfl rfl 1 (by decide) (hts (.fieldLink RX3 61 "CellRows2Model" "cells" "I") (by decide +kernel)) (fun _ h9 => h9) rfl dX3_weakest_11 ?_
    refine ib_ge (tgt := 45) hx hb dX3_weakest_14 (by decide) (fun h_3 => ?_) (fun h_3 => ?_)
    · refine lv_iload_n hx hb dX3_weakest_45 rfl (lv_at hl 1 rfl) ?_
      exact W.iret (v := nI (mWk (cm_ch M) (n - 1))) hx hb hr (fun t ht hW => ⟨⟨nI (mWk (cm_ch M) (n - 1)), (cm_set_th M 0), rfl, ⟨rfl, rfl⟩, by rw [ht]; exact hP, va_K.moved hW.alike hK, hD⟩, hS.F ht⟩) hS.2.2 dX3_weakest_46
    · exact absurd h_3 (nI_nlt (a := n - 1 + 1) (b := n) (by omega) (by omega))
  · rintro k9 ih ⟨z, ls⟩ ⟨h9, hl⟩
    have h9 : z + 1 + (k9 + 1) = n := h9
    have hw9 := mWk_le (cm_ch M) z
    have hl : lv_has ls 3 [(0, .ref (b 0)), (1, .int (nI (mWk (cm_ch M) z))), (2, .int (nI (z + 1)))] := hl
    refine lv_iload_n hx hb dX3_weakest_9 rfl (lv_at hl 2 rfl) ?_
    refine lv_aload_n hx hb dX3_weakest_10 rfl (lv_at hl 0 rfl) ?_
    refine va_get (D := D) (ci := 4) (v := .int (nI n)) (C := RX3) (T := TX3) (N := 20) hx hb hts iX3_weakest_X3 hown hK hP 0 rfl rfl 1 (by decide) (hts (.fieldLink RX3 61 "CellRows2Model" "cells" "I") (by decide +kernel)) (fun _ h9 => h9) rfl dX3_weakest_11 ?_
    refine ib_ge (tgt := 45) hx hb dX3_weakest_14 (by decide) (fun h_4 => ?_) (fun h_4 => ?_)
    · exact absurd (nI_lt (a := z + 1) (b := n) (by omega) (by omega)) h_4
    · refine lv_aload_n hx hb dX3_weakest_17 rfl (lv_at hl 0 rfl) ?_
      refine va_get (D := D) (ci := 4) (v := .ref (b 1)) (C := RX3) (T := TX3) (N := 20) hx hb hts iX3_weakest_X3 hown hK hP 0 rfl rfl 2 (by decide) (hts (.fieldLink RX3 7 "CellRows2Model" "charges" "[J") (by decide +kernel)) (fun _ h9 => h9) rfl dX3_weakest_18 ?_
      refine lv_iload_n hx hb dX3_weakest_21 rfl (lv_at hl 2 rfl) ?_
      refine ra_l (f := (cm_ch M)) hx hb hK hP 1 0 rfl rfl (z + 1) rfl (by omega) (Nat.le_of_ble_eq_true rfl) dX3_weakest_22 ?_
      refine lv_aload_n hx hb dX3_weakest_23 rfl (lv_at hl 0 rfl) ?_
      refine va_get (D := D) (ci := 4) (v := .ref (b 1)) (C := RX3) (T := TX3) (N := 20) hx hb hts iX3_weakest_X3 hown hK hP 0 rfl rfl 2 (by decide) (hts (.fieldLink RX3 7 "CellRows2Model" "charges" "[J") (by decide +kernel)) (fun _ h9 => h9) rfl dX3_weakest_24 ?_
      refine lv_iload_n hx hb dX3_weakest_27 rfl (lv_at hl 1 rfl) ?_
      refine ra_l (f := (cm_ch M)) hx hb hK hP 1 0 rfl rfl (mWk (cm_ch M) z) rfl (by omega) (Nat.le_of_ble_eq_true rfl) dX3_weakest_28 ?_
      refine W.join (P := fun v9 : Int32 => v9 = nI (mWk (cm_ch M) (z + 1))) (g := fun v9 => F0 m 38 ls [.int v9]) (fun v5 hv5 => ?_) (fun J5 => ?_)
      · subst hv5
        refine lv_istore_n (lv' := [(1, .int (nI (mWk (cm_ch M) (z + 1)))), (0, .ref (b 0)), (2, .int (nI (z + 1)))]) hx hb dX3_weakest_38 rfl hl (by decide) rfl (fun ls hl => ?_)
        refine lv_iinc (v := nI (z + 1 + 1)) (lv' := [(2, .int (nI (z + 1 + 1))), (1, .int (nI (mWk (cm_ch M) (z + 1)))), (0, .ref (b 0))]) hx hb dX3_weakest_39 hl (k := 2) rfl (nI_1 (z + 1)) (by decide) rfl (fun ls hl => ?_)
        refine lv_goto (tgt := 9) hx hb dX3_weakest_42 (by decide) ?_
        exact ih ((z + 1), ls) ⟨by show z + 1 + 1 + k9 = n; omega, lv_sub hl [2, 1, 0] rfl⟩
      · refine il_ge (tgt := 37) hx hb dX3_weakest_29 dX3_weakest_30 (by decide) (fun h_6 => ?_) (fun h_6 => ?_)
        · refine lv_iload_n hx hb dX3_weakest_37 rfl (lv_at hl 1 rfl) ?_
          exact J5 _ (by simp only [mWk, if_neg h_6])
        · refine lv_iload_n hx hb dX3_weakest_33 rfl (lv_at hl 2 rfl) ?_
          refine lv_goto (tgt := 38) hx hb dX3_weakest_34 (by decide) ?_
          exact J5 _ (by simp only [mWk, if_pos h_6])
set_option maxRecDepth 20000 in
theorem iX3_insulate_X3 : ∀ w ∈ wsX30, w ∈ wsX3_insulate := by decide +kernel
set_option maxHeartbeats 1000000 in
set_option maxRecDepth 100000 in
theorem kX3_insulate (l : Launch) (D : va_G) (cm : Nat → ClassId) (b : Nat → Nat) (n : Nat) (M : MS) (sz : Nat) (v : Int64) (hf : cm_fc M < 2048) : Met l yX3_insulate wsX3_insulate ({ frames := 1, cells := 0, slots := 0, locals := 21 }) (va_Pc [.ref (b 0), .long v] (pM D cm b n M sz)) (va_Qi (fun r (u : MS) => r = rIns v ∧ u = cm_set_th (gmIns M v) 0) (eM D cm b n (va_A (wM cm b n M) sz)) (va_A (wM cm b n M) sz)) 0 0 (va_A (wM cm b n M) sz) := by
  refine Met.ofW (cc := cX3_insulate) (maxL := 3) (ret := (some .int)) (by decide) rfl ?_
  intro p e s m args below meth c s₁ B hml hv
  obtain ⟨rfl, hsz, hP, hK, hD0⟩ := hv
  have hx := B.exec
  have hb := B.bytes
  have hr := B.returns
  have hts := atoms_spec (ws := wsX3_insulate) B.pre
  have hown : s.vm.findClass RX3 = some m.cls := findClass_of_methodNamed B.named
  have hlocks := B.notSynchronized
  subst hsz
  have hD := hD0.self (sz := s.heap.size)
  generalize hAe : va_A (wM cm b n M) s.heap.size = A at hD ⊢
  have hA : ∀ q : Nat, s.heap.size ≤ q → A q := fun q h => by rw [← hAe]; exact Or.inr h
  have hS : va_S A s.heap s.heap [] := va_S.rf
  have hl := lv_entry ([.ref (b 0), .long v]) (n := 3) (Nat.le_of_ble_eq_true rfl)
  rw [lg_entry_eq]
  generalize (lg_sl ([.ref (b 0), .long v]) ++ List.replicate (3 - (lg_sl ([.ref (b 0), .long v])).length) Slot.unset).toArray = ls at hl ⊢
  have hl : lv_has ls 3 [(0, .ref (b 0)), (1, .long v)] := hl
  refine lv_aload_n hx hb dX3_insulate_0 rfl (lv_at hl 0 rfl) ?_
  refine lv_iconst (v := 0) hx hb dX3_insulate_1 (by decide) ?_
  refine va_put (D := D) (ci := 4) (v := .int 0) (ty := .int) (C := RX3) (T := TX3) (N := 20) hx hb hts iX3_insulate_X3 tyX3 tyX3_ok nmX3 hown hK hP hD hS 0 rfl rfl 0 (by decide) (hts (.fieldLink RX3 73 "CellRows2Model" "thrown" "I") (by decide +kernel)) (fun _ h9 => h9) rfl (by decide +kernel) rfl rfl (Nat.le_of_ble_eq_true rfl) dX3_insulate_2 (fun H1 locs1 hP hD hS => ?_)
  have hP : va_P D vwCl (wM cm b n (cm_set_th M 0)) H1 := hP
  have hD : va_D A (wM cm b n (cm_set_th M 0)) := hD
  refine lv_lload_n hx hb dX3_insulate_5 rfl (lv_at hl 1 rfl) ?_
  refine lv_lconst (v := 0) hx hb dX3_insulate_6 (by decide) ?_
  refine il_ge (tgt := 14) hx hb dX3_insulate_7 dX3_insulate_8 (by decide) (fun h_2 => ?_) (fun h_2 => ?_)
  · refine lv_lload_n hx hb dX3_insulate_14 rfl (lv_at hl 1 rfl) ?_
    refine lv_ldc2 hx hb hown (hts (.constantLong RX3 142 (100)) (by decide +kernel)) dX3_insulate_15 ?_
    refine il_ge (tgt := 29) hx hb dX3_insulate_18 dX3_insulate_19 (by decide) (fun h_3 => ?_) (fun h_3 => ?_)
    · refine lv_iconst (v := 1) hx hb dX3_insulate_29 (by decide) ?_
      exact W.iret (v := 1) hx hb hr (fun t ht hW => ⟨⟨1, (cm_set_th M 0), rfl, ⟨(by first | rfl | (simp only [rIns, gmIns, if_neg h_2, if_neg h_3] <;> rfl)), (by first | rfl | (simp only [rIns, gmIns, if_neg h_2, if_neg h_3] <;> rfl))⟩, by rw [ht]; exact hP, va_K.moved hW.alike hK, hD⟩, hS.F ht⟩) hS.2.2 dX3_insulate_30
    · refine lv_aload_n hx hb dX3_insulate_22 rfl (lv_at hl 0 rfl) ?_
      refine lv_iconst (v := 5) hx hb dX3_insulate_23 (by decide) ?_
      have hSo := hS
      refine va_callv (va_runV (As := [.int 5]) (rest := []) ⟨hx, hb, hml, hown, hts⟩ (kX3_fails l D cm b n (cm_set_th M 0) H1.size 5 (by first | assumption | omega)) (cwV 1 hts gX3_insulate_X3_fails rfl rfl rfl (by decide +kernel) ⟨Nat.le_of_ble_eq_true rfl, Nat.le_of_ble_eq_true rfl⟩) ⟨pM_blind, va_recv hK hP (ci := 4) (q0 := 0) rfl rfl, fun U hU hW => ⟨rfl, pM_mk hP hK hD hU hW⟩⟩ rfl rfl hl.1 rfl (lv_room (Nat.le_of_ble_eq_true rfl)) dX3_insulate_24 ⟨Nat.le_of_ble_eq_true rfl, Nat.le_of_ble_eq_true rfl⟩) hS (fun q _ h => freeAll hD hS hA q h) (freeAll hD hS hA) (fun u4 t4 H4 locs4 ht hvm hw hB hz1 hk1 hS => ?_)
      obtain ⟨hP1, hK1, hD1⟩ := hB
      rw [ht] at hP1
      have hK := va_K.moved hvm.symm hK1
      obtain rfl : u4 = mNote (cm_set_th M 0) 5 := hw
      have hD := hD1.weaken (fun _ q _ h => freeAll hD hSo hA q.1 h)
      have hP := hP1
      refine lv_iconst (v := 0) hx hb dX3_insulate_27 (by decide) ?_
      exact W.iret (v := 0) hx hb hr (fun t ht hW => ⟨⟨0, mNote (cm_set_th M 0) 5, rfl, ⟨(by first | rfl | (simp only [rIns, gmIns, if_neg h_2, if_pos h_3] <;> rfl)), (by first | rfl | (simp only [rIns, gmIns, if_neg h_2, if_pos h_3] <;> rfl))⟩, by rw [ht]; exact hP, va_K.moved hW.alike hK, hD⟩, hS.F ht⟩) hS.2.2 dX3_insulate_28
  · refine lv_bipush (v := (-2)) hx hb dX3_insulate_11 (by decide) ?_
    exact W.iret (v := (-2)) hx hb hr (fun t ht hW => ⟨⟨(-2), (cm_set_th M 0), rfl, ⟨(by first | rfl | (simp only [rIns, gmIns, if_pos h_2] <;> rfl)), (by first | rfl | (simp only [rIns, gmIns, if_pos h_2] <;> rfl))⟩, by rw [ht]; exact hP, va_K.moved hW.alike hK, hD⟩, hS.F ht⟩) hS.2.2 dX3_insulate_13
set_option maxRecDepth 20000 in
theorem iX3_stuck_X3 : ∀ w ∈ wsX30, w ∈ wsX3_stuck := by decide +kernel
set_option maxHeartbeats 1000000 in
set_option maxRecDepth 100000 in
theorem kX3_stuck (l : Launch) (D : va_G) (cm : Nat → ClassId) (b : Nat → Nat) (n : Nat) (M : MS) (sz : Nat) (p0 : Int32) : Met l yX3_stuck wsX3_stuck ({ frames := 0, cells := 0, slots := 0, locals := 0 }) (va_Pc [.ref (b 0), .int p0] (pM D cm b n M sz)) (va_Qi (fun r (u : MS) => r = rmStu M p0 ∧ u = cm_set_th (gmStu M p0) 0) (eM D cm b n (va_A (wM cm b n M) sz)) (va_A (wM cm b n M) sz)) 0 0 (va_A (wM cm b n M) sz) := by
  refine Met.ofW (cc := cX3_stuck) (maxL := 2) (ret := (some .int)) (by decide) rfl ?_
  intro p e s m args below meth c s₁ B hml hv
  obtain ⟨rfl, hsz, hP, hK, hD0⟩ := hv
  have hx := B.exec
  have hb := B.bytes
  have hr := B.returns
  have hts := atoms_spec (ws := wsX3_stuck) B.pre
  have hown : s.vm.findClass RX3 = some m.cls := findClass_of_methodNamed B.named
  have hlocks := B.notSynchronized
  subst hsz
  have hD := hD0.self (sz := s.heap.size)
  generalize hAe : va_A (wM cm b n M) s.heap.size = A at hD ⊢
  have hA : ∀ q : Nat, s.heap.size ≤ q → A q := fun q h => by rw [← hAe]; exact Or.inr h
  have hS : va_S A s.heap s.heap [] := va_S.rf
  have hl := lv_entry ([.ref (b 0), .int p0]) (n := 2) (Nat.le_of_ble_eq_true rfl)
  rw [lg_entry_eq]
  generalize (lg_sl ([.ref (b 0), .int p0]) ++ List.replicate (2 - (lg_sl ([.ref (b 0), .int p0])).length) Slot.unset).toArray = ls at hl ⊢
  have hl : lv_has ls 2 [(0, .ref (b 0)), (1, .int p0)] := hl
  refine lv_aload_n hx hb dX3_stuck_0 rfl (lv_at hl 0 rfl) ?_
  refine lv_iconst (v := 0) hx hb dX3_stuck_1 (by decide) ?_
  refine va_put (D := D) (ci := 4) (v := .int 0) (ty := .int) (C := RX3) (T := TX3) (N := 20) hx hb hts iX3_stuck_X3 tyX3 tyX3_ok nmX3 hown hK hP hD hS 0 rfl rfl 0 (by decide) (hts (.fieldLink RX3 73 "CellRows2Model" "thrown" "I") (by decide +kernel)) (fun _ h9 => h9) rfl (by decide +kernel) rfl rfl (Nat.le_of_ble_eq_true rfl) dX3_stuck_2 (fun H1 locs1 hP hD hS => ?_)
  have hP : va_P D vwCl (wM cm b n (cm_set_th M 0)) H1 := hP
  have hD : va_D A (wM cm b n (cm_set_th M 0)) := hD
  refine lv_iload_n hx hb dX3_stuck_5 rfl (lv_at hl 1 rfl) ?_
  refine iz_lt (tgt := 14) hx hb dX3_stuck_6 (by decide) (fun h_2 => ?_) (fun h_2 => ?_)
  · refine lv_iconst (v := (-1)) hx hb dX3_stuck_14 (by decide) ?_
    exact W.iret (v := (-1)) hx hb hr (fun t ht hW => ⟨⟨(-1), (cm_set_th M 0), rfl, ⟨(by first | rfl | (simp only [rmStu, gmStu, Option.elim_none, Option.map_none, if_pos h_2, ix_neg h_2] <;> rfl)), (by first | rfl | (simp only [rmStu, gmStu, Option.elim_none, Option.map_none, if_pos h_2, ix_neg h_2] <;> rfl))⟩, by rw [ht]; exact hP, va_K.moved hW.alike hK, hD⟩, hS.F ht⟩) hS.2.2 dX3_stuck_15
  · refine lv_iload_n hx hb dX3_stuck_9 rfl (lv_at hl 1 rfl) ?_
    refine lv_iconst (v := 2) hx hb dX3_stuck_10 (by decide) ?_
    refine ib_le (tgt := 16) hx hb dX3_stuck_11 (by decide) (fun h_3 => ?_) (fun h_3 => ?_)
    · obtain ⟨j, hj, rfl⟩ := ix_of (n := 3) (by omega) h_2 (ix_le2 h_3)
      have e_ix := ix_at (n := 3) (by omega) hj
      refine lv_aload_n hx hb dX3_stuck_16 rfl (lv_at hl 0 rfl) ?_
      refine va_get (D := D) (ci := 4) (v := .ref (b 8)) (C := RX3) (T := TX3) (N := 20) hx hb hts iX3_stuck_X3 hown hK hP 0 rfl rfl 12 (by decide) (hts (.fieldLink RX3 46 "CellRows2Model" "stucks" "[Z") (by decide +kernel)) (fun _ h9 => h9) rfl dX3_stuck_17 ?_
      refine lv_iload_n hx hb dX3_stuck_20 rfl (lv_at hl 1 rfl) ?_
      refine lv_aload_n hx hb dX3_stuck_21 rfl (lv_at hl 0 rfl) ?_
      refine va_get (D := D) (ci := 4) (v := .ref (b 8)) (C := RX3) (T := TX3) (N := 20) hx hb hts iX3_stuck_X3 hown hK hP 0 rfl rfl 12 (by decide) (hts (.fieldLink RX3 46 "CellRows2Model" "stucks" "[Z") (by decide +kernel)) (fun _ h9 => h9) rfl dX3_stuck_22 ?_
      refine lv_iload_n hx hb dX3_stuck_25 rfl (lv_at hl 1 rfl) ?_
      refine ra_z (f := (cm_stk M)) hx hb hK hP 8 7 rfl rfl j rfl (by omega) (Nat.le_of_ble_eq_true rfl) dX3_stuck_26 ?_
      refine W.join (P := fun v9 : Int32 => v9 = if (cm_stk M) j = 0 then 1 else 0) (g := fun v9 => F0 m 35 ls [.int v9, .int (nI j), .ref (b 8)]) (fun v4 hv4 => ?_) (fun J4 => ?_)
      · subst hv4
        refine rs_z (f := (cm_stk M)) hx hb hK hP hD hS 8 7 rfl rfl i01 j rfl (by omega) (Nat.le_of_ble_eq_true rfl) dX3_stuck_35 (fun H6 locs6 hP hD hS => ?_)
        have hP : va_P D vwCl (wM cm b n (cm_set_stk (cm_set_th M 0) (va_up (cm_stk M) j (if (cm_stk M) j = 0 then 1 else 0)))) H6 := hP
        have hD : va_D A (wM cm b n (cm_set_stk (cm_set_th M 0) (va_up (cm_stk M) j (if (cm_stk M) j = 0 then 1 else 0)))) := hD
        refine lv_aload_n hx hb dX3_stuck_36 rfl (lv_at hl 0 rfl) ?_
        refine va_get (D := D) (ci := 4) (v := .ref (b 8)) (C := RX3) (T := TX3) (N := 20) hx hb hts iX3_stuck_X3 hown hK hP 0 rfl rfl 12 (by decide) (hts (.fieldLink RX3 46 "CellRows2Model" "stucks" "[Z") (by decide +kernel)) (fun _ h9 => h9) rfl dX3_stuck_37 ?_
        refine lv_iload_n hx hb dX3_stuck_40 rfl (lv_at hl 1 rfl) ?_
        refine ra_z (f := (va_up (cm_stk M) j (if (cm_stk M) j = 0 then 1 else 0))) hx hb hK hP 8 7 rfl rfl j rfl (by omega) (Nat.le_of_ble_eq_true rfl) dX3_stuck_41 ?_
        refine iz_eq (tgt := 49) hx hb dX3_stuck_42 (by decide) (fun h_7 => ?_) (fun h_7 => ?_)
        · refine lv_iconst (v := 0) hx hb dX3_stuck_49 (by decide) ?_
          exact W.iret (v := 0) hx hb hr (fun t ht hW => ⟨⟨0, (cm_set_stk (cm_set_th M 0) (va_up (cm_stk M) j (if (cm_stk M) j = 0 then 1 else 0))), rfl, ⟨(by first | rfl | (simp only [rmStu, gmStu, Option.elim_none, Option.map_none, if_neg h_2, if_neg h_3, e_ix, Option.elim_some, if_pos h_7] <;> rfl)), (by first | rfl | (simp only [rmStu, gmStu, Option.elim_none, Option.map_none, if_neg h_2, if_neg h_3, e_ix, Option.elim_some, if_pos h_7] <;> rfl))⟩, by rw [ht]; exact hP, va_K.moved hW.alike hK, hD⟩, hS.F ht⟩) hS.2.2 dX3_stuck_50
        · refine lv_iconst (v := 1) hx hb dX3_stuck_45 (by decide) ?_
          refine lv_goto (tgt := 50) hx hb dX3_stuck_46 (by decide) ?_
          exact W.iret (v := 1) hx hb hr (fun t ht hW => ⟨⟨1, (cm_set_stk (cm_set_th M 0) (va_up (cm_stk M) j (if (cm_stk M) j = 0 then 1 else 0))), rfl, ⟨(by first | rfl | (simp only [rmStu, gmStu, Option.elim_none, Option.map_none, if_neg h_2, if_neg h_3, e_ix, Option.elim_some, if_neg h_7] <;> rfl)), (by first | rfl | (simp only [rmStu, gmStu, Option.elim_none, Option.map_none, if_neg h_2, if_neg h_3, e_ix, Option.elim_some, if_neg h_7] <;> rfl))⟩, by rw [ht]; exact hP, va_K.moved hW.alike hK, hD⟩, hS.F ht⟩) hS.2.2 dX3_stuck_50
      · refine iz_ne (tgt := 34) hx hb dX3_stuck_27 (by decide) (fun h_5 => ?_) (fun h_5 => ?_)
        · refine lv_iconst (v := 0) hx hb dX3_stuck_34 (by decide) ?_
          exact J4 _ (by simp only [if_neg h_5])
        · refine lv_iconst (v := 1) hx hb dX3_stuck_30 (by decide) ?_
          refine lv_goto (tgt := 35) hx hb dX3_stuck_31 (by decide) ?_
          exact J4 _ (by simp only [if_pos h_5])
    · refine lv_iconst (v := (-1)) hx hb dX3_stuck_14 (by decide) ?_
      exact W.iret (v := (-1)) hx hb hr (fun t ht hW => ⟨⟨(-1), (cm_set_th M 0), rfl, ⟨(by first | rfl | (simp only [rmStu, gmStu, Option.elim_none, Option.map_none, if_neg h_2, if_pos h_3, ix_gt2 h_3] <;> rfl)), (by first | rfl | (simp only [rmStu, gmStu, Option.elim_none, Option.map_none, if_neg h_2, if_pos h_3, ix_gt2 h_3] <;> rfl))⟩, by rw [ht]; exact hP, va_K.moved hW.alike hK, hD⟩, hS.F ht⟩) hS.2.2 dX3_stuck_15
set_option maxRecDepth 20000 in
theorem iX3_cycle_X3 : ∀ w ∈ wsX30, w ∈ wsX3_cycle := by decide +kernel
set_option maxHeartbeats 1000000 in
set_option maxRecDepth 100000 in
theorem kX3_cycle (l : Launch) (D : va_G) (cm : Nat → ClassId) (b : Nat → Nat) (n : Nat) (M : MS) (sz : Nat) (p0 p1 : Int32) (hc : cm_cyc M ≤ 1024) : Met l yX3_cycle wsX3_cycle ({ frames := 0, cells := 0, slots := 0, locals := 0 }) (va_Pc [.ref (b 0), .int p0, .int p1] (pM D cm b n M sz)) (va_Qi (fun r (u : MS) => r = rmCyc M p0 p1 ∧ u = cm_set_th M 0) (eM D cm b n (va_A (wM cm b n M) sz)) (va_A (wM cm b n M) sz)) 0 0 (va_A (wM cm b n M) sz) := by
  refine Met.ofW (cc := cX3_cycle) (maxL := 3) (ret := (some .int)) (by decide) rfl ?_
  intro p e s m args below meth c s₁ B hml hv
  obtain ⟨rfl, hsz, hP, hK, hD0⟩ := hv
  have hx := B.exec
  have hb := B.bytes
  have hr := B.returns
  have hts := atoms_spec (ws := wsX3_cycle) B.pre
  have hown : s.vm.findClass RX3 = some m.cls := findClass_of_methodNamed B.named
  have hlocks := B.notSynchronized
  subst hsz
  have hD := hD0.self (sz := s.heap.size)
  generalize hAe : va_A (wM cm b n M) s.heap.size = A at hD ⊢
  have hA : ∀ q : Nat, s.heap.size ≤ q → A q := fun q h => by rw [← hAe]; exact Or.inr h
  have hS : va_S A s.heap s.heap [] := va_S.rf
  have hl := lv_entry ([.ref (b 0), .int p0, .int p1]) (n := 3) (Nat.le_of_ble_eq_true rfl)
  rw [lg_entry_eq]
  generalize (lg_sl ([.ref (b 0), .int p0, .int p1]) ++ List.replicate (3 - (lg_sl ([.ref (b 0), .int p0, .int p1])).length) Slot.unset).toArray = ls at hl ⊢
  have hl : lv_has ls 3 [(0, .ref (b 0)), (1, .int p0), (2, .int p1)] := hl
  refine lv_aload_n hx hb dX3_cycle_0 rfl (lv_at hl 0 rfl) ?_
  refine lv_iconst (v := 0) hx hb dX3_cycle_1 (by decide) ?_
  refine va_put (D := D) (ci := 4) (v := .int 0) (ty := .int) (C := RX3) (T := TX3) (N := 20) hx hb hts iX3_cycle_X3 tyX3 tyX3_ok nmX3 hown hK hP hD hS 0 rfl rfl 0 (by decide) (hts (.fieldLink RX3 73 "CellRows2Model" "thrown" "I") (by decide +kernel)) (fun _ h9 => h9) rfl (by decide +kernel) rfl rfl (Nat.le_of_ble_eq_true rfl) dX3_cycle_2 (fun H1 locs1 hP hD hS => ?_)
  have hP : va_P D vwCl (wM cm b n (cm_set_th M 0)) H1 := hP
  have hD : va_D A (wM cm b n (cm_set_th M 0)) := hD
  refine lv_iload_n hx hb dX3_cycle_5 rfl (lv_at hl 1 rfl) ?_
  refine lv_iconst (v := (-1)) hx hb dX3_cycle_6 (by decide) ?_
  refine ib_ne (tgt := 19) hx hb dX3_cycle_7 (by decide) (fun h_2 => ?_) (fun h_2 => ?_)
  · refine lv_iload_n hx hb dX3_cycle_19 rfl (lv_at hl 1 rfl) ?_
    refine iz_lt (tgt := 31) hx hb dX3_cycle_20 (by decide) (fun h_3 => ?_) (fun h_3 => ?_)
    · refine lv_iconst (v := (-1)) hx hb dX3_cycle_31 (by decide) ?_
      exact W.iret (v := (-1)) hx hb hr (fun t ht hW => ⟨⟨(-1), (cm_set_th M 0), rfl, ⟨(by first | rfl | (simp only [rmCyc, rmCyc2, Option.elim_none, Option.map_none, if_neg h_2, if_pos h_3, ix_neg h_3] <;> rfl)), (by first | rfl | (simp only [rmCyc, rmCyc2, Option.elim_none, Option.map_none, if_neg h_2, if_pos h_3, ix_neg h_3] <;> rfl))⟩, by rw [ht]; exact hP, va_K.moved hW.alike hK, hD⟩, hS.F ht⟩) hS.2.2 dX3_cycle_32
    · refine lv_iload_n hx hb dX3_cycle_23 rfl (lv_at hl 1 rfl) ?_
      refine lv_aload_n hx hb dX3_cycle_24 rfl (lv_at hl 0 rfl) ?_
      refine va_get (D := D) (ci := 4) (v := .int (nI (cm_cyc M))) (C := RX3) (T := TX3) (N := 20) hx hb hts iX3_cycle_X3 hown hK hP 0 rfl rfl 19 (by decide) (hts (.fieldLink RX3 93 "CellRows2Model" "cycles" "I") (by decide +kernel)) (fun _ h9 => h9) rfl dX3_cycle_25 ?_
      refine ib_lt (tgt := 33) hx hb dX3_cycle_28 (by decide) (fun h_4 => ?_) (fun h_4 => ?_)
      · obtain ⟨j, hj, rfl⟩ := ix_of (n := cm_cyc M) (by omega) h_3 h_4
        have e_ix := ix_at (n := cm_cyc M) (by omega) hj
        refine lv_iload_n hx hb dX3_cycle_33 rfl (lv_at hl 2 rfl) ?_
        refine iz_ne (tgt := 46) hx hb dX3_cycle_34 (by decide) (fun h_5 => ?_) (fun h_5 => ?_)
        · refine lv_iload_n hx hb dX3_cycle_46 rfl (lv_at hl 2 rfl) ?_
          refine lv_iconst (v := 1) hx hb dX3_cycle_47 (by decide) ?_
          refine ib_ne (tgt := 60) hx hb dX3_cycle_48 (by decide) (fun h_6 => ?_) (fun h_6 => ?_)
          · refine lv_bipush (v := (-2)) hx hb dX3_cycle_60 (by decide) ?_
            exact W.iret (v := (-2)) hx hb hr (fun t ht hW => ⟨⟨(-2), (cm_set_th M 0), rfl, ⟨(by first | rfl | (simp only [rmCyc, rmCyc2, Option.elim_none, Option.map_none, if_neg h_2, if_neg h_3, if_pos h_4, e_ix, Option.elim_some, Option.map_some, if_neg h_5, if_neg h_6] <;> rfl)), (by first | rfl | (simp only [rmCyc, rmCyc2, Option.elim_none, Option.map_none, if_neg h_2, if_neg h_3, if_pos h_4, e_ix, Option.elim_some, Option.map_some, if_neg h_5, if_neg h_6] <;> rfl))⟩, by rw [ht]; exact hP, va_K.moved hW.alike hK, hD⟩, hS.F ht⟩) hS.2.2 dX3_cycle_62
          · refine lv_aload_n hx hb dX3_cycle_51 rfl (lv_at hl 0 rfl) ?_
            refine va_get (D := D) (ci := 4) (v := .ref (b 12)) (C := RX3) (T := TX3) (N := 20) hx hb hts iX3_cycle_X3 hown hK hP 0 rfl rfl 18 (by decide) (hts (.fieldLink RX3 58 "CellRows2Model" "lows" "[I") (by decide +kernel)) (fun _ h9 => h9) rfl dX3_cycle_52 ?_
            refine lv_iload_n hx hb dX3_cycle_55 rfl (lv_at hl 1 rfl) ?_
            refine ra_i (f := (cm_low M)) hx hb hK hP 12 11 rfl rfl j rfl (by omega) (Nat.le_of_ble_eq_true rfl) dX3_cycle_56 ?_
            refine lv_goto (tgt := 62) hx hb dX3_cycle_57 (by decide) ?_
            exact W.iret (v := (cm_low M) j) hx hb hr (fun t ht hW => ⟨⟨(cm_low M) j, (cm_set_th M 0), rfl, ⟨(by first | rfl | (simp only [rmCyc, rmCyc2, Option.elim_none, Option.map_none, if_neg h_2, if_neg h_3, if_pos h_4, e_ix, Option.elim_some, Option.map_some, if_neg h_5, if_pos h_6] <;> rfl)), (by first | rfl | (simp only [rmCyc, rmCyc2, Option.elim_none, Option.map_none, if_neg h_2, if_neg h_3, if_pos h_4, e_ix, Option.elim_some, Option.map_some, if_neg h_5, if_pos h_6] <;> rfl))⟩, by rw [ht]; exact hP, va_K.moved hW.alike hK, hD⟩, hS.F ht⟩) hS.2.2 dX3_cycle_62
        · refine lv_aload_n hx hb dX3_cycle_37 rfl (lv_at hl 0 rfl) ?_
          refine va_get (D := D) (ci := 4) (v := .ref (b 11)) (C := RX3) (T := TX3) (N := 20) hx hb hts iX3_cycle_X3 hown hK hP 0 rfl rfl 17 (by decide) (hts (.fieldLink RX3 55 "CellRows2Model" "ranges" "[I") (by decide +kernel)) (fun _ h9 => h9) rfl dX3_cycle_38 ?_
          refine lv_iload_n hx hb dX3_cycle_41 rfl (lv_at hl 1 rfl) ?_
          refine ra_i (f := (cm_rng M)) hx hb hK hP 11 10 rfl rfl j rfl (by omega) (Nat.le_of_ble_eq_true rfl) dX3_cycle_42 ?_
          refine lv_goto (tgt := 62) hx hb dX3_cycle_43 (by decide) ?_
          exact W.iret (v := (cm_rng M) j) hx hb hr (fun t ht hW => ⟨⟨(cm_rng M) j, (cm_set_th M 0), rfl, ⟨(by first | rfl | (simp only [rmCyc, rmCyc2, Option.elim_none, Option.map_none, if_neg h_2, if_neg h_3, if_pos h_4, e_ix, Option.elim_some, Option.map_some, if_pos h_5] <;> rfl)), (by first | rfl | (simp only [rmCyc, rmCyc2, Option.elim_none, Option.map_none, if_neg h_2, if_neg h_3, if_pos h_4, e_ix, Option.elim_some, Option.map_some, if_pos h_5] <;> rfl))⟩, by rw [ht]; exact hP, va_K.moved hW.alike hK, hD⟩, hS.F ht⟩) hS.2.2 dX3_cycle_62
      · refine lv_iconst (v := (-1)) hx hb dX3_cycle_31 (by decide) ?_
        exact W.iret (v := (-1)) hx hb hr (fun t ht hW => ⟨⟨(-1), (cm_set_th M 0), rfl, ⟨(by first | rfl | (simp only [rmCyc, rmCyc2, Option.elim_none, Option.map_none, if_neg h_2, if_neg h_3, if_neg h_4, ix_big h_4] <;> rfl)), (by first | rfl | (simp only [rmCyc, rmCyc2, Option.elim_none, Option.map_none, if_neg h_2, if_neg h_3, if_neg h_4, ix_big h_4] <;> rfl))⟩, by rw [ht]; exact hP, va_K.moved hW.alike hK, hD⟩, hS.F ht⟩) hS.2.2 dX3_cycle_32
  · refine lv_iload_n hx hb dX3_cycle_10 rfl (lv_at hl 2 rfl) ?_
    refine iz_ne (tgt := 19) hx hb dX3_cycle_11 (by decide) (fun h_7 => ?_) (fun h_7 => ?_)
    · refine lv_iload_n hx hb dX3_cycle_19 rfl (lv_at hl 1 rfl) ?_
      refine iz_lt (tgt := 31) hx hb dX3_cycle_20 (by decide) (fun h_8 => ?_) (fun h_8 => ?_)
      · refine lv_iconst (v := (-1)) hx hb dX3_cycle_31 (by decide) ?_
        exact W.iret (v := (-1)) hx hb hr (fun t ht hW => ⟨⟨(-1), (cm_set_th M 0), rfl, ⟨(by first | rfl | (simp only [rmCyc, rmCyc2, Option.elim_none, Option.map_none, if_pos h_2, if_neg h_7, if_pos h_8, ix_neg h_8] <;> rfl)), (by first | rfl | (simp only [rmCyc, rmCyc2, Option.elim_none, Option.map_none, if_pos h_2, if_neg h_7, if_pos h_8, ix_neg h_8] <;> rfl))⟩, by rw [ht]; exact hP, va_K.moved hW.alike hK, hD⟩, hS.F ht⟩) hS.2.2 dX3_cycle_32
      · refine lv_iload_n hx hb dX3_cycle_23 rfl (lv_at hl 1 rfl) ?_
        refine lv_aload_n hx hb dX3_cycle_24 rfl (lv_at hl 0 rfl) ?_
        refine va_get (D := D) (ci := 4) (v := .int (nI (cm_cyc M))) (C := RX3) (T := TX3) (N := 20) hx hb hts iX3_cycle_X3 hown hK hP 0 rfl rfl 19 (by decide) (hts (.fieldLink RX3 93 "CellRows2Model" "cycles" "I") (by decide +kernel)) (fun _ h9 => h9) rfl dX3_cycle_25 ?_
        refine ib_lt (tgt := 33) hx hb dX3_cycle_28 (by decide) (fun h_9 => ?_) (fun h_9 => ?_)
        · obtain ⟨j, hj, rfl⟩ := ix_of (n := cm_cyc M) (by omega) h_8 h_9
          have e_ix := ix_at (n := cm_cyc M) (by omega) hj
          refine lv_iload_n hx hb dX3_cycle_33 rfl (lv_at hl 2 rfl) ?_
          refine iz_ne (tgt := 46) hx hb dX3_cycle_34 (by decide) (fun h_10 => ?_) (fun h_10 => ?_)
          · refine lv_iload_n hx hb dX3_cycle_46 rfl (lv_at hl 2 rfl) ?_
            refine lv_iconst (v := 1) hx hb dX3_cycle_47 (by decide) ?_
            refine ib_ne (tgt := 60) hx hb dX3_cycle_48 (by decide) (fun h_11 => ?_) (fun h_11 => ?_)
            · refine lv_bipush (v := (-2)) hx hb dX3_cycle_60 (by decide) ?_
              exact W.iret (v := (-2)) hx hb hr (fun t ht hW => ⟨⟨(-2), (cm_set_th M 0), rfl, ⟨(by first | rfl | (simp only [rmCyc, rmCyc2, Option.elim_none, Option.map_none, if_pos h_2, if_neg h_7, if_neg h_8, if_pos h_9, e_ix, Option.elim_some, Option.map_some, if_neg h_10, if_neg h_11] <;> rfl)), (by first | rfl | (simp only [rmCyc, rmCyc2, Option.elim_none, Option.map_none, if_pos h_2, if_neg h_7, if_neg h_8, if_pos h_9, e_ix, Option.elim_some, Option.map_some, if_neg h_10, if_neg h_11] <;> rfl))⟩, by rw [ht]; exact hP, va_K.moved hW.alike hK, hD⟩, hS.F ht⟩) hS.2.2 dX3_cycle_62
            · refine lv_aload_n hx hb dX3_cycle_51 rfl (lv_at hl 0 rfl) ?_
              refine va_get (D := D) (ci := 4) (v := .ref (b 12)) (C := RX3) (T := TX3) (N := 20) hx hb hts iX3_cycle_X3 hown hK hP 0 rfl rfl 18 (by decide) (hts (.fieldLink RX3 58 "CellRows2Model" "lows" "[I") (by decide +kernel)) (fun _ h9 => h9) rfl dX3_cycle_52 ?_
              refine lv_iload_n hx hb dX3_cycle_55 rfl (lv_at hl 1 rfl) ?_
              refine ra_i (f := (cm_low M)) hx hb hK hP 12 11 rfl rfl j rfl (by omega) (Nat.le_of_ble_eq_true rfl) dX3_cycle_56 ?_
              refine lv_goto (tgt := 62) hx hb dX3_cycle_57 (by decide) ?_
              exact W.iret (v := (cm_low M) j) hx hb hr (fun t ht hW => ⟨⟨(cm_low M) j, (cm_set_th M 0), rfl, ⟨(by first | rfl | (simp only [rmCyc, rmCyc2, Option.elim_none, Option.map_none, if_pos h_2, if_neg h_7, if_neg h_8, if_pos h_9, e_ix, Option.elim_some, Option.map_some, if_neg h_10, if_pos h_11] <;> rfl)), (by first | rfl | (simp only [rmCyc, rmCyc2, Option.elim_none, Option.map_none, if_pos h_2, if_neg h_7, if_neg h_8, if_pos h_9, e_ix, Option.elim_some, Option.map_some, if_neg h_10, if_pos h_11] <;> rfl))⟩, by rw [ht]; exact hP, va_K.moved hW.alike hK, hD⟩, hS.F ht⟩) hS.2.2 dX3_cycle_62
          · exact absurd h_10 h_7
        · refine lv_iconst (v := (-1)) hx hb dX3_cycle_31 (by decide) ?_
          exact W.iret (v := (-1)) hx hb hr (fun t ht hW => ⟨⟨(-1), (cm_set_th M 0), rfl, ⟨(by first | rfl | (simp only [rmCyc, rmCyc2, Option.elim_none, Option.map_none, if_pos h_2, if_neg h_7, if_neg h_8, if_neg h_9, ix_big h_9] <;> rfl)), (by first | rfl | (simp only [rmCyc, rmCyc2, Option.elim_none, Option.map_none, if_pos h_2, if_neg h_7, if_neg h_8, if_neg h_9, ix_big h_9] <;> rfl))⟩, by rw [ht]; exact hP, va_K.moved hW.alike hK, hD⟩, hS.F ht⟩) hS.2.2 dX3_cycle_32
    · refine lv_aload_n hx hb dX3_cycle_14 rfl (lv_at hl 0 rfl) ?_
      refine va_get (D := D) (ci := 4) (v := .int (nI (cm_cyc M))) (C := RX3) (T := TX3) (N := 20) hx hb hts iX3_cycle_X3 hown hK hP 0 rfl rfl 19 (by decide) (hts (.fieldLink RX3 93 "CellRows2Model" "cycles" "I") (by decide +kernel)) (fun _ h9 => h9) rfl dX3_cycle_15 ?_
      exact W.iret (v := nI (cm_cyc M)) hx hb hr (fun t ht hW => ⟨⟨nI (cm_cyc M), (cm_set_th M 0), rfl, ⟨(by first | rfl | (simp only [rmCyc, rmCyc2, Option.elim_none, Option.map_none, if_pos h_2, if_pos h_7] <;> rfl)), (by first | rfl | (simp only [rmCyc, rmCyc2, Option.elim_none, Option.map_none, if_pos h_2, if_pos h_7] <;> rfl))⟩, by rw [ht]; exact hP, va_K.moved hW.alike hK, hD⟩, hS.F ht⟩) hS.2.2 dX3_cycle_18
set_option maxRecDepth 20000 in
theorem iX3_cool_X3 : ∀ w ∈ wsX30, w ∈ wsX3_cool := by decide +kernel
set_option maxHeartbeats 1000000 in
set_option maxRecDepth 100000 in
theorem kX3_cool (l : Launch) (D : va_G) (cm : Nat → ClassId) (b : Nat → Nat) (n : Nat) (M : MS) (sz : Nat) (h1 : 1 ≤ n) (hn : n ≤ 24) : Met l yX3_cool wsX3_cool ({ frames := 0, cells := 0, slots := 0, locals := 0 }) (va_Pc [.ref (b 0)] (pM D cm b n M sz)) (va_Qi (fun r (u : MS) => r = rmCool M n ∧ u = cm_set_th M 0) (eM D cm b n (va_A (wM cm b n M) sz)) (va_A (wM cm b n M) sz)) 0 0 (va_A (wM cm b n M) sz) := by
  refine Met.ofW (cc := cX3_cool) (maxL := 4) (ret := (some .int)) (by decide) rfl ?_
  intro p e s m args below meth c s₁ B hml hv
  obtain ⟨rfl, hsz, hP, hK, hD0⟩ := hv
  have hx := B.exec
  have hb := B.bytes
  have hr := B.returns
  have hts := atoms_spec (ws := wsX3_cool) B.pre
  have hown : s.vm.findClass RX3 = some m.cls := findClass_of_methodNamed B.named
  have hlocks := B.notSynchronized
  subst hsz
  have hD := hD0.self (sz := s.heap.size)
  generalize hAe : va_A (wM cm b n M) s.heap.size = A at hD ⊢
  have hA : ∀ q : Nat, s.heap.size ≤ q → A q := fun q h => by rw [← hAe]; exact Or.inr h
  have hS : va_S A s.heap s.heap [] := va_S.rf
  have hl := lv_entry ([.ref (b 0)]) (n := 4) (Nat.le_of_ble_eq_true rfl)
  rw [lg_entry_eq]
  generalize (lg_sl ([.ref (b 0)]) ++ List.replicate (4 - (lg_sl ([.ref (b 0)])).length) Slot.unset).toArray = ls at hl ⊢
  have hl : lv_has ls 4 [(0, .ref (b 0))] := hl
  refine lv_aload_n hx hb dX3_cool_0 rfl (lv_at hl 0 rfl) ?_
  refine lv_iconst (v := 0) hx hb dX3_cool_1 (by decide) ?_
  refine va_put (D := D) (ci := 4) (v := .int 0) (ty := .int) (C := RX3) (T := TX3) (N := 20) hx hb hts iX3_cool_X3 tyX3 tyX3_ok nmX3 hown hK hP hD hS 0 rfl rfl 0 (by decide) (hts (.fieldLink RX3 73 "CellRows2Model" "thrown" "I") (by decide +kernel)) (fun _ h9 => h9) rfl (by decide +kernel) rfl rfl (Nat.le_of_ble_eq_true rfl) dX3_cool_2 (fun H1 locs1 hP hD hS => ?_)
  have hP : va_P D vwCl (wM cm b n (cm_set_th M 0)) H1 := hP
  have hD : va_D A (wM cm b n (cm_set_th M 0)) := hD
  refine lv_aload_n hx hb dX3_cool_5 rfl (lv_at hl 0 rfl) ?_
  refine va_get (D := D) (ci := 4) (v := .ref (b 4)) (C := RX3) (T := TX3) (N := 20) hx hb hts iX3_cool_X3 hown hK hP 0 rfl rfl 5 (by decide) (hts (.fieldLink RX3 20 "CellRows2Model" "warms" "[J") (by decide +kernel)) (fun _ h9 => h9) rfl dX3_cool_6 ?_
  refine lv_iconst (v := 0) hx hb dX3_cool_9 (by decide) ?_
  refine ra_l (f := (cm_wa M)) hx hb hK hP 4 3 rfl rfl 0 rfl (Nat.le_of_ble_eq_true rfl) (Nat.le_of_ble_eq_true rfl) dX3_cool_10 ?_
  refine lv_lstore_n (lv' := [(1, .long ((cm_wa M) 0)), (0, .ref (b 0))]) hx hb dX3_cool_11 rfl hl (by decide) rfl (fun ls hl => ?_)
  refine lv_iconst (v := 1) hx hb dX3_cool_12 (by decide) ?_
  refine lv_istore_n (lv' := [(3, .int 1), (1, .long ((cm_wa M) 0)), (0, .ref (b 0))]) hx hb dX3_cool_13 rfl hl (by decide) rfl (fun ls hl => ?_)
  refine W.loop (α := Nat × Array Slot) (g := fun v9 => F0 m 14 v9.2 []) (fun k9 v9 => v9.1 + 1 + k9 = n ∧ lv_has v9.2 4 [(0, .ref (b 0)), (1, .long (mMx (cm_wa M) v9.1)), (3, .int (nI (v9.1 + 1)))]) ?_ ?_ (n - 1) (0, ls) ⟨by omega, lv_sub hl [2, 1, 0] rfl⟩
  · rintro ⟨z, ls⟩ ⟨h9, hl⟩
    have h9 : z + 1 + 0 = n := h9
    have e9 : z = n - 1 := by omega
    have hl : lv_has ls 4 [(0, .ref (b 0)), (1, .long (mMx (cm_wa M) z)), (3, .int (nI (z + 1)))] := hl
    rw [e9] at hl
    have hl : lv_has ls 4 [(0, .ref (b 0)), (1, .long (mMx (cm_wa M) (n - 1))), (3, .int (nI ((n - 1) + 1)))] := hl
    refine lv_iload_n hx hb dX3_cool_14 rfl (lv_at hl 2 rfl) ?_
    refine lv_aload_n hx hb dX3_cool_15 rfl (lv_at hl 0 rfl) ?_
    refine va_get (D := D) (ci := 4) (v := .int (nI n)) (C := RX3) (T := TX3) (N := 20) hx hb hts iX3_cool_X3 hown hK hP 0 rfl rfl 1 (by decide) (hts (.fieldLink RX3 61 "CellRows2Model" "cells" "I") (by decide +kernel)) (fun _ h9 => h9) rfl dX3_cool_16 ?_
    refine ib_ge (tgt := 50) hx hb dX3_cool_19 (by decide) (fun h_3 => ?_) (fun h_3 => ?_)
    · refine lv_lload_n hx hb dX3_cool_50 rfl (lv_at hl 1 rfl) ?_
      refine lv_ldc2 hx hb hown (hts (.constantLong RX3 144 (550)) (by decide +kernel)) dX3_cool_51 ?_
      refine il_le (tgt := 62) hx hb dX3_cool_54 dX3_cool_55 (by decide) (fun h_4 => ?_) (fun h_4 => ?_)
      · refine lv_lload_n hx hb dX3_cool_62 rfl (lv_at hl 1 rfl) ?_
        refine lv_ldc2 hx hb hown (hts (.constantLong RX3 146 (450)) (by decide +kernel)) dX3_cool_63 ?_
        refine il_le (tgt := 74) hx hb dX3_cool_66 dX3_cool_67 (by decide) (fun h_5 => ?_) (fun h_5 => ?_)
        · refine lv_lload_n hx hb dX3_cool_74 rfl (lv_at hl 1 rfl) ?_
          refine lv_ldc2 hx hb hown (hts (.constantLong RX3 148 (350)) (by decide +kernel)) dX3_cool_75 ?_
          refine il_le (tgt := 86) hx hb dX3_cool_78 dX3_cool_79 (by decide) (fun h_6 => ?_) (fun h_6 => ?_)
          · refine lv_iconst (v := 0) hx hb dX3_cool_86 (by decide) ?_
            exact W.iret (v := 0) hx hb hr (fun t ht hW => ⟨⟨0, (cm_set_th M 0), rfl, ⟨(by first | rfl | (simp only [rmCool, if_neg h_3, if_neg h_4, if_neg h_5, if_neg h_6] <;> rfl)), (by first | rfl | (simp only [rmCool, if_neg h_3, if_neg h_4, if_neg h_5, if_neg h_6] <;> rfl))⟩, by rw [ht]; exact hP, va_K.moved hW.alike hK, hD⟩, hS.F ht⟩) hS.2.2 dX3_cool_87
          · refine lv_iconst (v := 1) hx hb dX3_cool_82 (by decide) ?_
            refine lv_goto (tgt := 87) hx hb dX3_cool_83 (by decide) ?_
            exact W.iret (v := 1) hx hb hr (fun t ht hW => ⟨⟨1, (cm_set_th M 0), rfl, ⟨(by first | rfl | (simp only [rmCool, if_neg h_3, if_neg h_4, if_neg h_5, if_pos h_6] <;> rfl)), (by first | rfl | (simp only [rmCool, if_neg h_3, if_neg h_4, if_neg h_5, if_pos h_6] <;> rfl))⟩, by rw [ht]; exact hP, va_K.moved hW.alike hK, hD⟩, hS.F ht⟩) hS.2.2 dX3_cool_87
        · refine lv_iconst (v := 2) hx hb dX3_cool_70 (by decide) ?_
          refine lv_goto (tgt := 87) hx hb dX3_cool_71 (by decide) ?_
          exact W.iret (v := 2) hx hb hr (fun t ht hW => ⟨⟨2, (cm_set_th M 0), rfl, ⟨(by first | rfl | (simp only [rmCool, if_neg h_3, if_neg h_4, if_pos h_5] <;> rfl)), (by first | rfl | (simp only [rmCool, if_neg h_3, if_neg h_4, if_pos h_5] <;> rfl))⟩, by rw [ht]; exact hP, va_K.moved hW.alike hK, hD⟩, hS.F ht⟩) hS.2.2 dX3_cool_87
      · refine lv_iconst (v := 3) hx hb dX3_cool_58 (by decide) ?_
        refine lv_goto (tgt := 87) hx hb dX3_cool_59 (by decide) ?_
        exact W.iret (v := 3) hx hb hr (fun t ht hW => ⟨⟨3, (cm_set_th M 0), rfl, ⟨(by first | rfl | (simp only [rmCool, if_neg h_3, if_pos h_4] <;> rfl)), (by first | rfl | (simp only [rmCool, if_neg h_3, if_pos h_4] <;> rfl))⟩, by rw [ht]; exact hP, va_K.moved hW.alike hK, hD⟩, hS.F ht⟩) hS.2.2 dX3_cool_87
    · exact absurd h_3 (nI_nlt (a := n - 1 + 1) (b := n) (by omega) (by omega))
  · rintro k9 ih ⟨z, ls⟩ ⟨h9, hl⟩
    have h9 : z + 1 + (k9 + 1) = n := h9
    have hl : lv_has ls 4 [(0, .ref (b 0)), (1, .long (mMx (cm_wa M) z)), (3, .int (nI (z + 1)))] := hl
    refine lv_iload_n hx hb dX3_cool_14 rfl (lv_at hl 2 rfl) ?_
    refine lv_aload_n hx hb dX3_cool_15 rfl (lv_at hl 0 rfl) ?_
    refine va_get (D := D) (ci := 4) (v := .int (nI n)) (C := RX3) (T := TX3) (N := 20) hx hb hts iX3_cool_X3 hown hK hP 0 rfl rfl 1 (by decide) (hts (.fieldLink RX3 61 "CellRows2Model" "cells" "I") (by decide +kernel)) (fun _ h9 => h9) rfl dX3_cool_16 ?_
    refine ib_ge (tgt := 50) hx hb dX3_cool_19 (by decide) (fun h_7 => ?_) (fun h_7 => ?_)
    · exact absurd (nI_lt (a := z + 1) (b := n) (by omega) (by omega)) h_7
    · refine lv_aload_n hx hb dX3_cool_22 rfl (lv_at hl 0 rfl) ?_
      refine va_get (D := D) (ci := 4) (v := .ref (b 4)) (C := RX3) (T := TX3) (N := 20) hx hb hts iX3_cool_X3 hown hK hP 0 rfl rfl 5 (by decide) (hts (.fieldLink RX3 20 "CellRows2Model" "warms" "[J") (by decide +kernel)) (fun _ h9 => h9) rfl dX3_cool_23 ?_
      refine lv_iload_n hx hb dX3_cool_26 rfl (lv_at hl 2 rfl) ?_
      refine ra_l (f := (cm_wa M)) hx hb hK hP 4 3 rfl rfl (z + 1) rfl (by omega) (Nat.le_of_ble_eq_true rfl) dX3_cool_27 ?_
      refine lv_lload_n hx hb dX3_cool_28 rfl (lv_at hl 1 rfl) ?_
      refine W.join (P := fun v9 : Int64 => v9 = mMx (cm_wa M) (z + 1)) (g := fun v9 => F0 m 43 ls [.long v9]) (fun v8 hv8 => ?_) (fun J8 => ?_)
      · subst hv8
        refine lv_lstore_n (lv' := [(1, .long (mMx (cm_wa M) (z + 1))), (0, .ref (b 0)), (3, .int (nI (z + 1)))]) hx hb dX3_cool_43 rfl hl (by decide) rfl (fun ls hl => ?_)
        refine lv_iinc (v := nI (z + 1 + 1)) (lv' := [(3, .int (nI (z + 1 + 1))), (1, .long (mMx (cm_wa M) (z + 1))), (0, .ref (b 0))]) hx hb dX3_cool_44 hl (k := 2) rfl (nI_1 (z + 1)) (by decide) rfl (fun ls hl => ?_)
        refine lv_goto (tgt := 14) hx hb dX3_cool_47 (by decide) ?_
        exact ih ((z + 1), ls) ⟨by show z + 1 + 1 + k9 = n; omega, lv_sub hl [2, 1, 0] rfl⟩
      · refine il_le (tgt := 42) hx hb dX3_cool_29 dX3_cool_30 (by decide) (fun h_9 => ?_) (fun h_9 => ?_)
        · refine lv_lload_n hx hb dX3_cool_42 rfl (lv_at hl 1 rfl) ?_
          exact J8 _ (by simp only [mMx, if_neg h_9])
        · refine lv_aload_n hx hb dX3_cool_33 rfl (lv_at hl 0 rfl) ?_
          refine va_get (D := D) (ci := 4) (v := .ref (b 4)) (C := RX3) (T := TX3) (N := 20) hx hb hts iX3_cool_X3 hown hK hP 0 rfl rfl 5 (by decide) (hts (.fieldLink RX3 20 "CellRows2Model" "warms" "[J") (by decide +kernel)) (fun _ h9 => h9) rfl dX3_cool_34 ?_
          refine lv_iload_n hx hb dX3_cool_37 rfl (lv_at hl 2 rfl) ?_
          refine ra_l (f := (cm_wa M)) hx hb hK hP 4 3 rfl rfl (z + 1) rfl (by omega) (Nat.le_of_ble_eq_true rfl) dX3_cool_38 ?_
          refine lv_goto (tgt := 43) hx hb dX3_cool_39 (by decide) ?_
          exact J8 _ (by simp only [mMx, if_pos h_9])
set_option maxRecDepth 20000 in
theorem iX3_fault_X3 : ∀ w ∈ wsX30, w ∈ wsX3_fault := by decide +kernel
set_option maxHeartbeats 1000000 in
set_option maxRecDepth 100000 in
theorem kX3_fault (l : Launch) (D : va_G) (cm : Nat → ClassId) (b : Nat → Nat) (n : Nat) (M : MS) (sz : Nat) (p0 : Int32) (hf : cm_fc M ≤ 2048) : Met l yX3_fault wsX3_fault ({ frames := 0, cells := 0, slots := 0, locals := 0 }) (va_Pc [.ref (b 0), .int p0] (pM D cm b n M sz)) (va_Qi (fun r (u : MS) => r = (ix (cm_fc M) p0).elim 0 (cm_flt M) ∧ u = cm_set_th M 0) (eM D cm b n (va_A (wM cm b n M) sz)) (va_A (wM cm b n M) sz)) 0 0 (va_A (wM cm b n M) sz) := by
  refine Met.ofW (cc := cX3_fault) (maxL := 2) (ret := (some .int)) (by decide) rfl ?_
  intro p e s m args below meth c s₁ B hml hv
  obtain ⟨rfl, hsz, hP, hK, hD0⟩ := hv
  have hx := B.exec
  have hb := B.bytes
  have hr := B.returns
  have hts := atoms_spec (ws := wsX3_fault) B.pre
  have hown : s.vm.findClass RX3 = some m.cls := findClass_of_methodNamed B.named
  have hlocks := B.notSynchronized
  subst hsz
  have hD := hD0.self (sz := s.heap.size)
  generalize hAe : va_A (wM cm b n M) s.heap.size = A at hD ⊢
  have hA : ∀ q : Nat, s.heap.size ≤ q → A q := fun q h => by rw [← hAe]; exact Or.inr h
  have hS : va_S A s.heap s.heap [] := va_S.rf
  have hl := lv_entry ([.ref (b 0), .int p0]) (n := 2) (Nat.le_of_ble_eq_true rfl)
  rw [lg_entry_eq]
  generalize (lg_sl ([.ref (b 0), .int p0]) ++ List.replicate (2 - (lg_sl ([.ref (b 0), .int p0])).length) Slot.unset).toArray = ls at hl ⊢
  have hl : lv_has ls 2 [(0, .ref (b 0)), (1, .int p0)] := hl
  refine lv_aload_n hx hb dX3_fault_0 rfl (lv_at hl 0 rfl) ?_
  refine lv_iconst (v := 0) hx hb dX3_fault_1 (by decide) ?_
  refine va_put (D := D) (ci := 4) (v := .int 0) (ty := .int) (C := RX3) (T := TX3) (N := 20) hx hb hts iX3_fault_X3 tyX3 tyX3_ok nmX3 hown hK hP hD hS 0 rfl rfl 0 (by decide) (hts (.fieldLink RX3 73 "CellRows2Model" "thrown" "I") (by decide +kernel)) (fun _ h9 => h9) rfl (by decide +kernel) rfl rfl (Nat.le_of_ble_eq_true rfl) dX3_fault_2 (fun H1 locs1 hP hD hS => ?_)
  have hP : va_P D vwCl (wM cm b n (cm_set_th M 0)) H1 := hP
  have hD : va_D A (wM cm b n (cm_set_th M 0)) := hD
  refine lv_iload_n hx hb dX3_fault_5 rfl (lv_at hl 1 rfl) ?_
  refine iz_lt (tgt := 17) hx hb dX3_fault_6 (by decide) (fun h_2 => ?_) (fun h_2 => ?_)
  · refine lv_iconst (v := 0) hx hb dX3_fault_17 (by decide) ?_
    refine lv_goto (tgt := 27) hx hb dX3_fault_18 (by decide) ?_
    exact W.iret (v := 0) hx hb hr (fun t ht hW => ⟨⟨0, (cm_set_th M 0), rfl, ⟨(by first | rfl | (simp only [Option.elim_none, Option.map_none, if_pos h_2, ix_neg h_2] <;> rfl)), (by first | rfl | (simp only [Option.elim_none, Option.map_none, if_pos h_2, ix_neg h_2] <;> rfl))⟩, by rw [ht]; exact hP, va_K.moved hW.alike hK, hD⟩, hS.F ht⟩) hS.2.2 dX3_fault_27
  · refine lv_iload_n hx hb dX3_fault_9 rfl (lv_at hl 1 rfl) ?_
    refine lv_aload_n hx hb dX3_fault_10 rfl (lv_at hl 0 rfl) ?_
    refine va_get (D := D) (ci := 4) (v := .int (nI (cm_fc M))) (C := RX3) (T := TX3) (N := 20) hx hb hts iX3_fault_X3 hown hK hP 0 rfl rfl 14 (by decide) (hts (.fieldLink RX3 76 "CellRows2Model" "faultCount" "I") (by decide +kernel)) (fun _ h9 => h9) rfl dX3_fault_11 ?_
    refine ib_lt (tgt := 21) hx hb dX3_fault_14 (by decide) (fun h_3 => ?_) (fun h_3 => ?_)
    · obtain ⟨j, hj, rfl⟩ := ix_of (n := cm_fc M) (by omega) h_2 h_3
      have e_ix := ix_at (n := cm_fc M) (by omega) hj
      refine lv_aload_n hx hb dX3_fault_21 rfl (lv_at hl 0 rfl) ?_
      refine va_get (D := D) (ci := 4) (v := .ref (b 9)) (C := RX3) (T := TX3) (N := 20) hx hb hts iX3_fault_X3 hown hK hP 0 rfl rfl 13 (by decide) (hts (.fieldLink RX3 49 "CellRows2Model" "faults" "[I") (by decide +kernel)) (fun _ h9 => h9) rfl dX3_fault_22 ?_
      refine lv_iload_n hx hb dX3_fault_25 rfl (lv_at hl 1 rfl) ?_
      refine ra_i (f := (cm_flt M)) hx hb hK hP 9 8 rfl rfl j rfl (by omega) (Nat.le_of_ble_eq_true rfl) dX3_fault_26 ?_
      exact W.iret (v := (cm_flt M) j) hx hb hr (fun t ht hW => ⟨⟨(cm_flt M) j, (cm_set_th M 0), rfl, ⟨(by first | rfl | (simp only [Option.elim_none, Option.map_none, if_neg h_2, if_pos h_3, e_ix, Option.elim_some, Option.map_some] <;> rfl)), (by first | rfl | (simp only [Option.elim_none, Option.map_none, if_neg h_2, if_pos h_3, e_ix, Option.elim_some, Option.map_some] <;> rfl))⟩, by rw [ht]; exact hP, va_K.moved hW.alike hK, hD⟩, hS.F ht⟩) hS.2.2 dX3_fault_27
    · refine lv_iconst (v := 0) hx hb dX3_fault_17 (by decide) ?_
      refine lv_goto (tgt := 27) hx hb dX3_fault_18 (by decide) ?_
      exact W.iret (v := 0) hx hb hr (fun t ht hW => ⟨⟨0, (cm_set_th M 0), rfl, ⟨(by first | rfl | (simp only [Option.elim_none, Option.map_none, if_neg h_2, if_neg h_3, ix_big h_3] <;> rfl)), (by first | rfl | (simp only [Option.elim_none, Option.map_none, if_neg h_2, if_neg h_3, ix_big h_3] <;> rfl))⟩, by rw [ht]; exact hP, va_K.moved hW.alike hK, hD⟩, hS.F ht⟩) hS.2.2 dX3_fault_27
end
section
set_option maxRecDepth 20000 in
theorem iX3_point_X3 : ∀ w ∈ wsX30, w ∈ wsX3_point := by decide +kernel
set_option maxHeartbeats 1000000 in
set_option maxRecDepth 100000 in
theorem kX3_point (l : Launch) (D : va_G) (cm : Nat → ClassId) (b : Nat → Nat) (n : Nat) (M : MS) (sz : Nat) (v : Int64) (hp : cm_many M ≤ 500) (hc : cm_many M + 2 * cm_cyc M ≤ 513) : Met l yX3_point wsX3_point ({ frames := 1, cells := 0, slots := 0, locals := 24 }) (va_Pc [.ref (b 0), .long v] (pM D cm b n M sz)) (va_Qv (fun u : MS => u = mPoint M v) (eM D cm b n (va_A (wM cm b n M) sz)) (va_A (wM cm b n M) sz)) 0 0 (va_A (wM cm b n M) sz) := by
  refine Met.ofW (cc := cX3_point) (maxL := 12) (ret := none) (by decide) rfl ?_
  intro p e s m args below meth c s₁ B hml hv
  obtain ⟨rfl, hsz, hP, hK, hD0⟩ := hv
  have hx := B.exec
  have hb := B.bytes
  have hr := B.returns
  have hts := atoms_spec (ws := wsX3_point) B.pre
  have hown : s.vm.findClass RX3 = some m.cls := findClass_of_methodNamed B.named
  have hlocks := B.notSynchronized
  subst hsz
  have hD := hD0.self (sz := s.heap.size)
  generalize hAe : va_A (wM cm b n M) s.heap.size = A at hD ⊢
  have hA : ∀ q : Nat, s.heap.size ≤ q → A q := fun q h => by rw [← hAe]; exact Or.inr h
  have hS : va_S A s.heap s.heap [] := va_S.rf
  have hl := lv_entry ([.ref (b 0), .long v]) (n := 12) (Nat.le_of_ble_eq_true rfl)
  rw [lg_entry_eq]
  generalize (lg_sl ([.ref (b 0), .long v]) ++ List.replicate (12 - (lg_sl ([.ref (b 0), .long v])).length) Slot.unset).toArray = ls at hl ⊢
  have hl : lv_has ls 12 [(0, .ref (b 0)), (1, .long v)] := hl
  refine lv_aload_n hx hb dX3_point_0 rfl (lv_at hl 0 rfl) ?_
  refine lv_lload_n hx hb dX3_point_1 rfl (lv_at hl 1 rfl) ?_
  refine vp_callSi (W.runV (As := [.long v]) (rest := []) ⟨hx, hb, hml, hown, hts⟩ (kX3_goesOn l D cm b n M s.heap.size v (by omega)) (cwV 1 hts gX3_point_X3_goesOn rfl rfl rfl (by decide +kernel) ⟨Nat.le_of_ble_eq_true rfl, Nat.le_of_ble_eq_true rfl⟩) ⟨pM_blind, va_recv hK hP (ci := 4) (q0 := 0) rfl rfl, fun U hU hW => ⟨rfl, pM_mk hP hK hD hU hW⟩⟩ rfl rfl hl.1 rfl (lv_room (Nat.le_of_ble_eq_true rfl)) dX3_point_2 ⟨Nat.le_of_ble_eq_true rfl, Nat.le_of_ble_eq_true rfl⟩) (fun r1 hr1 => ?_)
  obtain rfl : r1 = mGo (cm_pts M) (cm_many M) v := hr1
  refine W.joinH (P := fun (v9 : MS) (H' : Heap) (locs' : List Loc) => v9 = mPut M v ∧ va_P D vwCl (wM cm b n v9) H' ∧ va_D A (wM cm b n v9) ∧ va_S A s.heap H' locs') (g := fun _ => F0 m 53 ls []) (fun M1 H2 locs2 hj2 => ?_) (fun J2 => ?_)
  · obtain ⟨hs_M1, hP, hD, hS⟩ := hj2
    obtain ⟨hp1, hc1⟩ := mPut_ok (M := M) (v := v) hp
    rw [← hs_M1] at hp1 hc1
    refine lv_iconst (v := 1) hx hb dX3_point_53 (by decide) ?_
    refine lv_istore_n (lv' := [(3, .int 1), (0, .ref (b 0)), (1, .long v)]) hx hb dX3_point_54 rfl hl (by decide) rfl (fun ls hl => ?_)
    refine W.loopH (α := MS × Array Slot) (g := fun v9 => F0 m 55 v9.2 []) (fun k9 v9 H' L' => mTco k9 v9.1 = mTco 250 M1 ∧ cm_many v9.1 ≤ 2 * k9 + 3 ∧ cm_many v9.1 ≤ 500 ∧ cm_many v9.1 + 2 * cm_cyc v9.1 ≤ 514 ∧ va_P D vwCl (wM cm b n v9.1) H' ∧ va_D A (wM cm b n v9.1) ∧ va_S A s.heap H' L' ∧ lv_has v9.2 12 [(0, .ref (b 0)), (3, .int 1)]) ?_ ?_ 250 (M1, ls) ⟨rfl, (by show cm_many M1 ≤ 2 * 250 + 3; omega), hp1, (by show cm_many M1 + 2 * cm_cyc M1 ≤ 514; omega), hP, hD, hS, lv_sub hl [1, 0] rfl⟩
    · rintro ⟨U, ls⟩ H8 locs8 ⟨hT, hb9, hp9, hc9, hP, hD, hS, hl⟩
      have hT : mTco 0 U = mTco 250 M1 := hT
      have hb9 : cm_many U ≤ 2 * 0 + 3 := hb9
      have hl : lv_has ls 12 [(0, .ref (b 0)), (3, .int 1)] := hl
      have hP : va_P D vwCl (wM cm b n U) H8 := hP
      have hD : va_D A (wM cm b n U) := hD
      refine lv_iload_n hx hb dX3_point_55 rfl (lv_at hl 1 rfl) ?_
      refine iz_eq (tgt := 248) hx hb dX3_point_56 (by decide) (fun h_9 => ?_) (fun h_9 => ?_)
      · exact absurd h_9 (by decide)
      · refine lv_aload_n hx hb dX3_point_59 rfl (lv_at hl 0 rfl) ?_
        refine va_get (D := D) (ci := 4) (v := .int (nI (cm_many U))) (C := RX3) (T := TX3) (N := 20) hx hb hts iX3_point_X3 hown hK hP 0 rfl rfl 16 (by decide) (hts (.fieldLink RX3 82 "CellRows2Model" "many" "I") (by decide +kernel)) (fun _ h9 => h9) rfl dX3_point_60 ?_
        refine lv_iconst (v := 3) hx hb dX3_point_63 (by decide) ?_
        refine ib_le (tgt := 248) hx hb dX3_point_64 (by decide) (fun h_10 => ?_) (fun h_10 => ?_)
        · subst hs_M1
          exact W.vret hx hb hr (fun t ht hW => ⟨⟨U, rfl, (by rw [← hT]; simp only [mTco, if_neg h_9, if_neg h_10]), by rw [ht]; exact hP, va_K.moved hW.alike hK, hD⟩, hS.F ht⟩) hS.2.2 dX3_point_248
        · exact absurd h_10 (nI_nlt (a := 3) (b := cm_many U) (by omega) (by omega))
    · rintro k9 ih ⟨U, ls⟩ H8 locs8 ⟨hT, hb9, hp9, hc9, hP, hD, hS, hl⟩
      have hT : mTco (k9 + 1) U = mTco 250 M1 := hT
      have hb9 : cm_many U ≤ 2 * (k9 + 1) + 3 := hb9
      have hp9 : cm_many U ≤ 500 := hp9
      have hc9 : cm_many U + 2 * cm_cyc U ≤ 514 := hc9
      have hl : lv_has ls 12 [(0, .ref (b 0)), (3, .int 1)] := hl
      have hP : va_P D vwCl (wM cm b n U) H8 := hP
      have hD : va_D A (wM cm b n U) := hD
      refine lv_iload_n hx hb dX3_point_55 rfl (lv_at hl 1 rfl) ?_
      refine iz_eq (tgt := 248) hx hb dX3_point_56 (by decide) (fun h_11 => ?_) (fun h_11 => ?_)
      · exact absurd h_11 (by decide)
      · refine lv_aload_n hx hb dX3_point_59 rfl (lv_at hl 0 rfl) ?_
        refine va_get (D := D) (ci := 4) (v := .int (nI (cm_many U))) (C := RX3) (T := TX3) (N := 20) hx hb hts iX3_point_X3 hown hK hP 0 rfl rfl 16 (by decide) (hts (.fieldLink RX3 82 "CellRows2Model" "many" "I") (by decide +kernel)) (fun _ h9 => h9) rfl dX3_point_60 ?_
        refine lv_iconst (v := 3) hx hb dX3_point_63 (by decide) ?_
        refine ib_le (tgt := 248) hx hb dX3_point_64 (by decide) (fun h_12 => ?_) (fun h_12 => ?_)
        · subst hs_M1
          exact W.vret hx hb hr (fun t ht hW => ⟨⟨U, rfl, (by rw [← hT]; simp only [mTco, if_neg h_11, if_neg h_12]), by rw [ht]; exact hP, va_K.moved hW.alike hK, hD⟩, hS.F ht⟩) hS.2.2 dX3_point_248
        · have g4 : 3 < cm_many U := nI_islt (a := 3) (by omega) (by omega) h_12
          refine lv_aload_n hx hb dX3_point_67 rfl (lv_at hl 0 rfl) ?_
          refine va_get (D := D) (ci := 4) (v := .ref (b 10)) (C := RX3) (T := TX3) (N := 20) hx hb hts iX3_point_X3 hown hK hP 0 rfl rfl 15 (by decide) (hts (.fieldLink RX3 52 "CellRows2Model" "points" "[J") (by decide +kernel)) (fun _ h9 => h9) rfl dX3_point_68 ?_
          refine lv_aload_n hx hb dX3_point_71 rfl (lv_at hl 0 rfl) ?_
          refine va_get (D := D) (ci := 4) (v := .int (nI (cm_many U))) (C := RX3) (T := TX3) (N := 20) hx hb hts iX3_point_X3 hown hK hP 0 rfl rfl 16 (by decide) (hts (.fieldLink RX3 82 "CellRows2Model" "many" "I") (by decide +kernel)) (fun _ h9 => h9) rfl dX3_point_72 ?_
          refine lv_iconst (v := 4) hx hb dX3_point_75 (by decide) ?_
          refine lv_isub hx hb dX3_point_76 ?_
          refine W.eqi (pk_sub (a := (cm_many U)) (b := 4) (by omega)) ?_
          refine ra_l (f := (cm_pts U)) hx hb hK hP 10 9 rfl rfl ((cm_many U) - 4) rfl (by omega) (Nat.le_of_ble_eq_true rfl) dX3_point_77 ?_
          refine lv_lstore (lv' := [(4, .long ((cm_pts U) ((cm_many U) - 4))), (0, .ref (b 0)), (3, .int 1)]) hx hb dX3_point_78 hl (by decide) rfl (fun ls hl => ?_)
          refine lv_aload_n hx hb dX3_point_80 rfl (lv_at hl 1 rfl) ?_
          refine va_get (D := D) (ci := 4) (v := .ref (b 10)) (C := RX3) (T := TX3) (N := 20) hx hb hts iX3_point_X3 hown hK hP 0 rfl rfl 15 (by decide) (hts (.fieldLink RX3 52 "CellRows2Model" "points" "[J") (by decide +kernel)) (fun _ h9 => h9) rfl dX3_point_81 ?_
          refine lv_aload_n hx hb dX3_point_84 rfl (lv_at hl 1 rfl) ?_
          refine va_get (D := D) (ci := 4) (v := .int (nI (cm_many U))) (C := RX3) (T := TX3) (N := 20) hx hb hts iX3_point_X3 hown hK hP 0 rfl rfl 16 (by decide) (hts (.fieldLink RX3 82 "CellRows2Model" "many" "I") (by decide +kernel)) (fun _ h9 => h9) rfl dX3_point_85 ?_
          refine lv_iconst (v := 3) hx hb dX3_point_88 (by decide) ?_
          refine lv_isub hx hb dX3_point_89 ?_
          refine W.eqi (pk_sub (a := (cm_many U)) (b := 3) (by omega)) ?_
          refine ra_l (f := (cm_pts U)) hx hb hK hP 10 9 rfl rfl ((cm_many U) - 3) rfl (by omega) (Nat.le_of_ble_eq_true rfl) dX3_point_90 ?_
          refine lv_lstore (lv' := [(6, .long ((cm_pts U) ((cm_many U) - 3))), (4, .long ((cm_pts U) ((cm_many U) - 4))), (0, .ref (b 0)), (3, .int 1)]) hx hb dX3_point_91 hl (by decide) rfl (fun ls hl => ?_)
          refine lv_aload_n hx hb dX3_point_93 rfl (lv_at hl 2 rfl) ?_
          refine va_get (D := D) (ci := 4) (v := .ref (b 10)) (C := RX3) (T := TX3) (N := 20) hx hb hts iX3_point_X3 hown hK hP 0 rfl rfl 15 (by decide) (hts (.fieldLink RX3 52 "CellRows2Model" "points" "[J") (by decide +kernel)) (fun _ h9 => h9) rfl dX3_point_94 ?_
          refine lv_aload_n hx hb dX3_point_97 rfl (lv_at hl 2 rfl) ?_
          refine va_get (D := D) (ci := 4) (v := .int (nI (cm_many U))) (C := RX3) (T := TX3) (N := 20) hx hb hts iX3_point_X3 hown hK hP 0 rfl rfl 16 (by decide) (hts (.fieldLink RX3 82 "CellRows2Model" "many" "I") (by decide +kernel)) (fun _ h9 => h9) rfl dX3_point_98 ?_
          refine lv_iconst (v := 2) hx hb dX3_point_101 (by decide) ?_
          refine lv_isub hx hb dX3_point_102 ?_
          refine W.eqi (pk_sub (a := (cm_many U)) (b := 2) (by omega)) ?_
          refine ra_l (f := (cm_pts U)) hx hb hK hP 10 9 rfl rfl ((cm_many U) - 2) rfl (by omega) (Nat.le_of_ble_eq_true rfl) dX3_point_103 ?_
          refine lv_lstore (lv' := [(8, .long ((cm_pts U) ((cm_many U) - 2))), (6, .long ((cm_pts U) ((cm_many U) - 3))), (4, .long ((cm_pts U) ((cm_many U) - 4))), (0, .ref (b 0)), (3, .int 1)]) hx hb dX3_point_104 hl (by decide) rfl (fun ls hl => ?_)
          refine lv_aload_n hx hb dX3_point_106 rfl (lv_at hl 3 rfl) ?_
          refine va_get (D := D) (ci := 4) (v := .ref (b 10)) (C := RX3) (T := TX3) (N := 20) hx hb hts iX3_point_X3 hown hK hP 0 rfl rfl 15 (by decide) (hts (.fieldLink RX3 52 "CellRows2Model" "points" "[J") (by decide +kernel)) (fun _ h9 => h9) rfl dX3_point_107 ?_
          refine lv_aload_n hx hb dX3_point_110 rfl (lv_at hl 3 rfl) ?_
          refine va_get (D := D) (ci := 4) (v := .int (nI (cm_many U))) (C := RX3) (T := TX3) (N := 20) hx hb hts iX3_point_X3 hown hK hP 0 rfl rfl 16 (by decide) (hts (.fieldLink RX3 82 "CellRows2Model" "many" "I") (by decide +kernel)) (fun _ h9 => h9) rfl dX3_point_111 ?_
          refine lv_iconst (v := 1) hx hb dX3_point_114 (by decide) ?_
          refine lv_isub hx hb dX3_point_115 ?_
          refine W.eqi (pk_sub (a := (cm_many U)) (b := 1) (by omega)) ?_
          refine ra_l (f := (cm_pts U)) hx hb hK hP 10 9 rfl rfl ((cm_many U) - 1) rfl (by omega) (Nat.le_of_ble_eq_true rfl) dX3_point_116 ?_
          refine lv_lstore (lv' := [(10, .long ((cm_pts U) ((cm_many U) - 1))), (8, .long ((cm_pts U) ((cm_many U) - 2))), (6, .long ((cm_pts U) ((cm_many U) - 3))), (4, .long ((cm_pts U) ((cm_many U) - 4))), (0, .ref (b 0)), (3, .int 1)]) hx hb dX3_point_117 hl (by decide) rfl (fun ls hl => ?_)
          refine lv_lload hx hb dX3_point_119 (lv_at hl 2 rfl) ?_
          refine lv_lload hx hb dX3_point_121 (lv_at hl 1 rfl) ?_
          refine lv_lsub hx hb dX3_point_123 ?_
          refine vp_callSl (W.runS (As := [.long (((cm_pts U) ((cm_many U) - 3)) - ((cm_pts U) ((cm_many U) - 2)))]) (rest := []) ⟨hx, hb, hml, hown, hts⟩ (kX3_size l (((cm_pts U) ((cm_many U) - 3)) - ((cm_pts U) ((cm_many U) - 2)))) (va_cwS 1 hts gX3_point_X3_size rfl rfl rfl (by decide +kernel) ⟨Nat.le_of_ble_eq_true rfl, Nat.le_of_ble_eq_true rfl⟩) ⟨fun _ _ _ _ q => q, fun U hU hW => ⟨rfl, trivial⟩⟩ rfl rfl hl.1 rfl (lv_room (Nat.le_of_ble_eq_true rfl)) dX3_point_124 ⟨Nat.le_of_ble_eq_true rfl, Nat.le_of_ble_eq_true rfl⟩) (fun r13 hr13 => ?_)
          obtain rfl : r13 = mSz (((cm_pts U) ((cm_many U) - 3)) - ((cm_pts U) ((cm_many U) - 2))) := hr13
          refine lv_lload hx hb dX3_point_127 (lv_at hl 3 rfl) ?_
          refine lv_lload hx hb dX3_point_129 (lv_at hl 2 rfl) ?_
          refine lv_lsub hx hb dX3_point_131 ?_
          refine vp_callSl (W.runS (As := [.long (((cm_pts U) ((cm_many U) - 4)) - ((cm_pts U) ((cm_many U) - 3)))]) (rest := [.long (mSz (((cm_pts U) ((cm_many U) - 3)) - ((cm_pts U) ((cm_many U) - 2))))]) ⟨hx, hb, hml, hown, hts⟩ (kX3_size l (((cm_pts U) ((cm_many U) - 4)) - ((cm_pts U) ((cm_many U) - 3)))) (va_cwS 1 hts gX3_point_X3_size rfl rfl rfl (by decide +kernel) ⟨Nat.le_of_ble_eq_true rfl, Nat.le_of_ble_eq_true rfl⟩) ⟨fun _ _ _ _ q => q, fun U hU hW => ⟨rfl, trivial⟩⟩ rfl rfl hl.1 rfl (lv_room (Nat.le_of_ble_eq_true rfl)) dX3_point_132 ⟨Nat.le_of_ble_eq_true rfl, Nat.le_of_ble_eq_true rfl⟩) (fun r14 hr14 => ?_)
          obtain rfl : r14 = mSz (((cm_pts U) ((cm_many U) - 4)) - ((cm_pts U) ((cm_many U) - 3))) := hr14
          refine il_gt (tgt := 163) hx hb dX3_point_135 dX3_point_136 (by decide) (fun h_15 => ?_) (fun h_15 => ?_)
          · refine lv_iconst (v := 0) hx hb dX3_point_163 (by decide) ?_
            refine lv_istore_n (lv' := [(3, .int 0), (10, .long ((cm_pts U) ((cm_many U) - 1))), (8, .long ((cm_pts U) ((cm_many U) - 2))), (6, .long ((cm_pts U) ((cm_many U) - 3))), (4, .long ((cm_pts U) ((cm_many U) - 4))), (0, .ref (b 0))]) hx hb dX3_point_164 rfl hl (by decide) rfl (fun ls hl => ?_)
            refine lv_iload_n hx hb dX3_point_165 rfl (lv_at hl 0 rfl) ?_
            refine iz_eq (tgt := 245) hx hb dX3_point_166 (by decide) (fun h_16 => ?_) (fun h_16 => ?_)
            · refine lv_goto (tgt := 55) hx hb dX3_point_245 (by decide) ?_
              refine lv_iload_n hx hb dX3_point_55 rfl (lv_at hl 0 rfl) ?_
              refine iz_eq (tgt := 248) hx hb dX3_point_56 (by decide) (fun h_17 => ?_) (fun h_17 => ?_)
              · subst hs_M1
                exact W.vret hx hb hr (fun t ht hW => ⟨⟨U, rfl, (by rw [← hT]; simp only [mTco, if_neg h_11, if_pos h_12, if_pos h_15, if_pos h_16, if_pos h_17]), by rw [ht]; exact hP, va_K.moved hW.alike hK, hD⟩, hS.F ht⟩) hS.2.2 dX3_point_248
              · exact absurd h_16 h_17
            · exact absurd (by decide) h_16
          · refine lv_lload hx hb dX3_point_139 (lv_at hl 2 rfl) ?_
            refine lv_lload hx hb dX3_point_141 (lv_at hl 1 rfl) ?_
            refine lv_lsub hx hb dX3_point_143 ?_
            refine vp_callSl (W.runS (As := [.long (((cm_pts U) ((cm_many U) - 3)) - ((cm_pts U) ((cm_many U) - 2)))]) (rest := []) ⟨hx, hb, hml, hown, hts⟩ (kX3_size l (((cm_pts U) ((cm_many U) - 3)) - ((cm_pts U) ((cm_many U) - 2)))) (va_cwS 1 hts gX3_point_X3_size rfl rfl rfl (by decide +kernel) ⟨Nat.le_of_ble_eq_true rfl, Nat.le_of_ble_eq_true rfl⟩) ⟨fun _ _ _ _ q => q, fun U hU hW => ⟨rfl, trivial⟩⟩ rfl rfl hl.1 rfl (lv_room (Nat.le_of_ble_eq_true rfl)) dX3_point_144 ⟨Nat.le_of_ble_eq_true rfl, Nat.le_of_ble_eq_true rfl⟩) (fun r18 hr18 => ?_)
            obtain rfl : r18 = mSz (((cm_pts U) ((cm_many U) - 3)) - ((cm_pts U) ((cm_many U) - 2))) := hr18
            refine lv_lload hx hb dX3_point_147 (lv_at hl 1 rfl) ?_
            refine lv_lload hx hb dX3_point_149 (lv_at hl 0 rfl) ?_
            refine lv_lsub hx hb dX3_point_151 ?_
            refine vp_callSl (W.runS (As := [.long (((cm_pts U) ((cm_many U) - 2)) - ((cm_pts U) ((cm_many U) - 1)))]) (rest := [.long (mSz (((cm_pts U) ((cm_many U) - 3)) - ((cm_pts U) ((cm_many U) - 2))))]) ⟨hx, hb, hml, hown, hts⟩ (kX3_size l (((cm_pts U) ((cm_many U) - 2)) - ((cm_pts U) ((cm_many U) - 1)))) (va_cwS 1 hts gX3_point_X3_size rfl rfl rfl (by decide +kernel) ⟨Nat.le_of_ble_eq_true rfl, Nat.le_of_ble_eq_true rfl⟩) ⟨fun _ _ _ _ q => q, fun U hU hW => ⟨rfl, trivial⟩⟩ rfl rfl hl.1 rfl (lv_room (Nat.le_of_ble_eq_true rfl)) dX3_point_152 ⟨Nat.le_of_ble_eq_true rfl, Nat.le_of_ble_eq_true rfl⟩) (fun r19 hr19 => ?_)
            obtain rfl : r19 = mSz (((cm_pts U) ((cm_many U) - 2)) - ((cm_pts U) ((cm_many U) - 1))) := hr19
            refine il_gt (tgt := 163) hx hb dX3_point_155 dX3_point_156 (by decide) (fun h_20 => ?_) (fun h_20 => ?_)
            · refine lv_iconst (v := 0) hx hb dX3_point_163 (by decide) ?_
              refine lv_istore_n (lv' := [(3, .int 0), (10, .long ((cm_pts U) ((cm_many U) - 1))), (8, .long ((cm_pts U) ((cm_many U) - 2))), (6, .long ((cm_pts U) ((cm_many U) - 3))), (4, .long ((cm_pts U) ((cm_many U) - 4))), (0, .ref (b 0))]) hx hb dX3_point_164 rfl hl (by decide) rfl (fun ls hl => ?_)
              refine lv_iload_n hx hb dX3_point_165 rfl (lv_at hl 0 rfl) ?_
              refine iz_eq (tgt := 245) hx hb dX3_point_166 (by decide) (fun h_21 => ?_) (fun h_21 => ?_)
              · refine lv_goto (tgt := 55) hx hb dX3_point_245 (by decide) ?_
                refine lv_iload_n hx hb dX3_point_55 rfl (lv_at hl 0 rfl) ?_
                refine iz_eq (tgt := 248) hx hb dX3_point_56 (by decide) (fun h_22 => ?_) (fun h_22 => ?_)
                · subst hs_M1
                  exact W.vret hx hb hr (fun t ht hW => ⟨⟨U, rfl, (by rw [← hT]; simp only [mTco, if_neg h_11, if_pos h_12, if_neg h_15, if_pos h_20, if_pos h_21, if_pos h_22]), by rw [ht]; exact hP, va_K.moved hW.alike hK, hD⟩, hS.F ht⟩) hS.2.2 dX3_point_248
                · exact absurd h_21 h_22
              · exact absurd (by decide) h_21
            · refine lv_iconst (v := 1) hx hb dX3_point_159 (by decide) ?_
              refine lv_goto (tgt := 164) hx hb dX3_point_160 (by decide) ?_
              refine lv_istore_n (lv' := [(3, .int 1), (10, .long ((cm_pts U) ((cm_many U) - 1))), (8, .long ((cm_pts U) ((cm_many U) - 2))), (6, .long ((cm_pts U) ((cm_many U) - 3))), (4, .long ((cm_pts U) ((cm_many U) - 4))), (0, .ref (b 0))]) hx hb dX3_point_164 rfl hl (by decide) rfl (fun ls hl => ?_)
              refine lv_iload_n hx hb dX3_point_165 rfl (lv_at hl 0 rfl) ?_
              refine iz_eq (tgt := 245) hx hb dX3_point_166 (by decide) (fun h_23 => ?_) (fun h_23 => ?_)
              · exact absurd h_23 h_11
              · refine lv_aload_n hx hb dX3_point_169 rfl (lv_at hl 5 rfl) ?_
                refine va_get (D := D) (ci := 4) (v := .ref (b 11)) (C := RX3) (T := TX3) (N := 20) hx hb hts iX3_point_X3 hown hK hP 0 rfl rfl 17 (by decide) (hts (.fieldLink RX3 55 "CellRows2Model" "ranges" "[I") (by decide +kernel)) (fun _ h9 => h9) rfl dX3_point_170 ?_
                refine lv_aload_n hx hb dX3_point_173 rfl (lv_at hl 5 rfl) ?_
                refine va_get (D := D) (ci := 4) (v := .int (nI (cm_cyc U))) (C := RX3) (T := TX3) (N := 20) hx hb hts iX3_point_X3 hown hK hP 0 rfl rfl 19 (by decide) (hts (.fieldLink RX3 93 "CellRows2Model" "cycles" "I") (by decide +kernel)) (fun _ h9 => h9) rfl dX3_point_174 ?_
                refine lv_lload hx hb dX3_point_177 (lv_at hl 3 rfl) ?_
                refine lv_lload hx hb dX3_point_179 (lv_at hl 2 rfl) ?_
                refine lv_lsub hx hb dX3_point_181 ?_
                refine vp_callSl (W.runS (As := [.long (((cm_pts U) ((cm_many U) - 3)) - ((cm_pts U) ((cm_many U) - 2)))]) (rest := [.int (nI (cm_cyc U)), .ref (b 11)]) ⟨hx, hb, hml, hown, hts⟩ (kX3_size l (((cm_pts U) ((cm_many U) - 3)) - ((cm_pts U) ((cm_many U) - 2)))) (va_cwS 1 hts gX3_point_X3_size rfl rfl rfl (by decide +kernel) ⟨Nat.le_of_ble_eq_true rfl, Nat.le_of_ble_eq_true rfl⟩) ⟨fun _ _ _ _ q => q, fun U hU hW => ⟨rfl, trivial⟩⟩ rfl rfl hl.1 rfl (lv_room (Nat.le_of_ble_eq_true rfl)) dX3_point_182 ⟨Nat.le_of_ble_eq_true rfl, Nat.le_of_ble_eq_true rfl⟩) (fun r24 hr24 => ?_)
                obtain rfl : r24 = mSz (((cm_pts U) ((cm_many U) - 3)) - ((cm_pts U) ((cm_many U) - 2))) := hr24
                refine lv_l2i hx hb dX3_point_185 rfl ?_
                refine rs_i (f := (cm_rng U)) hx hb hK hP hD hS 11 10 rfl rfl (cm_cyc U) rfl (by omega) (Nat.le_of_ble_eq_true rfl) dX3_point_186 (fun H25 locs25 hP hD hS => ?_)
                have hP : va_P D vwCl (wM cm b n (cm_set_rng U (va_up (cm_rng U) (cm_cyc U) (((mSz (((cm_pts U) ((cm_many U) - 3)) - ((cm_pts U) ((cm_many U) - 2))))).toInt32)))) H25 := hP
                have hD : va_D A (wM cm b n (cm_set_rng U (va_up (cm_rng U) (cm_cyc U) (((mSz (((cm_pts U) ((cm_many U) - 3)) - ((cm_pts U) ((cm_many U) - 2))))).toInt32)))) := hD
                refine lv_aload_n hx hb dX3_point_187 rfl (lv_at hl 5 rfl) ?_
                refine va_get (D := D) (ci := 4) (v := .ref (b 12)) (C := RX3) (T := TX3) (N := 20) hx hb hts iX3_point_X3 hown hK hP 0 rfl rfl 18 (by decide) (hts (.fieldLink RX3 58 "CellRows2Model" "lows" "[I") (by decide +kernel)) (fun _ h9 => h9) rfl dX3_point_188 ?_
                refine lv_aload_n hx hb dX3_point_191 rfl (lv_at hl 5 rfl) ?_
                refine va_get (D := D) (ci := 4) (v := .int (nI (cm_cyc U))) (C := RX3) (T := TX3) (N := 20) hx hb hts iX3_point_X3 hown hK hP 0 rfl rfl 19 (by decide) (hts (.fieldLink RX3 93 "CellRows2Model" "cycles" "I") (by decide +kernel)) (fun _ h9 => h9) rfl dX3_point_192 ?_
                refine lv_lload hx hb dX3_point_195 (lv_at hl 3 rfl) ?_
                refine lv_lload hx hb dX3_point_197 (lv_at hl 2 rfl) ?_
                refine W.join (P := fun v9 : Int64 => v9 = if (cm_pts U) ((cm_many U) - 3) < ((cm_pts U) ((cm_many U) - 2)) then (cm_pts U) ((cm_many U) - 3) else (cm_pts U) ((cm_many U) - 2)) (g := fun v9 => F0 m 210 ls [.long v9, .int (nI (cm_cyc U)), .ref (b 12)]) (fun v26 hv26 => ?_) (fun J26 => ?_)
                · subst hv26
                  refine lv_l2i hx hb dX3_point_210 rfl ?_
                  refine rs_i (f := (cm_low U)) hx hb hK hP hD hS 12 11 rfl rfl (cm_cyc U) rfl (by omega) (Nat.le_of_ble_eq_true rfl) dX3_point_211 (fun H28 locs28 hP hD hS => ?_)
                  have hP : va_P D vwCl (wM cm b n (cm_set_low (cm_set_rng U (va_up (cm_rng U) (cm_cyc U) (((mSz (((cm_pts U) ((cm_many U) - 3)) - ((cm_pts U) ((cm_many U) - 2))))).toInt32))) (va_up (cm_low U) (cm_cyc U) (((if (cm_pts U) ((cm_many U) - 3) < ((cm_pts U) ((cm_many U) - 2)) then (cm_pts U) ((cm_many U) - 3) else (cm_pts U) ((cm_many U) - 2))).toInt32)))) H28 := hP
                  have hD : va_D A (wM cm b n (cm_set_low (cm_set_rng U (va_up (cm_rng U) (cm_cyc U) (((mSz (((cm_pts U) ((cm_many U) - 3)) - ((cm_pts U) ((cm_many U) - 2))))).toInt32))) (va_up (cm_low U) (cm_cyc U) (((if (cm_pts U) ((cm_many U) - 3) < ((cm_pts U) ((cm_many U) - 2)) then (cm_pts U) ((cm_many U) - 3) else (cm_pts U) ((cm_many U) - 2))).toInt32)))) := hD
                  refine lv_aload_n hx hb dX3_point_212 rfl (lv_at hl 5 rfl) ?_
                  refine lv_dup hx hb dX3_point_213 rfl ?_
                  refine va_get (D := D) (ci := 4) (v := .int (nI (cm_cyc U))) (C := RX3) (T := TX3) (N := 20) hx hb hts iX3_point_X3 hown hK hP 0 rfl rfl 19 (by decide) (hts (.fieldLink RX3 93 "CellRows2Model" "cycles" "I") (by decide +kernel)) (fun _ h9 => h9) rfl dX3_point_214 ?_
                  refine lv_iconst (v := 1) hx hb dX3_point_217 (by decide) ?_
                  refine lv_iadd hx hb dX3_point_218 ?_
                  refine W.eqi (nI_1 (cm_cyc U)) ?_
                  refine va_put (D := D) (ci := 4) (v := .int (nI ((cm_cyc U) + 1))) (ty := .int) (C := RX3) (T := TX3) (N := 20) hx hb hts iX3_point_X3 tyX3 tyX3_ok nmX3 hown hK hP hD hS 0 rfl rfl 19 (by decide) (hts (.fieldLink RX3 93 "CellRows2Model" "cycles" "I") (by decide +kernel)) (fun _ h9 => h9) rfl (by decide +kernel) rfl rfl (Nat.le_of_ble_eq_true rfl) dX3_point_219 (fun H29 locs29 hP hD hS => ?_)
                  have hP : va_P D vwCl (wM cm b n (cm_set_cyc (cm_set_low (cm_set_rng U (va_up (cm_rng U) (cm_cyc U) (((mSz (((cm_pts U) ((cm_many U) - 3)) - ((cm_pts U) ((cm_many U) - 2))))).toInt32))) (va_up (cm_low U) (cm_cyc U) (((if (cm_pts U) ((cm_many U) - 3) < ((cm_pts U) ((cm_many U) - 2)) then (cm_pts U) ((cm_many U) - 3) else (cm_pts U) ((cm_many U) - 2))).toInt32))) ((cm_cyc U) + 1))) H29 := hP
                  have hD : va_D A (wM cm b n (cm_set_cyc (cm_set_low (cm_set_rng U (va_up (cm_rng U) (cm_cyc U) (((mSz (((cm_pts U) ((cm_many U) - 3)) - ((cm_pts U) ((cm_many U) - 2))))).toInt32))) (va_up (cm_low U) (cm_cyc U) (((if (cm_pts U) ((cm_many U) - 3) < ((cm_pts U) ((cm_many U) - 2)) then (cm_pts U) ((cm_many U) - 3) else (cm_pts U) ((cm_many U) - 2))).toInt32))) ((cm_cyc U) + 1))) := hD
                  refine lv_aload_n hx hb dX3_point_222 rfl (lv_at hl 5 rfl) ?_
                  refine va_get (D := D) (ci := 4) (v := .ref (b 10)) (C := RX3) (T := TX3) (N := 20) hx hb hts iX3_point_X3 hown hK hP 0 rfl rfl 15 (by decide) (hts (.fieldLink RX3 52 "CellRows2Model" "points" "[J") (by decide +kernel)) (fun _ h9 => h9) rfl dX3_point_223 ?_
                  refine lv_aload_n hx hb dX3_point_226 rfl (lv_at hl 5 rfl) ?_
                  refine va_get (D := D) (ci := 4) (v := .int (nI (cm_many U))) (C := RX3) (T := TX3) (N := 20) hx hb hts iX3_point_X3 hown hK hP 0 rfl rfl 16 (by decide) (hts (.fieldLink RX3 82 "CellRows2Model" "many" "I") (by decide +kernel)) (fun _ h9 => h9) rfl dX3_point_227 ?_
                  refine lv_iconst (v := 3) hx hb dX3_point_230 (by decide) ?_
                  refine lv_isub hx hb dX3_point_231 ?_
                  refine W.eqi (pk_sub (a := (cm_many U)) (b := 3) (by omega)) ?_
                  refine lv_lload hx hb dX3_point_232 (lv_at hl 1 rfl) ?_
                  refine rs_l (f := (cm_pts U)) hx hb hK hP hD hS 10 9 rfl rfl ((cm_many U) - 3) rfl (by omega) (Nat.le_of_ble_eq_true rfl) dX3_point_234 (fun H30 locs30 hP hD hS => ?_)
                  have hP : va_P D vwCl (wM cm b n (cm_set_pts (cm_set_cyc (cm_set_low (cm_set_rng U (va_up (cm_rng U) (cm_cyc U) (((mSz (((cm_pts U) ((cm_many U) - 3)) - ((cm_pts U) ((cm_many U) - 2))))).toInt32))) (va_up (cm_low U) (cm_cyc U) (((if (cm_pts U) ((cm_many U) - 3) < ((cm_pts U) ((cm_many U) - 2)) then (cm_pts U) ((cm_many U) - 3) else (cm_pts U) ((cm_many U) - 2))).toInt32))) ((cm_cyc U) + 1)) (va_up (cm_pts U) ((cm_many U) - 3) ((cm_pts U) ((cm_many U) - 1))))) H30 := hP
                  have hD : va_D A (wM cm b n (cm_set_pts (cm_set_cyc (cm_set_low (cm_set_rng U (va_up (cm_rng U) (cm_cyc U) (((mSz (((cm_pts U) ((cm_many U) - 3)) - ((cm_pts U) ((cm_many U) - 2))))).toInt32))) (va_up (cm_low U) (cm_cyc U) (((if (cm_pts U) ((cm_many U) - 3) < ((cm_pts U) ((cm_many U) - 2)) then (cm_pts U) ((cm_many U) - 3) else (cm_pts U) ((cm_many U) - 2))).toInt32))) ((cm_cyc U) + 1)) (va_up (cm_pts U) ((cm_many U) - 3) ((cm_pts U) ((cm_many U) - 1))))) := hD
                  refine lv_aload_n hx hb dX3_point_235 rfl (lv_at hl 5 rfl) ?_
                  refine lv_aload_n hx hb dX3_point_236 rfl (lv_at hl 5 rfl) ?_
                  refine va_get (D := D) (ci := 4) (v := .int (nI (cm_many U))) (C := RX3) (T := TX3) (N := 20) hx hb hts iX3_point_X3 hown hK hP 0 rfl rfl 16 (by decide) (hts (.fieldLink RX3 82 "CellRows2Model" "many" "I") (by decide +kernel)) (fun _ h9 => h9) rfl dX3_point_237 ?_
                  refine lv_iconst (v := 2) hx hb dX3_point_240 (by decide) ?_
                  refine lv_isub hx hb dX3_point_241 ?_
                  refine W.eqi (pk_sub (a := (cm_many U)) (b := 2) (by omega)) ?_
                  refine va_put (D := D) (ci := 4) (v := .int (nI ((cm_many U) - 2))) (ty := .int) (C := RX3) (T := TX3) (N := 20) hx hb hts iX3_point_X3 tyX3 tyX3_ok nmX3 hown hK hP hD hS 0 rfl rfl 16 (by decide) (hts (.fieldLink RX3 82 "CellRows2Model" "many" "I") (by decide +kernel)) (fun _ h9 => h9) rfl (by decide +kernel) rfl rfl (Nat.le_of_ble_eq_true rfl) dX3_point_242 (fun H31 locs31 hP hD hS => ?_)
                  have hP : va_P D vwCl (wM cm b n (cm_set_many (cm_set_pts (cm_set_cyc (cm_set_low (cm_set_rng U (va_up (cm_rng U) (cm_cyc U) (((mSz (((cm_pts U) ((cm_many U) - 3)) - ((cm_pts U) ((cm_many U) - 2))))).toInt32))) (va_up (cm_low U) (cm_cyc U) (((if (cm_pts U) ((cm_many U) - 3) < ((cm_pts U) ((cm_many U) - 2)) then (cm_pts U) ((cm_many U) - 3) else (cm_pts U) ((cm_many U) - 2))).toInt32))) ((cm_cyc U) + 1)) (va_up (cm_pts U) ((cm_many U) - 3) ((cm_pts U) ((cm_many U) - 1)))) ((cm_many U) - 2))) H31 := hP
                  have hD : va_D A (wM cm b n (cm_set_many (cm_set_pts (cm_set_cyc (cm_set_low (cm_set_rng U (va_up (cm_rng U) (cm_cyc U) (((mSz (((cm_pts U) ((cm_many U) - 3)) - ((cm_pts U) ((cm_many U) - 2))))).toInt32))) (va_up (cm_low U) (cm_cyc U) (((if (cm_pts U) ((cm_many U) - 3) < ((cm_pts U) ((cm_many U) - 2)) then (cm_pts U) ((cm_many U) - 3) else (cm_pts U) ((cm_many U) - 2))).toInt32))) ((cm_cyc U) + 1)) (va_up (cm_pts U) ((cm_many U) - 3) ((cm_pts U) ((cm_many U) - 1)))) ((cm_many U) - 2))) := hD
                  refine lv_goto (tgt := 55) hx hb dX3_point_245 (by decide) ?_
                  exact ih ((cm_set_many (cm_set_pts (cm_set_cyc (cm_set_low (cm_set_rng U (va_up (cm_rng U) (cm_cyc U) (((mSz (((cm_pts U) ((cm_many U) - 3)) - ((cm_pts U) ((cm_many U) - 2))))).toInt32))) (va_up (cm_low U) (cm_cyc U) (((if (cm_pts U) ((cm_many U) - 3) < ((cm_pts U) ((cm_many U) - 2)) then (cm_pts U) ((cm_many U) - 3) else (cm_pts U) ((cm_many U) - 2))).toInt32))) ((cm_cyc U) + 1)) (va_up (cm_pts U) ((cm_many U) - 3) ((cm_pts U) ((cm_many U) - 1)))) ((cm_many U) - 2)), ls) _ _ ⟨(by rw [← hT]; simp only [mTco, if_neg h_11, if_pos h_12, if_neg h_15, if_neg h_20, if_neg h_23] <;> rfl), (by show cm_many U - 2 ≤ 2 * k9 + 3; omega), (by show cm_many U - 2 ≤ 500; omega), (by show cm_many U - 2 + 2 * (cm_cyc U + 1) ≤ 514; omega), hP, hD, hS, lv_sub hl [5, 0] rfl⟩
                · refine il_ge (tgt := 208) hx hb dX3_point_199 dX3_point_200 (by decide) (fun h_27 => ?_) (fun h_27 => ?_)
                  · refine lv_lload hx hb dX3_point_208 (lv_at hl 2 rfl) ?_
                    exact J26 _ (by simp only [if_neg h_27])
                  · refine lv_lload hx hb dX3_point_203 (lv_at hl 3 rfl) ?_
                    refine lv_goto (tgt := 210) hx hb dX3_point_205 (by decide) ?_
                    exact J26 _ (by simp only [if_pos h_27])
  · refine iz_eq (tgt := 23) hx hb dX3_point_5 (by decide) (fun h_3 => ?_) (fun h_3 => ?_)
    · refine lv_aload_n hx hb dX3_point_23 rfl (lv_at hl 0 rfl) ?_
      refine va_get (D := D) (ci := 4) (v := .int (nI (cm_many M))) (C := RX3) (T := TX3) (N := 20) hx hb hts iX3_point_X3 hown hK hP 0 rfl rfl 16 (by decide) (hts (.fieldLink RX3 82 "CellRows2Model" "many" "I") (by decide +kernel)) (fun _ h9 => h9) rfl dX3_point_24 ?_
      refine lv_sipush (v := 500) hx hb dX3_point_27 (by decide) ?_
      refine ib_ge (tgt := 53) hx hb dX3_point_30 (by decide) (fun h_4 => ?_) (fun h_4 => ?_)
      · exact J2 M _ _ ⟨by first | rfl | (simp only [mPut, if_pos h_3, if_neg h_4]), hP, hD, hS⟩
      · have g5 : cm_many M < 500 := nI_islt (b := 500) (by omega) (by omega) h_4
        refine lv_aload_n hx hb dX3_point_33 rfl (lv_at hl 0 rfl) ?_
        refine va_get (D := D) (ci := 4) (v := .ref (b 10)) (C := RX3) (T := TX3) (N := 20) hx hb hts iX3_point_X3 hown hK hP 0 rfl rfl 15 (by decide) (hts (.fieldLink RX3 52 "CellRows2Model" "points" "[J") (by decide +kernel)) (fun _ h9 => h9) rfl dX3_point_34 ?_
        refine lv_aload_n hx hb dX3_point_37 rfl (lv_at hl 0 rfl) ?_
        refine va_get (D := D) (ci := 4) (v := .int (nI (cm_many M))) (C := RX3) (T := TX3) (N := 20) hx hb hts iX3_point_X3 hown hK hP 0 rfl rfl 16 (by decide) (hts (.fieldLink RX3 82 "CellRows2Model" "many" "I") (by decide +kernel)) (fun _ h9 => h9) rfl dX3_point_38 ?_
        refine lv_lload_n hx hb dX3_point_41 rfl (lv_at hl 1 rfl) ?_
        refine rs_l (f := (cm_pts M)) hx hb hK hP hD hS 10 9 rfl rfl (cm_many M) rfl (by omega) (Nat.le_of_ble_eq_true rfl) dX3_point_42 (fun H5 locs5 hP hD hS => ?_)
        have hP : va_P D vwCl (wM cm b n (cm_set_pts M (va_up (cm_pts M) (cm_many M) v))) H5 := hP
        have hD : va_D A (wM cm b n (cm_set_pts M (va_up (cm_pts M) (cm_many M) v))) := hD
        refine lv_aload_n hx hb dX3_point_43 rfl (lv_at hl 0 rfl) ?_
        refine lv_dup hx hb dX3_point_44 rfl ?_
        refine va_get (D := D) (ci := 4) (v := .int (nI (cm_many M))) (C := RX3) (T := TX3) (N := 20) hx hb hts iX3_point_X3 hown hK hP 0 rfl rfl 16 (by decide) (hts (.fieldLink RX3 82 "CellRows2Model" "many" "I") (by decide +kernel)) (fun _ h9 => h9) rfl dX3_point_45 ?_
        refine lv_iconst (v := 1) hx hb dX3_point_48 (by decide) ?_
        refine lv_iadd hx hb dX3_point_49 ?_
        refine W.eqi (nI_1 (cm_many M)) ?_
        refine va_put (D := D) (ci := 4) (v := .int (nI ((cm_many M) + 1))) (ty := .int) (C := RX3) (T := TX3) (N := 20) hx hb hts iX3_point_X3 tyX3 tyX3_ok nmX3 hown hK hP hD hS 0 rfl rfl 16 (by decide) (hts (.fieldLink RX3 82 "CellRows2Model" "many" "I") (by decide +kernel)) (fun _ h9 => h9) rfl (by decide +kernel) rfl rfl (Nat.le_of_ble_eq_true rfl) dX3_point_50 (fun H6 locs6 hP hD hS => ?_)
        have hP : va_P D vwCl (wM cm b n (cm_set_many (cm_set_pts M (va_up (cm_pts M) (cm_many M) v)) ((cm_many M) + 1))) H6 := hP
        have hD : va_D A (wM cm b n (cm_set_many (cm_set_pts M (va_up (cm_pts M) (cm_many M) v)) ((cm_many M) + 1))) := hD
        exact J2 (cm_set_many (cm_set_pts M (va_up (cm_pts M) (cm_many M) v)) ((cm_many M) + 1)) _ _ ⟨by first | rfl | (simp only [mPut, if_pos h_3, if_pos h_4]), hP, hD, hS⟩
    · have g1 : 1 ≤ cm_many M := mGo_pos h_3
      refine lv_aload_n hx hb dX3_point_8 rfl (lv_at hl 0 rfl) ?_
      refine va_get (D := D) (ci := 4) (v := .ref (b 10)) (C := RX3) (T := TX3) (N := 20) hx hb hts iX3_point_X3 hown hK hP 0 rfl rfl 15 (by decide) (hts (.fieldLink RX3 52 "CellRows2Model" "points" "[J") (by decide +kernel)) (fun _ h9 => h9) rfl dX3_point_9 ?_
      refine lv_aload_n hx hb dX3_point_12 rfl (lv_at hl 0 rfl) ?_
      refine va_get (D := D) (ci := 4) (v := .int (nI (cm_many M))) (C := RX3) (T := TX3) (N := 20) hx hb hts iX3_point_X3 hown hK hP 0 rfl rfl 16 (by decide) (hts (.fieldLink RX3 82 "CellRows2Model" "many" "I") (by decide +kernel)) (fun _ h9 => h9) rfl dX3_point_13 ?_
      refine lv_iconst (v := 1) hx hb dX3_point_16 (by decide) ?_
      refine lv_isub hx hb dX3_point_17 ?_
      refine W.eqi (pk_sub (a := (cm_many M)) (b := 1) (by omega)) ?_
      refine lv_lload_n hx hb dX3_point_18 rfl (lv_at hl 1 rfl) ?_
      refine rs_l (f := (cm_pts M)) hx hb hK hP hD hS 10 9 rfl rfl ((cm_many M) - 1) rfl (by omega) (Nat.le_of_ble_eq_true rfl) dX3_point_19 (fun H7 locs7 hP hD hS => ?_)
      have hP : va_P D vwCl (wM cm b n (cm_set_pts M (va_up (cm_pts M) ((cm_many M) - 1) v))) H7 := hP
      have hD : va_D A (wM cm b n (cm_set_pts M (va_up (cm_pts M) ((cm_many M) - 1) v))) := hD
      refine lv_goto (tgt := 53) hx hb dX3_point_20 (by decide) ?_
      exact J2 (cm_set_pts M (va_up (cm_pts M) ((cm_many M) - 1) v)) _ _ ⟨by first | rfl | (simp only [mPut, if_neg h_3]), hP, hD, hS⟩
end
