/-! the law's loop: its rows, its bundle, what lies behind a call -/
section LAWR
variable {p : Program} {l : Launch} {e : Env} {R : Room} {s : State} {m : MethodId} {args : Array Value} {below : List Frame} {meth : Method} {c : Code} {H : Heap} {locs : List Loc} {cells slots : Nat} {Q : State → Prop}
variable {pc : Nat} {ls : Array Slot} {rest : List Value} {b L i : Nat} {xs : Nat → Int32}
/-- script[i + j] -/
theorem lw_ld (hx : p.tables.exec = Jvm.exec) (hb : c.code = cL_law) (hX : va_X b L xs s s.heap) (hbl : b < s.heap.size) (hS : va_S (fun q => s.heap.size ≤ q) s.heap H locs) (h0 : ls[0]? = some (.val (.ref b))) (h4 : ls[4]? = some (.val (.int (nI i)))) (hL : L ≤ 4097) (j : Nat) (hj : i + j < L) {n : Int} (hn : Int32.ofInt n = nI j)
    (d0 : decode cL_law pc = .ok (.aload_n 0, 1)) (d1 : decode cL_law (pc + 1) = .ok (.iload 4, 2)) (d2 : decode cL_law (pc + 3) = .ok (.iconst n, 1)) (d3 : decode cL_law (pc + 4) = .ok (.iadd, 1)) (d4 : decode cL_law (pc + 5) = .ok (.iaload, 1))
    (k : W p l e R s m args below meth c H locs cells slots Q (F0 m (pc + 6) ls (.int (xs (i + j)) :: rest))) : W p l e R s m args below meth c H locs cells slots Q (F0 m pc ls rest) := by
  refine lv_aload_n hx hb d0 rfl h0 ?_
  refine lv_iload hx hb d1 h4 ?_
  refine lv_iconst (v := nI j) hx hb d2 hn ?_
  refine lv_iadd hx hb d3 ?_
  refine W.eqi (nI_add i j) ?_
  refine va_sld (A := fun q => s.heap.size ≤ q) hx hb hX hbl (Nat.not_le.mpr hbl) hS (vp_in_nI hj (by omega)) d4 ?_
  rw [nI_clamp (by omega)]
  exact k
theorem lw_ldb (hx : p.tables.exec = Jvm.exec) (hb : c.code = cL_law) (hX : va_X b L xs s s.heap) (hbl : b < s.heap.size) (hS : va_S (fun q => s.heap.size ≤ q) s.heap H locs) (h0 : ls[0]? = some (.val (.ref b))) (h4 : ls[4]? = some (.val (.int (nI i)))) (hL : L ≤ 4097) (j : Nat) (hj : i + j < L) {n : Int} (hn : (Int8.ofInt n).toInt32 = nI j)
    (d0 : decode cL_law pc = .ok (.aload_n 0, 1)) (d1 : decode cL_law (pc + 1) = .ok (.iload 4, 2)) (d2 : decode cL_law (pc + 3) = .ok (.bipush n, 2)) (d3 : decode cL_law (pc + 5) = .ok (.iadd, 1)) (d4 : decode cL_law (pc + 6) = .ok (.iaload, 1))
    (k : W p l e R s m args below meth c H locs cells slots Q (F0 m (pc + 7) ls (.int (xs (i + j)) :: rest))) : W p l e R s m args below meth c H locs cells slots Q (F0 m pc ls rest) := by
  refine lv_aload_n hx hb d0 rfl h0 ?_
  refine lv_iload hx hb d1 h4 ?_
  refine lv_bipush (v := nI j) hx hb d2 hn ?_
  refine lv_iadd hx hb d3 ?_
  refine W.eqi (nI_add i j) ?_
  refine va_sld (A := fun q => s.heap.size ≤ q) hx hb hX hbl (Nat.not_le.mpr hbl) hS (vp_in_nI hj (by omega)) d4 ?_
  rw [nI_clamp (by omega)]
  exact k
/-- a long of two ints -/
def lng (hi lo : Int32) : Int64 := (hi.toInt64 <<< ((32 : Int32).toInt64 &&& 63)) ||| (lo.toInt64 &&& 4294967295)
theorem lw_hi (hx : p.tables.exec = Jvm.exec) (hb : c.code = cL_law) {hi : Int32} (d0 : decode cL_law pc = .ok (.i2l, 1)) (d1 : decode cL_law (pc + 1) = .ok (.bipush 32, 2)) (d2 : decode cL_law (pc + 3) = .ok (.lshl, 1))
    (k : W p l e R s m args below meth c H locs cells slots Q (F0 m (pc + 4) ls (.long (hi.toInt64 <<< ((32 : Int32).toInt64 &&& 63)) :: rest))) : W p l e R s m args below meth c H locs cells slots Q (F0 m pc ls (.int hi :: rest)) := by
  refine lv_i2l hx hb d0 rfl ?_
  refine lv_bipush (v := 32) hx hb d1 (by decide) ?_
  exact lv_lshl hx hb d2 rfl k
theorem lw_lo (hx : p.tables.exec = Jvm.exec) (hb : c.code = cL_law) (hown : s.vm.findClass RL = some m.cls) (hc : (Cond.constantLong RL 33 (4294967295)).before args s = true) {hi lo : Int32} (d0 : decode cL_law pc = .ok (.i2l, 1)) (d1 : decode cL_law (pc + 1) = .ok (.ldc2_w 33, 3)) (d2 : decode cL_law (pc + 4) = .ok (.land, 1)) (d3 : decode cL_law (pc + 5) = .ok (.lor, 1))
    (k : W p l e R s m args below meth c H locs cells slots Q (F0 m (pc + 6) ls (.long (lng hi lo) :: rest))) : W p l e R s m args below meth c H locs cells slots Q (F0 m pc ls (.int lo :: .long (hi.toInt64 <<< ((32 : Int32).toInt64 &&& 63)) :: rest)) := by
  refine lv_i2l hx hb d0 rfl ?_
  refine lv_ldc2 hx hb hown hc d1 ?_
  refine lv_land hx hb d2 ?_
  exact lv_lor hx hb d3 k
end LAWR
/-- what the law's loop stands on -/
def lwB (p : Program) (l : Launch) (s : State) (m : MethodId) (c : Code) (b L : Nat) (xs : Nat → Int32) (D : va_G) (cy cm : Nat → ClassId) (co : ClassId) (sa1 sa2 : Nat) : Prop :=
  p.tables.exec = Jvm.exec ∧ c.code = cL_law ∧ c.maxLocals = 9 ∧ s.vm.findClass RL = some m.cls ∧ (∀ w ∈ wsL_law, w.before #[Value.ref b] s = true) ∧ va_X b L xs s s.heap ∧ b < s.heap.size ∧ va_K D vwCl (tO co (tX cy)) s ∧ va_K D vwCl (tM cm) s ∧ nwX s ∧ (∀ w ∈ xAL, w.before #[] s = true) ∧ (∀ w ∈ xDL, w.before #[] s = true) ∧ vk_R RX2 69 "there is no such cell" sa1 s ∧ vk_R RX2 103 "the capacity is 0" sa2 s ∧ vx_Zq Bundle.tN "UNASSIGNED_STACK" Bundle.steD (fun q => s.heap.size ≤ q) s s.heap ∧ vx_Zq Bundle.tN "SUPPRESSED_SENTINEL" Bundle.listD (fun q => s.heap.size ≤ q) s s.heap ∧ l.stackTraces = false ∧ L ≤ 4097
abbrev lvL (b a0 b0 o i : Nat) : List (Nat × Value) := [(4, .int (nI i)), (3, .ref o), (2, .ref b0), (1, .ref a0), (0, .ref b)]
/-- what lies behind a call of the loop: pc 759, the two in step -/
def lwJ (p : Program) (l : Launch) (e : Env) (s : State) (m : MethodId) (below : List Frame) (meth : Method) (c : Code) (b : Nat) (D : va_G) (cy cm : Nat → ClassId) (a bb : Nat → Nat) (n : Nat) (co : ClassId) (o : Nat) (i k cells slots : Nat) (Q : State → Prop) : Prop :=
  ∀ (S : CS) (M : MS) (f : Nat → Int64) (H : Heap) (locs : List Loc) (ls : Array Slot), Rel n S M k → LW D cy cm a bb n co o (fun q => s.heap.size ≤ q) S M f H → va_S (fun q => s.heap.size ≤ q) s.heap H locs → lv_has ls 9 (lvL b (a 0) (bb 0) o i) → W p l e room_1 s m #[Value.ref b] below meth c H locs cells slots Q (F0 m 759 ls [])
