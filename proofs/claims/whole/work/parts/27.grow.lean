/-! ground of the class's constructor: growing worlds, the clone of an array that is not of the world -/
theorem arrV_congr (cI : ClassId) {N : Nat} {f g : Nat → Value} (h : ∀ j, j < N → f j = g j) : arrV cI N f = arrV cI N g := by
  unfold arrV
  congr 2
  funext j
  exact h j.val j.isLt
section GROW
variable {p : Program} {l : Launch} {e : Env} {R : Room} {s : State} {m : MethodId} {args : Array Value} {below : List Frame} {meth : Method} {c : Code} {H : Heap} {locs : List Loc} {Q : State → Prop}
/-- a loop that pays at each turn -/
theorem W.loopC {α : Type} {g : α → JFrame} (ck sk : Nat → Nat) (P : Nat → α → Heap → List Loc → Prop) (b0 : ∀ v H' L', P 0 v H' L' → W p l e R s m args below meth c H' L' (ck 0) (sk 0) Q (g v)) (st : ∀ k, (∀ v H' L', P k v H' L' → W p l e R s m args below meth c H' L' (ck k) (sk k) Q (g v)) → ∀ v H' L', P (k + 1) v H' L' → W p l e R s m args below meth c H' L' (ck (k + 1)) (sk (k + 1)) Q (g v)) (k : Nat) (v : α) (h : P k v H locs) : W p l e R s m args below meth c H locs (ck k) (sk k) Q (g v) := by
  induction k generalizing v H locs with
  | zero => exact b0 v H locs h
  | succ k ih => exact st k (fun v H' L' hv => ih v hv) v H locs h
end GROW
theorem va_offL {A : Nat → Prop} {D : va_G} {cl : List vw_C} {x : Nat × va_E} {ws : va_W} {H : Heap} (hD : va_D A (ws ++ [x])) (hP : va_P D cl ws H) {k : Nat} {y : Nat × va_E} (hy : ws[k]? = some y) : ¬ va_A [x] H.size y.1 := by
  have hk : k < ws.length := (List.getElem?_eq_some_iff.mp hy).1
  rintro (⟨j, e, h⟩ | h)
  · have hj : j = 0 := by
      have := (List.getElem?_eq_some_iff.mp h).1
      simp at this
      exact this
    subst hj
    have hx : x = (y.1, e) := Option.some.inj h
    have h1 : (ws ++ [x])[k]? = some y := by rw [List.getElem?_append_left hk]; exact hy
    have h2 : (ws ++ [x])[ws.length]? = some x := by rw [List.getElem?_append_right (Nat.le_refl _), Nat.sub_self]; rfl
    have := hD.1 k ws.length y x h1 h2 (by rw [hx])
    omega
  · exact absurd (hP k y hy).lt (by omega)
/-- after a call on the world's last entry: the rest stays, the entry is what the callee left -/
theorem va_last1 {A : Nat → Prop} {D : va_G} {cl : List vw_C} {x : Nat × va_E} {ws w1 : va_W} {H H1 : Heap} (hP : va_P D cl (ws ++ [x]) H) (hD : va_D A (ws ++ [x])) (hk : ∀ q : Nat, q < H.size → ¬ va_A [x] H.size q → H1[q]? = H[q]?) (hP1 : va_P D cl w1 H1) (hD1 : va_D (va_A [x] H.size) w1) (hF : ∀ q, va_A [x] H.size q → A q) : va_P D cl (ws ++ w1) H1 ∧ va_D A (ws ++ w1) := by
  have hPw : va_P D cl ws H := fun k y hy => hP k y (by rw [List.getElem?_append_left (List.getElem?_eq_some_iff.mp hy).1]; exact hy)
  have hDw : va_D A ws := ⟨fun i j p q hi hj => hD.1 i j p q (by rw [List.getElem?_append_left (List.getElem?_eq_some_iff.mp hi).1]; exact hi) (by rw [List.getElem?_append_left (List.getElem?_eq_some_iff.mp hj).1]; exact hj), fun k y hy => hD.2 k y (by rw [List.getElem?_append_left (List.getElem?_eq_some_iff.mp hy).1]; exact hy)⟩
  refine ⟨(hPw.kept (fun k y hy => hk y.1 (hPw k y hy).lt (va_offL hD hPw hy))).app hP1, hDw.app (hD1.weaken (fun k q _ h => hF q.1 h)) (fun i j p q hi hj he => ?_)⟩
  exact absurd (hD1.2 j q hj) (by rw [← he]; exact va_offL hD hPw hi)
theorem va_free1 {A : Nat → Prop} {x : Nat × va_E} {ws : va_W} {H0 H : Heap} {locs : List Loc} (hD : va_D A (ws ++ [x])) (hS : va_S A H0 H locs) (hA : ∀ q, H0.size ≤ q → A q) : ∀ q, va_A [x] H.size q → A q := by
  rintro q (⟨k, e, h⟩ | h)
  · have hj : k = 0 := by
      have := (List.getElem?_eq_some_iff.mp h).1
      simp at this
      exact this
    subst hj
    have hx : x = (q, e) := Option.some.inj h
    have := hD.2 ws.length x (by rw [List.getElem?_append_right (Nat.le_refl _), Nat.sub_self]; rfl)
    rw [hx] at this
    exact this
  · exact hA q (Nat.le_trans hS.1 h)
theorem va_P.tail1 {D : va_G} {cl : List vw_C} {x : Nat × va_E} {ws : va_W} {H : Heap} (h : va_P D cl (ws ++ [x]) H) : va_P D cl [x] H := fun k y hy => by
  have hj : k = 0 := by
    have := (List.getElem?_eq_some_iff.mp hy).1
    simp at this
    exact this
  subst hj
  exact h ws.length y (by rw [List.getElem?_append_right (Nat.le_refl _), Nat.sub_self]; exact hy)
theorem va_D.one {A : Nat → Prop} {x : Nat × va_E} (h : A x.1) : va_D A [x] := by
  have hj : ∀ {k : Nat} {y : Nat × va_E}, [x][k]? = some y → k = 0 ∧ y = x := fun {k y} hy => by
    have h1 := (List.getElem?_eq_some_iff.mp hy).1
    simp at h1
    subst h1
    exact ⟨rfl, (Option.some.inj hy).symm⟩
  exact ⟨fun i j p q hi hq _ => by rw [(hj hi).1, (hj hq).1], fun k q hk => by rw [(hj hk).2]; exact h⟩
/-- an array that is not of the world: that it is one, its class, what it holds (of the rest of its cell nothing is said) -/
def va_at0 (a : Nat) (cA : ClassId) (x : vp_A) (H : Heap) : Prop := ∃ cell : Cell, H[a]? = some cell ∧ cell.cls = cA ∧ cell.slots = (vp_cell cA x).slots ∧ (∀ k, cell.vm ≠ .statics k) ∧ cell.vm ≠ .unknown
section CLN
variable {p : Program} {l : Launch} {e : Env} {R : Room} {s : State} {m : MethodId} {args : Array Value} {below : List Frame} {meth : Method} {c : Code} {H : Heap} {locs : List Loc} {cells slots : Nat} {Q : State → Prop}
variable {cc : ByteArray} {pc : Nat} {ls : Array Slot} {rest : List Value} {D : va_G} {cl : List vw_C} {A : Nat → Prop} {a : Nat} {tys : List (ClassId × FieldType)} {ws : va_W} {H0 : Heap}
theorem va_cloneF (hexec : p.tables.exec = Jvm.exec) (hb : c.code = cc) (hml : c.maxLocals = ls.size) {own ad : String} {index : Nat} (hown : s.vm.findClass own = some m.cls)
    (hlink : (Cond.methodLink own index ⟨ad, "clone", "()Ljava/lang/Object;"⟩).before args s = true) (hsame : (Cond.sameMethod ad "java/lang/Object" "clone" "()Ljava/lang/Object;").before args s = true)
    (hnat : (Cond.native ⟨"java/lang/Object", "clone", "()Ljava/lang/Object;"⟩).before args s = true) (hinst : (Cond.instanceMethod ⟨"java/lang/Object", "clone", "()Ljava/lang/Object;"⟩).before args s = true)
    (hsel : (Cond.selects ad ⟨ad, "clone", "()Ljava/lang/Object;"⟩ ⟨"java/lang/Object", "clone", "()Ljava/lang/Object;"⟩).before args s = true) (hcl : va_Nw (.castable ad "java/lang/Cloneable") s)
    (hK : va_K D cl tys s) (hP : va_P D cl ws H) (hD : va_D A ws) (hS : va_S A H0 H locs) (hA : ∀ q, H0.size ≤ q → A q) {cA : ClassId} {x : vp_A} {ty : FieldType} (ha : va_at0 a cA x H0) (hna : ¬ A a) (ht : ArrOfT s cA ty ∧ va_RA s cA ty)
    (hnm : s.vm.findClass ad = some cA) (hfit : ∀ (i : Nat) (v : Value), (vp_cell cA x).slots[i]? = some v → fits ty v = true)
    (hframes : 1 ≤ R.frames) (hlocals : (rest.map fun v => v.category).sum + 14 ≤ R.locals) (hcells : cells + 1 ≤ R.cells) (hslots : slots + x.1 ≤ R.slots) (hdg : decode cc pc = .ok (.invokevirtual index, 3))
    (kk : ∀ (q : Nat) (H1 : Heap), va_K D cl (tys ++ [(cA, ty)]) s → va_P D cl (ws ++ [(q, .inl (cA, x))]) H1 → va_D A (ws ++ [(q, .inl (cA, x))]) → va_S A H0 H1 locs →
      W p l e R s m args below meth c H1 locs (cells + 1) (slots + x.1) Q (F0 m (pc + 3) ls (.ref q :: rest))) : W p l e R s m args below meth c H locs cells slots Q (F0 m pc ls (.ref a :: rest)) := by
  have hsz : (vp_cell cA x).slots.size = x.1 := by
    obtain ⟨n, f | f | f | f | f⟩ := x <;> exact arrV_size _ _ _
  have hcellE : ({ cls := cA, slots := (vp_cell cA x).slots } : Cell) = vp_cell cA x := by
    obtain ⟨n, f | f | f | f | f⟩ := x <;> rfl
  obtain ⟨cell, k1, k2, k3, k4, k5⟩ := ha
  have hlt : a < H0.size := (Array.getElem?_eq_some_iff.mp k1).1
  obtain ⟨c0, t0', f1, f2, f3⟩ := Cond.castable_spec (va_Nw.use (A := args) rfl hcl)
  obtain rfl : c0 = cA := Option.some.inj (f1.symm.trans hnm)
  intro T hT X
  have hcellT : T.heap[a]? = some cell := by rw [hT, hS.2.1 a hlt hna]; exact k1
  obtain ⟨-, kA, hkA, comp, hkind⟩ := State.isArrayOf_alike X.warmed.alike (ht.1 0 (fun _ => .null))
  obtain ⟨-, kS, hkS, compS, hkindS⟩ := ht.1 0 (fun _ => .null)
  obtain ⟨vm', X', st⟩ := X.cloneArray hexec hown hlink hsame hnat hinst hsel (a := a) (cell := cell) hcellT k4 k5 (by rw [k2]; exact hnm) f2 (by rw [k2]; exact f3)
    (fun i v hv => by
      rw [k3] at hv
      rw [k2]
      have hk' : T.vm.classes[c0]? = some kA := hkA
      simpa [State.fitsSlot, State.slotType?, hk', hkind] using hfit i v hv)
    (g := F0 m pc ls (.ref a :: rest)) rfl (by rw [hml]) rfl (by rw [hb]; exact hdg) hframes (by show 2 * 0 + _ + 14 ≤ _; omega) hcells (by rw [k3, hsz]; exact hslots) (hloader := by rw [k2]; exact Vm.clonesLoader_of_array hkS hkindS)
  rw [k2, k3, hcellE, hsz] at X'
  rw [k2, k3, hcellE] at st
  generalize hH1 : H.push (vp_cell c0 x) = H1
  have z1 : H1.size = H.size + 1 := by rw [← hH1, Array.size_push]
  have e1 : H1[H.size]? = some (vp_cell c0 x) := by rw [← hH1, Array.getElem?_push_size]
  have o1 : ∀ q : Nat, q < H.size → H1[q]? = H[q]? := fun q hq => by rw [← hH1, Array.getElem?_push, if_neg (Nat.ne_of_lt hq)]
  have hk : ∀ (k : Nat) (y : Nat × va_E), ws[k]? = some y → H1[y.1]? = H[y.1]? := fun k y hy => o1 y.1 ((hP k y hy).lt)
  obtain ⟨t, b1, b2⟩ := kk H.size H1 ⟨hK.1, fun k y hy => by
      by_cases hl : k < tys.length
      · rw [List.getElem?_append_left hl] at hy
        exact hK.2 k y hy
      · rw [List.getElem?_append_right (by omega)] at hy
        have hz : k - tys.length < 1 := (List.getElem?_eq_some_iff.mp hy).1
        rw [show k - tys.length = 0 by omega] at hy
        cases hy
        exact ht⟩ ((hP.kept hk).app (fun k y hy => by
      have hz : k < 1 := (List.getElem?_eq_some_iff.mp hy).1
      rw [show k = 0 by omega] at hy
      cases hy
      exact e1)) (hD.push hP rfl (hA _ hS.1)) ⟨Nat.le_trans hS.1 (by omega), fun y h1 h2 => (o1 y (Nat.lt_of_lt_of_le h1 hS.1)).trans (hS.2.1 y h1 h2), hS.2.2⟩
    ((T.setVm vm').pushCell (vp_cell c0 x)) (by rw [← hH1, ← hT]; rfl) X'
  refine ⟨t, st t ?_, b2⟩
  rw [hT]
  exact b1
end CLN
