/-! ground of the class's constructor: growing worlds, the clone of an array that is not of the world -/
theorem arrV_congr (cI : ClassId) {N : Nat} {f g : Nat → Value} (h : ∀ j, j < N → f j = g j) : arrV cI N f = arrV cI N g := by
  unfold arrV
  congr 2
  funext j
  exact h j.val j.isLt
section GROW
variable {p : Program} {l : Launch} {e : Env} {R : Room} {s : State} {m : MethodId} {args : Array Value} {below : List Frame} {meth : Method} {c : Code} {H : Heap} {locs : List Loc} {Q : State → Prop}
/-- a loop that pays at each turn -/
theorem W.loopC {α : Type} {g : α → JFrame} (ck sk : Nat → Nat) (P : Nat → α → Heap → List Loc → Prop) (b0 : ∀ v H' L', P 0 v H' L' → W p l e R s m args below meth c H' L' (ck 0) (sk 0) Q (g v)) (st : ∀ k, (∀ v H' L', P k v H' L' → W p l e R s m args below meth c H' L' (ck k) (sk k) Q (g v)) → ∀ v H' L', P (k + 1) v H' L' → W p l e R s m args below meth c H' L' (ck (k + 1)) (sk (k + 1)) Q (g v)) (k : Nat) (v : α) (h : P k v H locs) : W p l e R s m args below meth c H locs (ck k) (sk k) Q (g v) := by
  induction k generalizing v H locs with
  | zero => exact b0 v H locs h
  | succ k ih => exact st k (fun v H' L' hv => ih v hv) v H locs h
end GROW
theorem va_offL {A : Nat → Prop} {D : va_G} {cl : List vw_C} {x : Nat × va_E} {ws : va_W} {H : Heap} (hD : va_D A (ws ++ [x])) (hP : va_P D cl ws H) {k : Nat} {y : Nat × va_E} (hy : ws[k]? = some y) : ¬ va_A [x] H.size y.1 := by
  have hk : k < ws.length := (List.getElem?_eq_some_iff.mp hy).1
  rintro (⟨j, e, h⟩ | h)
  · have hj : j = 0 := by
      have := (List.getElem?_eq_some_iff.mp h).1
      simp at this
      exact this
    subst hj
    have hx : x = (y.1, e) := Option.some.inj h
    have h1 : (ws ++ [x])[k]? = some y := by rw [List.getElem?_append_left hk]; exact hy
    have h2 : (ws ++ [x])[ws.length]? = some x := by rw [List.getElem?_append_right (Nat.le_refl _), Nat.sub_self]; rfl
    have := hD.1 k ws.length y x h1 h2 (by rw [hx])
    omega
  · exact absurd (hP k y hy).lt (by omega)
/-- after a call on the world's last entry: the rest stays, the entry is what the callee left -/
theorem va_last1 {A : Nat → Prop} {D : va_G} {cl : List vw_C} {x : Nat × va_E} {ws w1 : va_W} {H H1 : Heap} (hP : va_P D cl (ws ++ [x]) H) (hD : va_D A (ws ++ [x])) (hk : ∀ q : Nat, q < H.size → ¬ va_A [x] H.size q → H1[q]? = H[q]?) (hP1 : va_P D cl w1 H1) (hD1 : va_D (va_A [x] H.size) w1) (hF : ∀ q, va_A [x] H.size q → A q) : va_P D cl (ws ++ w1) H1 ∧ va_D A (ws ++ w1) := by
  have hPw : va_P D cl ws H := fun k y hy => hP k y (by rw [List.getElem?_append_left (List.getElem?_eq_some_iff.mp hy).1]; exact hy)
  have hDw : va_D A ws := ⟨fun i j p q hi hj => hD.1 i j p q (by rw [List.getElem?_append_left (List.getElem?_eq_some_iff.mp hi).1]; exact hi) (by rw [List.getElem?_append_left (List.getElem?_eq_some_iff.mp hj).1]; exact hj), fun k y hy => hD.2 k y (by rw [List.getElem?_append_left (List.getElem?_eq_some_iff.mp hy).1]; exact hy)⟩
  refine ⟨(hPw.kept (fun k y hy => hk y.1 (hPw k y hy).lt (va_offL hD hPw hy))).app hP1, hDw.app (hD1.weaken (fun k q _ h => hF q.1 h)) (fun i j p q hi hj he => ?_)⟩
  exact absurd (hD1.2 j q hj) (by rw [← he]; exact va_offL hD hPw hi)
theorem va_free1 {A : Nat → Prop} {x : Nat × va_E} {ws : va_W} {H0 H : Heap} {locs : List Loc} (hD : va_D A (ws ++ [x])) (hS : va_S A H0 H locs) (hA : ∀ q, H0.size ≤ q → A q) : ∀ q, va_A [x] H.size q → A q := by
  rintro q (⟨k, e, h⟩ | h)
  · have hj : k = 0 := by
      have := (List.getElem?_eq_some_iff.mp h).1
      simp at this
      exact this
    subst hj
    have hx : x = (q, e) := Option.some.inj h
    have := hD.2 ws.length x (by rw [List.getElem?_append_right (Nat.le_refl _), Nat.sub_self]; rfl)
    rw [hx] at this
    exact this
  · exact hA q (Nat.le_trans hS.1 h)
theorem va_P.tail1 {D : va_G} {cl : List vw_C} {x : Nat × va_E} {ws : va_W} {H : Heap} (h : va_P D cl (ws ++ [x]) H) : va_P D cl [x] H := fun k y hy => by
  have hj : k = 0 := by
    have := (List.getElem?_eq_some_iff.mp hy).1
    simp at this
    exact this
  subst hj
  exact h ws.length y (by rw [List.getElem?_append_right (Nat.le_refl _), Nat.sub_self]; exact hy)
theorem va_D.one {A : Nat → Prop} {x : Nat × va_E} (h : A x.1) : va_D A [x] := by
  have hj : ∀ {k : Nat} {y : Nat × va_E}, [x][k]? = some y → k = 0 ∧ y = x := fun {k y} hy => by
    have h1 := (List.getElem?_eq_some_iff.mp hy).1
    simp at h1
    subst h1
    exact ⟨rfl, (Option.some.inj hy).symm⟩
  exact ⟨fun i j p q hi hq _ => by rw [(hj hi).1, (hj hq).1], fun k q hk => by rw [(hj hk).2]; exact h⟩
section CLN
variable {p : Program} {l : Launch} {e : Env} {R : Room} {s : State} {m : MethodId} {args : Array Value} {below : List Frame} {meth : Method} {c : Code} {H : Heap} {locs : List Loc} {cells slots : Nat} {Q : State → Prop}
variable {cc : ByteArray} {pc : Nat} {ls : Array Slot} {rest : List Value} {D : va_G} {cl : List vw_C} {A : Nat → Prop} {a : Nat} {tys : List (ClassId × FieldType)} {ws : va_W} {H0 : Heap}
theorem va_cloneF (hexec : p.tables.exec = Jvm.exec) (hb : c.code = cc) (hml : c.maxLocals = ls.size) {own ad : String} {index : Nat} (hown : s.vm.findClass own = some m.cls)
    (hlink : (Cond.methodLink own index ⟨ad, "clone", "()Ljava/lang/Object;"⟩).before args s = true) (hsame : (Cond.sameMethod ad "java/lang/Object" "clone" "()Ljava/lang/Object;").before args s = true)
    (hnat : (Cond.native ⟨"java/lang/Object", "clone", "()Ljava/lang/Object;"⟩).before args s = true) (hinst : (Cond.instanceMethod ⟨"java/lang/Object", "clone", "()Ljava/lang/Object;"⟩).before args s = true)
    (hsel : (Cond.selects ad ⟨ad, "clone", "()Ljava/lang/Object;"⟩ ⟨"java/lang/Object", "clone", "()Ljava/lang/Object;"⟩).before args s = true) (hcl : va_Nw (.castable ad "java/lang/Cloneable") s)
    (hK : va_K D cl tys s) (hP : va_P D cl ws H) (hD : va_D A ws) (hS : va_S A H0 H locs) (hA : ∀ q, H0.size ≤ q → A q) {cA : ClassId} {x : vp_A} {ty : FieldType} (ha : va_at D cl (a, .inl (cA, x)) H0) (hna : ¬ A a) (ht : ArrOfT s cA ty ∧ va_RA s cA ty)
    (hnm : s.vm.findClass ad = some cA) (hfit : ∀ (i : Nat) (v : Value), (vp_cell cA x).slots[i]? = some v → fits ty v = true)
    (hframes : 1 ≤ R.frames) (hlocals : (rest.map fun v => v.category).sum + 14 ≤ R.locals) (hcells : cells + 1 ≤ R.cells) (hslots : slots + x.1 ≤ R.slots) (hdg : decode cc pc = .ok (.invokevirtual index, 3))
    (kk : ∀ (q : Nat) (H1 : Heap), va_K D cl (tys ++ [(cA, ty)]) s → va_P D cl (ws ++ [(q, .inl (cA, x))]) H1 → va_D A (ws ++ [(q, .inl (cA, x))]) → va_S A H0 H1 locs →
      W p l e R s m args below meth c H1 locs (cells + 1) (slots + x.1) Q (F0 m (pc + 3) ls (.ref q :: rest))) : W p l e R s m args below meth c H locs cells slots Q (F0 m pc ls (.ref a :: rest)) := by
  have haH : H[a]? = H0[a]? := hS.2.1 a ha.lt hna
  have ha1 : va_at D cl (a, .inl (cA, x)) H := ha.kept haH
  have hKt : va_K D cl (tys ++ [(cA, ty)]) s := hK.app ⟨hK.1, fun k y hy => by
    have hj : k = 0 := by
      have := (List.getElem?_eq_some_iff.mp hy).1
      simp at this
      exact this
    subst hj
    cases hy
    exact ht⟩
  have hP1 : va_P D cl (ws ++ [(a, .inl (cA, x))]) H := hP.app (fun k y hy => by
    have hj : k = 0 := by
      have := (List.getElem?_eq_some_iff.mp hy).1
      simp at this
      exact this
    subst hj
    cases hy
    exact ha1)
  have hD1 : va_D (fun q => A q ∨ q = a) (ws ++ [(a, .inl (cA, x))]) := (hD.weaken (fun _ _ _ h => Or.inl h)).app (va_D.one (Or.inr rfl)) (fun i j p q hi hj he => by
    have h2 : A q.1 := by rw [← he]; exact hD.2 i p hi
    have hq : q = (a, .inl (cA, x)) := by
      have h1 := (List.getElem?_eq_some_iff.mp hj).1
      simp at h1
      subst h1
      exact (Option.some.inj hj).symm
    rw [hq] at h2
    exact hna h2)
  have hS1 : va_S (fun q => A q ∨ q = a) H0 H locs := ⟨hS.1, fun q h1 h2 => hS.2.1 q h1 (fun h => h2 (Or.inl h)), fun z hz => Or.inl (hS.2.2 z hz)⟩
  refine va_clone hexec hb hml hown hlink hsame hnat hinst hsel hcl hKt hP1 hD1 hS1 (fun q h => Or.inl (hA q h)) ws.length tys.length (cA := cA) (x := x) (ty := ty) (by rw [List.getElem?_append_right (Nat.le_refl _), Nat.sub_self]; rfl) (by rw [List.getElem?_append_right (Nat.le_refl _), Nat.sub_self]; rfl) hnm hfit hframes hlocals hcells hslots hdg (fun q H1 hK2 hP2 hD2 hS2 => ?_)
  have hPw : va_P D cl ws H1 := fun k y hy => hP2 k y (by rw [List.append_assoc, List.getElem?_append_left (List.getElem?_eq_some_iff.mp hy).1]; exact hy)
  have ha2 : va_at D cl (a, .inl (cA, x)) H1 := hP2 ws.length _ (by rw [List.append_assoc, List.getElem?_append_right (Nat.le_refl _), Nat.sub_self]; rfl)
  have hPq : va_P D cl [(q, .inl (cA, x))] H1 := hP2.tail1
  have haa : H1[a]? = H0[a]? := by
    have e1 : H1[a]? = some (vp_cell cA x) := ha2
    have e2 : H0[a]? = some (vp_cell cA x) := ha
    rw [e1, e2]
  have hqA : A q ∧ ∀ (k : Nat) (y : Nat × va_E), ws[k]? = some y → y.1 ≠ q := by
    have hl : (ws ++ [(a, .inl (cA, x))] ++ [(q, .inl (cA, x))])[ws.length + 1]? = some (q, .inl (cA, x)) := by
      rw [List.getElem?_append_right (by simp)]
      simp
    refine ⟨?_, fun k y hy he => ?_⟩
    · rcases hD2.2 _ _ hl with h | h
      · exact h
      · have := hD2.1 ws.length (ws.length + 1) (a, .inl (cA, x)) (q, .inl (cA, x)) (by rw [List.append_assoc, List.getElem?_append_right (Nat.le_refl _), Nat.sub_self]; rfl) hl h.symm
        omega
    · have hk : k < ws.length := (List.getElem?_eq_some_iff.mp hy).1
      have := hD2.1 k (ws.length + 1) y (q, .inl (cA, x)) (by rw [List.append_assoc, List.getElem?_append_left hk]; exact hy) hl he
      omega
  exact kk q H1 hKt (hPw.app hPq) (hD.app (va_D.one hqA.1) (fun i j p y hi hj he => by
    have hq : y = (q, .inl (cA, x)) := by
      have h1 := (List.getElem?_eq_some_iff.mp hj).1
      simp at h1
      subst h1
      exact (Option.some.inj hj).symm
    rw [hq] at he
    exact hqA.2 i p hi he)) ⟨hS2.1, fun y h1 h2 => by
      by_cases hy : y = a
      · rw [hy]; exact haa
      · exact hS2.2.1 y h1 (fun h => h.elim h2 hy), hS.2.2⟩
end CLN
