/-! the law's world in its three parts: the class's, the reference's, the one-long array -/
def LW (D : va_G) (cy cm : Nat → ClassId) (a b : Nat → Nat) (n : Nat) (co : ClassId) (o : Nat) (A : Nat → Prop) (S : CS) (M : MS) (f : Nat → Int64) (H : Heap) : Prop := va_P D vwCl (wX cy a n S) H ∧ va_P D vwCl (wM cm b n M) H ∧ va_at D vwCl (o, .inl (co, 1, .inr (.inl f))) H ∧ va_D A (wO co o f (wX cy a n S ++ wM cm b n M))
section LAWW
variable {D : va_G} {cy cm : Nat → ClassId} {a b : Nat → Nat} {n : Nat} {co : ClassId} {o : Nat} {A : Nat → Prop} {S S' : CS} {M M' : MS} {f f' : Nat → Int64} {H H1 : Heap}
theorem LW.addr (S' : CS) (M' : MS) (f' : Nat → Int64) (h : LW D cy cm a b n co o A S M f H) : va_D A (wO co o f' (wX cy a n S' ++ wM cm b n M')) := va_D.addr (by
  show o :: _ = o :: _
  rw [List.map_append, List.map_append, wX_addr cy a n S, wM_addr cm b n M]) h.2.2.2
theorem LW.dX (h : LW D cy cm a b n co o A S M f H) : va_D A (wX cy a n S) := ⟨fun i j p q hi hj e => Nat.succ.inj (h.2.2.2.1 (i + 1) (j + 1) p q (by show (wX cy a n S ++ wM cm b n M)[i]? = _; rw [List.getElem?_append_left (List.getElem?_eq_some_iff.mp hi).1]; exact hi) (by show (wX cy a n S ++ wM cm b n M)[j]? = _; rw [List.getElem?_append_left (List.getElem?_eq_some_iff.mp hj).1]; exact hj) e), fun k q hk => h.2.2.2.2 (k + 1) q (by show (wX cy a n S ++ wM cm b n M)[k]? = _; rw [List.getElem?_append_left (List.getElem?_eq_some_iff.mp hk).1]; exact hk)⟩
theorem LW.atM {k : Nat} {q : Nat × va_E} (hk : (wM cm b n M)[k]? = some q) : (wO co o f (wX cy a n S ++ wM cm b n M))[(wX cy a n S).length + k + 1]? = some q := by
  show (wX cy a n S ++ wM cm b n M)[(wX cy a n S).length + k]? = _
  rw [List.getElem?_append_right (by omega), Nat.add_sub_cancel_left]
  exact hk
theorem LW.atX {k : Nat} {q : Nat × va_E} (hk : (wX cy a n S)[k]? = some q) : (wO co o f (wX cy a n S ++ wM cm b n M))[k + 1]? = some q := by
  show (wX cy a n S ++ wM cm b n M)[k]? = _
  rw [List.getElem?_append_left (List.getElem?_eq_some_iff.mp hk).1]
  exact hk
theorem LW.dM (h : LW D cy cm a b n co o A S M f H) : va_D A (wM cm b n M) := ⟨fun i j p q hi hj e => by
  have := h.2.2.2.1 _ _ p q (LW.atM hi) (LW.atM hj) e
  omega, fun k q hk => h.2.2.2.2 _ q (LW.atM hk)⟩
/-- a call on the class's part -/
theorem LW.onX (h : LW D cy cm a b n co o A S M f H) (hk : ∀ q : Nat, q < H.size → ¬ va_A (wX cy a n S) H.size q → H1[q]? = H[q]?) (hP1 : va_P D vwCl (wX cy a n S') H1) : LW D cy cm a b n co o A S' M f H1 := by
  refine ⟨hP1, h.2.1.kept (fun k q hq => hk q.1 (h.2.1 k q hq).lt ?_), h.2.2.1.kept (hk o h.2.2.1.lt ?_), h.addr S' M f⟩
  · rintro (⟨i, e, hi⟩ | hi)
    · have := h.2.2.2.1 _ _ _ _ (LW.atX hi) (LW.atM hq) rfl
      have := (List.getElem?_eq_some_iff.mp hi).1
      omega
    · exact absurd (h.2.1 k q hq).lt (by omega)
  · rintro (⟨i, e, hi⟩ | hi)
    · have := h.2.2.2.1 0 _ _ _ rfl (LW.atX hi) rfl
      omega
    · exact absurd h.2.2.1.lt (by show ¬ o < H.size; omega)
/-- a call on the reference's part -/
theorem LW.onM (h : LW D cy cm a b n co o A S M f H) (hk : ∀ q : Nat, q < H.size → ¬ va_A (wM cm b n M) H.size q → H1[q]? = H[q]?) (hP1 : va_P D vwCl (wM cm b n M') H1) : LW D cy cm a b n co o A S M' f H1 := by
  refine ⟨h.1.kept (fun k q hq => hk q.1 (h.1 k q hq).lt ?_), hP1, h.2.2.1.kept (hk o h.2.2.1.lt ?_), h.addr S M' f⟩
  · rintro (⟨i, e, hi⟩ | hi)
    · have := h.2.2.2.1 _ _ _ _ (LW.atX hq) (LW.atM hi) rfl
      have := (List.getElem?_eq_some_iff.mp hq).1
      omega
    · exact absurd (h.1 k q hq).lt (by omega)
  · rintro (⟨i, e, hi⟩ | hi)
    · have := h.2.2.2.1 0 _ _ _ rfl (LW.atM hi) rfl
      omega
    · exact absurd h.2.2.1.lt (by show ¬ o < H.size; omega)
theorem LW.freeX (h : LW D cy cm a b n co o A S M f H) {H0 : Heap} {locs : List Loc} (hS : va_S A H0 H locs) (hA : ∀ q, H0.size ≤ q → A q) : ∀ q, va_A (wX cy a n S) H.size q → A q := freeAll h.dX hS hA
theorem LW.freeM (h : LW D cy cm a b n co o A S M f H) {H0 : Heap} {locs : List Loc} (hS : va_S A H0 H locs) (hA : ∀ q, H0.size ≤ q → A q) : ∀ q, va_A (wM cm b n M) H.size q → A q := freeAll h.dM hS hA
end LAWW
