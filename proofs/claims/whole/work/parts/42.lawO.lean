/-! the class's part with the array; how many cells -/
section LAWO
variable {D : va_G} {cy cm : Nat → ClassId} {a b : Nat → Nat} {n : Nat} {co : ClassId} {o : Nat} {A : Nat → Prop} {S S' : CS} {M M' : MS} {f f' : Nat → Int64} {H H1 : Heap}
theorem LW.pO (h : LW D cy cm a b n co o A S M f H) : va_P D vwCl (wO co o f (wX cy a n S)) H := fun k q hq => by
  cases k with
  | zero => cases hq; exact h.2.2.1
  | succ k => exact h.1 k q hq
theorem LW.dO (h : LW D cy cm a b n co o A S M f H) : va_D A (wO co o f (wX cy a n S)) := by
  have g : ∀ (k : Nat) (q : Nat × va_E), (wO co o f (wX cy a n S))[k]? = some q → (wO co o f (wX cy a n S ++ wM cm b n M))[k]? = some q := fun k q hq => by
    cases k with
    | zero => exact hq
    | succ k => exact LW.atX (k := k) hq
  exact ⟨fun i j p q hi hj e => h.2.2.2.1 i j p q (g i p hi) (g j q hj) e, fun k q hk => h.2.2.2.2 k q (g k q hk)⟩
theorem LW.onO (h : LW D cy cm a b n co o A S M f H) (hk : ∀ q : Nat, q < H.size → ¬ va_A (wO co o f (wX cy a n S)) H.size q → H1[q]? = H[q]?) (hP1 : va_P D vwCl (wO co o f' (wX cy a n S')) H1) : LW D cy cm a b n co o A S' M f' H1 := by
  refine ⟨fun k q hq => hP1 (k + 1) q hq, h.2.1.kept (fun k q hq => hk q.1 (h.2.1 k q hq).lt ?_), hP1 0 _ rfl, h.addr S' M f'⟩
  rintro (⟨i, e, hi⟩ | hi)
  · cases i with
    | zero =>
      have := h.2.2.2.1 0 _ _ _ hi (LW.atM hq) rfl
      omega
    | succ i =>
      have := h.2.2.2.1 _ _ _ _ (LW.atX (k := i) hi) (LW.atM hq) rfl
      have := (List.getElem?_eq_some_iff.mp (show (wX cy a n S)[i]? = _ from hi)).1
      omega
  · exact absurd (h.2.1 k q hq).lt (by omega)
theorem LW.freeO (h : LW D cy cm a b n co o A S M f H) {H0 : Heap} {locs : List Loc} (hS : va_S A H0 H locs) (hA : ∀ q, H0.size ≤ q → A q) : ∀ q, va_A (wO co o f (wX cy a n S)) H.size q → A q := freeAll h.dO hS hA
end LAWO
theorem clampI_n (p : Int32) : ∃ n : Nat, 1 ≤ n ∧ n ≤ 24 ∧ clampI p = nI n := by
  unfold clampI
  by_cases h1 : p < 1
  · rw [if_pos h1]; exact ⟨8, by omega, by omega, rfl⟩
  · rw [if_neg h1]
    by_cases h2 : 24 < p
    · rw [if_pos h2]; exact ⟨8, by omega, by omega, rfl⟩
    · rw [if_neg h2]
      have e1 : (1 : Int32).toInt = 1 := rfl
      have e2 : (24 : Int32).toInt = 24 := rfl
      have e0 : (0 : Int32).toInt = 0 := rfl
      rw [Int32.lt_iff_toInt_lt] at h1 h2
      obtain ⟨j, hj, rfl⟩ := ix_of (n := 25) (x := p) (by omega) (fun q => by rw [Int32.lt_iff_toInt_lt] at q; omega) (by
        rw [Int32.lt_iff_toInt_lt]
        have e3 : (nI 25).toInt = 25 := rfl
        omega)
      refine ⟨j, ?_, by omega, rfl⟩
      rcases Nat.eq_zero_or_pos j with q | q
      · subst q
        exact absurd (show (nI 0).toInt < (1 : Int32).toInt by decide) h1
      · exact q
