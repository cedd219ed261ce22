/-! whole: the same of both -/
theorem labs_nat {x : Int64} (h : x.toInt.natAbs < 2147483648) : labs x = lN x.toInt.natAbs := by
  unfold labs
  by_cases c : 0 < x
  · rw [if_pos c]
    have e0 : (0 : Int64).toInt = 0 := rfl
    rw [i64_lt, e0] at c
    exact i64_eq (by rw [lN_toInt (by omega)]; omega)
  · rw [if_neg c]
    have e0 : (0 : Int64).toInt = 0 := rfl
    rw [i64_lt, e0] at c
    exact i64_eq (by rw [lN_toInt (by omega), Int64.toInt_neg, Int.bmod_eq_of_le (by omega) (by omega)]; omega)
theorem s_whole {n k : Nat} {S : CS} {M : MS} (h : Rel n S M k) (hk : k ≤ 511) (p w : Int32) : (∀ j, j < n → mSz (cm_ch M j) = lN (cm_ch M j).toInt.natAbs ∧ (cm_ch M j).toInt.natAbs < 2147483648) ∧ cm_lim M 5 = lN (cm_lim M 5).toInt.natAbs ∧ (cm_lim M 5).toInt.natAbs < 2147483648 ∧ thJ S n p = cm_th (gmWh M n p) ∧ (thJ S n p = 0 → rWx S n p w = rmWh M n p w (fun j => (cm_ch M j).toInt.natAbs) (cm_lim M 5).toInt.natAbs) ∧ Rel n S (gmWh M n p) (k + 1) := by
  have hB := h.2.1
  have hl := h.2.2.2.1.2.2.2.1 5 (by omega)
  have h6 := h.2.2.2.1.2.2.2.2.2
  have bnd : ∀ j, j < n → (cm_ch M j).toInt.natAbs < 2147483648 := fun j hj => by
    have := (hB j hj).2.2
    omega
  have bl : (cm_lim M 5).toInt.natAbs < 2147483648 := by omega
  refine ⟨fun j hj => ⟨by rw [← labs_mSz]; exact labs_nat (bnd j hj), bnd j hj⟩, i64_eq (by rw [lN_toInt (by omega)]; omega), bl, ?_⟩
  unfold thJ gmWh rWx rmWh
  cases hq : ix n p with
  | none => exact ⟨rfl, fun _ => rfl, h.mono.th 0⟩
  | some j =>
    have hj := ix_lt hq
    show (if cs_lim S 5 = 0 then (1 : Int32) else 0) = cm_th (if cm_lim M 5 = 0 then cm_set_th M 1 else cm_set_th M 0) ∧ ((if cs_lim S 5 = 0 then (1 : Int32) else 0) = 0 → (if sGc S j = 0 then (0 : Int64) else if w = 0 then cs_ch S j / sGc S j else cs_lim S 5 / sGc S j) = if cm_lim M 5 = 0 then 0 else if w = 0 then cm_ch M j / lN (Nat.gcd (cm_ch M j).toInt.natAbs (cm_lim M 5).toInt.natAbs) else cm_lim M 5 / lN (Nat.gcd (cm_ch M j).toInt.natAbs (cm_lim M 5).toInt.natAbs)) ∧ Rel n S (if cm_lim M 5 = 0 then cm_set_th M 1 else cm_set_th M 0) (k + 1)
    rw [hl]
    by_cases c : cm_lim M 5 = 0
    · rw [if_pos c, if_pos c]
      exact ⟨rfl, fun q => absurd q (by decide), h.mono.th 1⟩
    · rw [if_neg c, if_neg c, if_neg c]
      refine ⟨rfl, fun _ => ?_, h.mono.th 0⟩
      have p0 : 0 < (cm_lim M 5).toInt.natAbs := by
        rcases Nat.eq_zero_or_pos (cm_lim M 5).toInt.natAbs with q | q
        · exact absurd (i64_eq (by rw [Int.natAbs_eq_zero.mp q]; rfl)) c
        · exact q
      have g0 := gcdF_nat 30 1000 (cm_ch M j) (cm_lim M 5) (by omega) (by omega)
      have g1 := Nat.gcd_le_right (cm_ch M j).toInt.natAbs p0
      have g2 := Nat.gcd_pos_of_pos_right (cm_ch M j).toInt.natAbs p0
      have e : sGc S j = lN (Nat.gcd (cm_ch M j).toInt.natAbs (cm_lim M 5).toInt.natAbs) := by
        unfold sGc
        rw [(h.1 j hj).1, hl, labs_nat (by rw [g0]; omega), g0]
      have ne : ¬ lN (Nat.gcd (cm_ch M j).toInt.natAbs (cm_lim M 5).toInt.natAbs) = 0 := fun q => by
        have q2 := (lN_eq (a := Nat.gcd (cm_ch M j).toInt.natAbs (cm_lim M 5).toInt.natAbs) (b := 0) (by omega) (by omega)).mp q
        omega
      rw [e, if_neg ne, (h.1 j hj).1]
