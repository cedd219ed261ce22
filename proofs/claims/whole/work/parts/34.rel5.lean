/-! a step keeps the relation, and the answers are the same -/
theorem RT_turn {S S' : CS} {M M' : MS} (h : RT S M) (h1 : cs_pc S' = cs_pc S) (h2 : cs_cyc S' = cs_cyc S) (h3 : cs_pts S' = cs_pts S) (h4 : cs_rng S' = cs_rng S) (h5 : cs_low S' = cs_low S) (g1 : cm_many M' = cm_many M) (g2 : cm_cyc M' = cm_cyc M) (g3 : cm_pts M' = cm_pts M) (g4 : cm_rng M' = cm_rng M) (g5 : cm_low M' = cm_low M) : RT S' M' := by
  unfold RT
  rw [h1, h2, h3, h4, h5, g1, g2, g3, g4, g5]
  exact h
theorem bey_m {S : CS} {M : MS} {j : Nat} {cur vo wa : Int64} (h0 : cs_vo S j = vo) (h1 : cs_wa S j = wa) (hl : ∀ i, i < 6 → cs_lim S i = cm_lim M i) : sBey S j cur = mBey M cur vo wa := by
  unfold sBey mBey sOut
  rw [h0, h1, hl 0 (by omega), hl 1 (by omega), hl 2 (by omega), hl 3 (by omega), labs_mSz]
  by_cases a1 : vo < cm_lim M 0
  · simp [a1]
  · by_cases a2 : cm_lim M 1 < vo
    · simp [a1, a2]
    · by_cases a3 : cm_lim M 2 < wa
      · simp [a1, a2, a3]
      · by_cases a4 : cm_lim M 3 < mSz cur
        · simp [a1, a2, a3, a4]
        · simp [a1, a2, a3, a4]
/-- the state before the reference's first point, and after it -/
theorem pre_m {n k : Nat} {S : CS} {M : MS} (h : Rel n S M k) (j : Nat) (hj : j < n) (hn : 1 ≤ n) (hn2 : n ≤ 24) : RC n S (mPre M j) ∧ RB n (mPre M j) k ∧ RF S (mPre M j) k ∧ RG S (mPre M j) ∧ cm_th (mPre M j) = cm_th M ∧ cm_ch (mPre M j) = cm_ch M ∧ cm_many (mPre M j) ≤ 500 ∧ (j = 0 → 1 ≤ cm_many (mPre M j) ∧ RT S (mPre M j)) ∧ (j ≠ 0 → mPre M j = M) := by
  obtain ⟨hC, hB, hF, hG, hT, hK⟩ := h
  unfold mPre
  by_cases h0 : j = 0
  · subst h0
    rw [if_pos (show nI 0 = 0 from rfl)]
    rcases hT with ⟨t1, t2, t3, t4, t5, t6⟩ | ⟨t1, t2⟩
    · rw [if_pos (show nI (cm_many M) = 0 by rw [t1]; rfl), mPoint_first M _ t1]
      refine ⟨hC, hB, hF, hG, rfl, rfl, by show 1 ≤ 500; omega, fun _ => ⟨Nat.le_refl 1, t3, by rw [t4]; exact t2.symm, fun i hi => ?_, fun i hi => ?_⟩, fun q => absurd rfl q⟩
      · have hi : i < 1 := hi
        have e : i = 0 := by omega
        subst e
        show cs_pts S 0 = va_up (cm_pts M) 0 (cm_ch M 0) 0
        unfold va_up
        rw [if_pos rfl, t5, t6]
      · have hi : i < cm_cyc M := hi
        omega
    · rw [if_neg (show ¬ nI (cm_many M) = 0 from fun q => by have := (nI_eqk (k := 0) (by have := hK.2.1; omega) (by omega)).mp q; omega)]
      exact ⟨hC, hB, hF, hG, rfl, rfl, hK.2.1, fun _ => ⟨t1, t2⟩, fun q => absurd rfl q⟩
  · rw [if_neg (show ¬ nI j = 0 from fun q => h0 ((nI_eqk (k := 0) (by omega) (by omega)).mp q))]
    exact ⟨hC, hB, hF, hG, rfl, rfl, hK.2.1, fun q => absurd q h0, fun _ => rfl⟩
