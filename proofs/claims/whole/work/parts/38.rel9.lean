/-! the start -/
theorem sFol_first (lf : Nat → Int64) : sFol (S00 lf) 50000 = cs_set_pc (cs_set_pts (S00 lf) (va_up (fun _ => 0) 0 50000)) 1 := by
  have e : sPut (S00 lf) 50000 = cs_set_pc (cs_set_pts (S00 lf) (va_up (fun _ => 0) 0 50000)) 1 := by
    unfold sPut
    rw [if_pos (show sGo (cs_pts (S00 lf)) (cs_pc (S00 lf)) 50000 = 0 from if_pos (show nI 0 < 1 by decide)), if_pos (show nI (cs_pc (S00 lf)) < nI 500 from (by decide : nI 0 < nI 500))]
    rfl
  unfold sFol
  rw [e, sTco, if_pos (show nI (cs_pc (cs_set_pc (cs_set_pts (S00 lf) (va_up (fun _ => 0) 0 50000)) 1)) < 4 from (by decide : nI 1 < 4))]
theorem Rel_start {n : Nat} (hn : n ≤ 24) {lf : Nat → Int64} (hl : ∀ j, j < 6 → lf j = lim0 j) : Rel n (sFol (S00 lf) 50000) (M0 24) 0 := by
  rw [sFol_first]
  refine ⟨fun j hj => ?_, fun j hj => ?_, ⟨rfl, Nat.le_refl 0, fun j hj => absurd hj (Nat.not_lt_zero j)⟩, ⟨rfl, Nat.zero_le 3, fun q => ?_, hl, fun j _ => rfl, by decide, by decide⟩, Or.inl ⟨rfl, rfl, rfl, rfl, (show va_up (fun _ => (0 : Int64)) 0 50000 0 = 50000 from if_pos rfl), rfl⟩, ?_⟩
  · have h24 : j < 24 := by omega
    exact ⟨(if_pos h24).symm, (if_pos h24).symm, (if_pos h24).symm, rfl, rfl, (if_pos h24).symm⟩
  · have h24 : j < 24 := by omega
    have e : cm_ch (M0 24) j = 50000 := if_pos h24
    have e2 : cm_es (M0 24) j = 4602678819172646912 := if_pos h24
    rw [e, e2]
    have e3 : (50000 : Int64).toInt = 50000 := rfl
    exact ⟨⟨0, rfl, Nat.le_refl 0⟩, by unfold okD; decide, by rw [e3]; omega, by rw [e3]; omega⟩
  · have q : (0 : Nat) = 2 := q
    omega
  · refine ⟨?_, ?_, ?_⟩
    · show 1 + 2 * 0 ≤ 1 + 0
      omega
    · show 0 ≤ 500
      omega
    · show 1 ≤ 500
      omega
/-- the script's steps: what the calls of the two need of a related pair -/
theorem Rel.need {n k : Nat} {S : CS} {M : MS} (h : Rel n S M k) (hk : k ≤ 511) : cs_fc S + 1 < 1024 ∧ cs_pc S ≤ 500 ∧ cs_pc S + 2 * cs_cyc S ≤ 513 ∧ cs_cyc S ≤ 256 ∧ cm_fc M + 1 < 2048 ∧ cm_many M ≤ 500 ∧ cm_many M + 2 * cm_cyc M ≤ 512 ∧ cm_cyc M ≤ 1024 ∧ cm_st M ≤ 3 ∧ (∀ j, j < n → okD 1026 (cs_es S j)) ∧ (∀ j, j < n → okD 1026 (cm_es M j)) := by
  obtain ⟨hC, hB, ⟨f1, f2, -⟩, ⟨g1, g2, -⟩, hT, ⟨k1, k2, k3⟩⟩ := h
  have hm : cm_many M + 2 * cm_cyc M ≤ cs_pc S + 2 * cs_cyc S := by
    rcases hT with ⟨t1, t2, -⟩ | ⟨-, t1, t2, -⟩
    · omega
    · omega
  exact ⟨by omega, k3, by omega, by omega, by omega, k2, by omega, by omega, g2, fun j hj => by rw [(hC j hj).2.2.2.2.2]; exact (hB j hj).2.1, fun j hj => (hB j hj).2.1⟩
/-! the greatest common divisor -/
theorem mod_half {A B N : Nat} (hB : 0 < B) (hBA : B ≤ A) (hA : A < 2 * N) : A % B < N := by
  have h1 := Nat.mod_lt A hB
  have h2 := Nat.mod_eq_sub_mod hBA
  have h3 := Nat.mod_le (A - B) B
  omega
theorem gcdF_nat : ∀ (m k : Nat) (d r : Int64), r.toInt.natAbs < 2 ^ m → 2 * m + 1 ≤ k → (gcdF k d r).toInt.natAbs = Nat.gcd d.toInt.natAbs r.toInt.natAbs
  | 0, k, d, r, h, hk => by
    obtain ⟨k', rfl⟩ : ∃ k', k = k' + 1 := ⟨k - 1, by omega⟩
    have e0 : r.toInt.natAbs = 0 := by simpa using h
    have e : r = 0 := i64_eq (by rw [Int.natAbs_eq_zero.mp e0]; rfl)
    rw [gcdF, if_pos e, e0, Nat.gcd_zero_right]
  | m + 1, k, d, r, h, hk => by
    obtain ⟨k', rfl⟩ : ∃ k', k = k' + 2 := ⟨k - 2, by omega⟩
    by_cases e : r = 0
    · rw [gcdF, if_pos e, e, show (0 : Int64).toInt.natAbs = 0 from rfl, Nat.gcd_zero_right]
    · have r0 : 0 < r.toInt.natAbs := by
        rcases Nat.eq_zero_or_pos r.toInt.natAbs with q | q
        · exact absurd (i64_eq (by rw [Int.natAbs_eq_zero.mp q]; rfl)) e
        · exact q
      have a1 : (d - d / r * r).toInt.natAbs = d.toInt.natAbs % r.toInt.natAbs := by rw [Jvm.Kit.i64_rem, Int.natAbs_tmod]
      have g1 : Nat.gcd d.toInt.natAbs r.toInt.natAbs = Nat.gcd r.toInt.natAbs (d.toInt.natAbs % r.toInt.natAbs) := by
        rw [Nat.gcd_comm, Nat.gcd_rec, Nat.gcd_comm]
      rw [gcdF, if_neg e, g1]
      by_cases e1 : d - d / r * r = 0
      · rw [gcdF, if_pos e1, ← a1, e1, show (0 : Int64).toInt.natAbs = 0 from rfl, Nat.gcd_zero_right]
      · have a2 : (r - r / (d - d / r * r) * (d - d / r * r)).toInt.natAbs = r.toInt.natAbs % (d - d / r * r).toInt.natAbs := by rw [Jvm.Kit.i64_rem, Int.natAbs_tmod]
        have b0 : 0 < (d - d / r * r).toInt.natAbs := by
          rcases Nat.eq_zero_or_pos (d - d / r * r).toInt.natAbs with q | q
          · exact absurd (i64_eq (by rw [Int.natAbs_eq_zero.mp q]; rfl)) e1
          · exact q
        have b1 : (d - d / r * r).toInt.natAbs < r.toInt.natAbs := by rw [a1]; exact Nat.mod_lt _ r0
        have hl : r.toInt.natAbs < 2 * 2 ^ m := by rw [Nat.pow_succ] at h; omega
        rw [gcdF, if_neg e1, gcdF_nat m k' _ _ (by rw [a2]; exact mod_half b0 (Nat.le_of_lt b1) hl) (by omega), a2, a1]
        rw [Nat.gcd_comm, ← Nat.gcd_rec, Nat.gcd_comm]
