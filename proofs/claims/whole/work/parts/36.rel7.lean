def FM (n kk k1 : Nat) (S3 : CS) (M3 : MS) (S4 : CS) (M5 : MS) : Prop := RC n S4 M5 ∧ RB n M5 kk ∧ RF S4 M5 k1 ∧ RG S4 M5 ∧ (cs_pc S4 = cs_pc S3 ∧ cs_cyc S4 = cs_cyc S3 ∧ cs_pts S4 = cs_pts S3 ∧ cs_rng S4 = cs_rng S3 ∧ cs_low S4 = cs_low S3) ∧ (cm_many M5 = cm_many M3 ∧ cm_cyc M5 = cm_cyc M3 ∧ cm_pts M5 = cm_pts M3 ∧ cm_rng M5 = cm_rng M3 ∧ cm_low M5 = cm_low M3) ∧ cm_ch M5 = cm_ch M3 ∧ cm_th M5 = cm_th M3 ∧ cm_lim M5 = cm_lim M3
theorem FM.note {n kk k1 : Nat} {S3 : CS} {M3 : MS} {S4 : CS} {M5 : MS} (h : FM n kk k1 S3 M3 S4 M5) (i : Int32) (hk : cm_fc M5 + 1 ≤ 2 * k1) : FM n kk k1 S3 M3 (sNote S4 i) (mNote M5 i) := by
  obtain ⟨a_st, a_pc, a_cyc, a_lim, a_stk, a_pts, a_rng, a_low, a_ch, a_es, a_vo, a_wa, a_be, a_bl, a_pre⟩ := sNote_k S4 i
  obtain ⟨b_st, b_many, b_cyc, b_lim, b_stk, b_pts, b_rng, b_low, b_ch, b_es, b_vo, b_wa, b_be, b_bl, b_steps, b_beg⟩ := mNote_k2 M5 i
  have b_th : cm_th (mNote M5 i) = cm_th M5 := rfl
  obtain ⟨hC, hB, hF, hG, ⟨s1, s2, s3, s4, s5⟩, ⟨m1, m2, m3, m4, m5⟩, h7, h8, h9⟩ := h
  refine ⟨fun j hj => ?_, fun j hj => ?_, RF_note hF hk, ?_, ⟨a_pc.trans s1, a_cyc.trans s2, a_pts.trans s3, a_rng.trans s4, a_low.trans s5⟩, ⟨b_many.trans m1, b_cyc.trans m2, b_pts.trans m3, b_rng.trans m4, b_low.trans m5⟩, b_ch.trans h7, b_th.trans h8, b_lim.trans h9⟩
  · rw [a_ch, a_vo, a_wa, a_be, a_bl, a_es, b_ch, b_vo, b_wa, b_be, b_bl, b_es]; exact hC j hj
  · rw [b_be, b_es, b_ch]; exact hB j hj
  · unfold RG
    rw [a_st, b_st, a_pre, b_steps, b_beg, a_lim, b_lim, a_stk, b_stk]
    exact ⟨rfl, by omega, fun q => absurd q (by omega), hG.2.2.2⟩
theorem flt_m {n kk k : Nat} {S : CS} {M : MS} (hC : RC n S M) (hB : RB n M kk) (hF : RF S M k) (hG : RG S M) (hk : k ≤ 511) (j : Nat) (hj : j < n) (b : Int32) (hb : b = 0 → cm_be M j = 0) (hb2 : b ≠ 0 → 0 < cm_be M j) (cap : Int64) (hcap : cap = cm_lim M 5) : FM n kk (k + 1) S M (gNfs S j) (mF2 (mF1 M j b) j cap) ∧ (rNfs S j = if nI (cm_fc M) < nI (cm_fc (mF2 (mF1 M j b) j cap)) then 1 else 0) := by
  obtain ⟨j1, j2, j3, j4, j5, j6⟩ := hC j hj
  have h0 : FM n kk (k + 1) S M S M := ⟨hC, hB, hF.up, hG, ⟨rfl, rfl, rfl, rfl, rfl⟩, ⟨rfl, rfl, rfl, rfl, rfl⟩, rfl, rfl, rfl⟩
  have hfc := hF.2.1
  have e1 : sTw S j = if b = 0 then 0 else if cm_be M j - cm_be M j / 2 * 2 = 0 then 1 else 0 := by
    unfold sTw
    rw [j4]
    by_cases c : b = 0
    · rw [if_pos c, hb c]; rfl
    · rw [if_neg c, if_pos (hb2 c)]
  have e2 : sWr S j = if cm_ch M j < 0 then 1 else if cap < cm_ch M j then 1 else 0 := by
    unfold sWr sOut
    rw [j1, hG.2.2.2.1 5 (by omega), hcap]
  have lt1 : ∀ x : Nat, x ≤ 1022 → nI x < nI (x + 1) := fun x hx => nI_lt (by omega) (by omega)
  have lt2 : ∀ x : Nat, x ≤ 1022 → nI x < nI (x + 1 + 1) := fun x hx => nI_lt (by omega) (by omega)
  have nlt : ∀ x : Nat, x ≤ 1022 → ¬ nI x < nI x := fun x hx => nI_nlt (Nat.le_refl x) (by omega)
  have wr : ∀ (S4 : CS) (M4 : MS), cm_ch M4 = cm_ch M → FM n kk (k + 1) S M S4 M4 → cm_fc M4 + 1 ≤ 2 * (k + 1) → (sWr S j = 0 → mF2 M4 j cap = M4) ∧ (sWr S j ≠ 0 → mF2 M4 j cap = mNote M4 2) := fun S4 M4 hc _ _ => by
    unfold mF2
    rw [hc, e2]
    by_cases d1 : cm_ch M j < 0
    · rw [if_pos d1, if_pos d1]; exact ⟨fun q => absurd q (by decide), fun _ => rfl⟩
    · rw [if_neg d1, if_neg d1]
      by_cases d2 : cap < cm_ch M j
      · rw [if_pos d2, if_pos d2]; exact ⟨fun q => absurd q (by decide), fun _ => rfl⟩
      · rw [if_neg d2, if_neg d2]; exact ⟨fun _ => rfl, fun q => absurd rfl q⟩
  unfold gNfs rNfs
  have tw : (sTw S j = 0 ∧ mF1 M j b = M) ∨ (sTw S j ≠ 0 ∧ mF1 M j b = mNote M 1) := by
    rw [e1]
    unfold mF1
    by_cases c : b = 0
    · rw [if_pos c, if_pos c]; exact Or.inl ⟨rfl, rfl⟩
    · rw [if_neg c, if_neg c]
      by_cases d : cm_be M j - cm_be M j / 2 * 2 = 0
      · rw [if_pos d, if_pos d]; exact Or.inr ⟨by decide, rfl⟩
      · rw [if_neg d, if_neg d]; exact Or.inl ⟨rfl, rfl⟩
  rcases tw with ⟨t1, t2⟩ | ⟨t1, t2⟩
  · rw [t2, if_pos t1, if_pos t1]
    have w := wr S M rfl h0 (by omega)
    by_cases c : sWr S j = 0
    · rw [w.1 c, if_pos c, if_pos c, if_neg (nlt _ (by omega))]
      exact ⟨h0, rfl⟩
    · rw [w.2 c, if_neg c, if_neg c, mNote_fc, if_pos (lt1 _ (by omega))]
      exact ⟨h0.note 2 (by omega), rfl⟩
  · rw [t2, if_neg t1, if_neg t1]
    have h1 := h0.note 1 (by omega)
    have w := wr (sNote S 1) (mNote M 1) (mNote_k2 M 1).2.2.2.2.2.2.2.2.1 h1 (by rw [mNote_fc]; omega)
    by_cases c : sWr S j = 0
    · rw [w.1 c, if_pos c, mNote_fc, if_pos (lt1 _ (by omega))]
      exact ⟨h1, rfl⟩
    · rw [w.2 c, if_neg c, mNote_fc, mNote_fc, if_pos (lt2 _ (by omega))]
      exact ⟨h1.note 2 (by rw [mNote_fc]; omega), rfl⟩
theorem mTco_ge : ∀ (k : Nat) (M : MS), 1 ≤ cm_many M → cm_many M ≤ 500 → 1 ≤ cm_many (mTco k M)
  | 0, M, h, _ => h
  | k + 1, M, h, hp => by
    unfold mTco
    by_cases c : 3 < nI (cm_many M)
    · rw [if_pos c]
      have c4 := (nI_ltI (a := 3) (b := cm_many M) (by omega) (by omega)).mp c
      have e := (mTco1_keep M).1
      split
      · exact h
      · split
        · exact h
        · exact mTco_ge k (mTco1 M) (by omega) (by omega)
    · rw [if_neg c]; exact h
theorem mPoint_ge (M : MS) (v : Int64) (h : 1 ≤ cm_many M) (hp : cm_many M ≤ 500) : 1 ≤ cm_many (mPoint M v) := by
  unfold mPoint
  refine mTco_ge 250 _ ?_ (mPut_ok hp).1
  unfold mPut
  split
  · split
    · show 1 ≤ cm_many M + 1
      omega
    · exact h
  · exact h
