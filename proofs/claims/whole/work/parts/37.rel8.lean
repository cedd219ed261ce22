theorem step_core {n k : Nat} {S S1 S2 S3 S4 : CS} {M M1 M2 Ux M3 M5 M6 : MS} {b : Int32} (h : Rel n S M k) (hk : k ≤ 511) (hn1 : 1 ≤ n) (hn : n ≤ 24) (j : Nat) (hj : j < n) (cur vo wa : Int64) (d1 : -100000 ≤ cur.toInt) (d2 : cur.toInt ≤ 100000)
    (hM1 : M1 = cm_set_th M 0) (hM2 : M2 = mPre M1 j) (hU : Ux = mUb (mUa M2 j vo) j wa cur) (hb9 : b = mBey Ux cur vo wa) (hM3 : M3 = mUc Ux j cur vo wa) (hM5 : M5 = mF2 (mF1 M3 j b) j (cm_lim Ux 5)) (hM6 : M6 = mPost M5 j)
    (hS1 : S1 = sS1 S j cur vo wa) (hS2 : S2 = sFo S1 j) (hS3 : S3 = sBe S2 j cur) (hS4 : S4 = gNfs S3 j) :
    cm_th M6 = 0 ∧ (if rNfs S3 j = 0 then (if sBey S2 j cur = 0 then (0 : Int32) else 1) else 2) = (if nI (cm_fc M3) < nI (cm_fc M6) then 2 else if b = 0 then 0 else 1) ∧ Rel n S4 M6 (k + 1) := by
  have hr1 : Rel n S M1 k := by rw [hM1]; exact h.th 0
  have e_th : cm_th M1 = 0 := by rw [hM1]; rfl
  have e_ch : cm_ch M1 = cm_ch M := by rw [hM1]; rfl
  have e_many : cm_many M1 = cm_many M := by rw [hM1]; rfl
  have e_cyc : cm_cyc M1 = cm_cyc M := by rw [hM1]; rfl
  have e_pts : cm_pts M1 = cm_pts M := by rw [hM1]; rfl
  have e_rng : cm_rng M1 = cm_rng M := by rw [hM1]; rfl
  have e_low : cm_low M1 = cm_low M := by rw [hM1]; rfl
  obtain ⟨pC, pB, pF, pG, p_th, p_ch, p_many, p_0, p_n⟩ := pre_m hr1 j hj hn1 hn
  rw [← hM2] at pC pB pF pG p_th p_ch p_many p_0 p_n
  obtain ⟨uC, uB, uF, uG, ub⟩ := upd_m pC pB pF pG hk j hj cur vo wa d1 d2
  have eS2 : sS2 S j cur vo wa = S2 := by rw [hS2, hS1]; rfl
  have eS3 : sS3 S j cur vo wa = S3 := by rw [hS3, ← eS2]; rfl
  rw [← hU, ← hM3, eS3] at uC uF uG
  rw [← hU, ← hM3] at uB
  rw [← hU, eS2, ← hb9] at ub
  obtain ⟨t_fc, t_flt, t_lim, t_bl, t_st, t_stk, t_pc, t_cyc, t_pts, t_rng, t_low, t_pre, t_be, t_vo, t_wa, t_ch, t_es⟩ := sTake_all S j cur vo wa (cs_lim S 5)
  obtain ⟨f_fc, f_lim, f_be, f_bl, f_st, f_stk, f_pre, f_ch, f_es, f_vo, f_wa⟩ := sFo_k S1 j
  rw [← hS2] at f_fc f_lim f_be f_bl f_st f_stk f_pre f_ch f_es f_vo f_wa
  obtain ⟨a_fc, a_flt, a_lim, a_bl, a_st, a_stk, a_many, a_cyc, a_pts, a_rng, a_low, a_beg, a_th, a_steps, a_be, a_es, a_vo, a_wa, a_ch⟩ := mUpd_all M2 j cur vo wa
  rw [← hU] at a_fc a_flt a_lim a_bl a_st a_stk a_many a_cyc a_pts a_rng a_low a_beg a_th a_steps a_be a_es a_vo a_wa a_ch
  obtain ⟨c_fc, c_flt, c_lim, c_bl, c_st, c_stk, c_many, c_cyc, c_pts, c_rng, c_low, c_beg, c_th, c_steps, c_vo, c_wa, c_ch, c_es, c_be⟩ := mUc_all Ux j cur vo wa
  rw [← hM3] at c_fc c_flt c_lim c_bl c_st c_stk c_many c_cyc c_pts c_rng c_low c_beg c_th c_steps c_vo c_wa c_ch c_es c_be
  rw [← hb9] at c_be
  have be3 : cm_be M3 j = if b = 0 then 0 else cm_be M2 j + 1 := by
    rw [c_be, a_be]
    exact if_pos rfl
  have hb : b = 0 → cm_be M3 j = 0 := fun q => by rw [be3, if_pos q]
  have hb2 : b ≠ 0 → 0 < cm_be M3 j := fun q => by
    obtain ⟨⟨b0, b1, b2⟩, -⟩ := pB j hj
    rw [be3, if_neg q, b1, nI_1]
    exact nI_lt (a := 0) (b := b0 + 1) (by omega) (by omega)
  obtain ⟨⟨qC, qB, qF, qG, ⟨s1, s2, s3, s4, s5⟩, ⟨m1, m2, m3, m4, m5⟩, q_ch, q_th, q_lim⟩, hr⟩ := flt_m uC uB uF uG hk j hj b hb hb2 (cm_lim Ux 5) (by rw [c_lim])
  rw [← hM5] at qC qB qF qG m1 m2 m3 m4 m5 q_ch q_th q_lim hr
  rw [← hS4] at qC qF qG s1 s2 s3 s4 s5
  have y1 : cm_many M5 = cm_many M2 := m1.trans (c_many.trans a_many)
  have y2 : cm_cyc M5 = cm_cyc M2 := m2.trans (c_cyc.trans a_cyc)
  have y3 : cm_pts M5 = cm_pts M2 := m3.trans (c_pts.trans a_pts)
  have y4 : cm_rng M5 = cm_rng M2 := m4.trans (c_rng.trans a_rng)
  have y5 : cm_low M5 = cm_low M2 := m5.trans (c_low.trans a_low)
  have hp5 : cm_many M5 ≤ 500 := by rw [y1]; exact p_many
  obtain ⟨z1, z2, z_fc, z_th, z_ch, z_lim, z_be, z_es, z_bl, z_flt, z_vo, z_wa, z_st, z_steps, z_beg, z_stk⟩ := mPost_k M5 j hp5
  rw [← hM6] at z1 z2 z_fc z_th z_ch z_lim z_be z_es z_bl z_flt z_vo z_wa z_st z_steps z_beg z_stk
  have w1 : cs_pc S1 = cs_pc S := by rw [hS1]; exact (cg_pc_pre _ _).trans t_pc
  have w2 : cs_cyc S1 = cs_cyc S := by rw [hS1]; exact (cg_cyc_pre _ _).trans t_cyc
  have w3 : cs_pts S1 = cs_pts S := by rw [hS1]; exact (cg_pts_pre _ _).trans t_pts
  have w4 : cs_rng S1 = cs_rng S := by rw [hS1]; exact (cg_rng_pre _ _).trans t_rng
  have w5 : cs_low S1 = cs_low S := by rw [hS1]; exact (cg_low_pre _ _).trans t_low
  have v1 : cs_pc S4 = cs_pc S2 := s1.trans (by rw [hS3]; exact cg_pc_be _ _)
  have v2 : cs_cyc S4 = cs_cyc S2 := s2.trans (by rw [hS3]; exact cg_cyc_be _ _)
  have v3 : cs_pts S4 = cs_pts S2 := s3.trans (by rw [hS3]; exact cg_pts_be _ _)
  have v4 : cs_rng S4 = cs_rng S2 := s4.trans (by rw [hS3]; exact cg_rng_be _ _)
  have v5 : cs_low S4 = cs_low S2 := s5.trans (by rw [hS3]; exact cg_low_be _ _)
  have c3 : cs_ch S3 = cs_ch S1 := by rw [hS3]; exact (cg_ch_be _ _).trans f_ch
  obtain ⟨-, -, -, -, hT, hK⟩ := h
  have turns : RTx S4 M6 ∧ RK S4 M6 (k + 1) := by
    by_cases j0 : j = 0
    · subst j0
      obtain ⟨r1, r2⟩ := p_0 rfl
      have r3 : RT S1 M5 := RT_turn r2 w1 w2 w3 w4 w5 y1 y2 y3 y4 y5
      have ev : cs_ch S1 0 = cm_ch M5 0 := by rw [q_ch, ← (uC 0 hj).1, c3]
      have e2 : S2 = sFol S1 (cs_ch S1 0) := by rw [hS2]; exact if_pos (show nI 0 = 0 from rfl)
      have e6 : M6 = mPoint M5 (cs_ch S1 0) := by rw [hM6, ev]; exact if_pos (show nI 0 = 0 from rfl)
      have r4 : RT S4 M6 := by
        rw [e2] at v1 v2 v3 v4 v5
        rw [e6]
        exact RT_turn (RT_point r3 hp5 _) v1 v2 v3 v4 v5 rfl rfl rfl rfl rfl
      refine ⟨Or.inr ⟨by rw [e6]; exact mPoint_ge _ _ (by rw [y1]; exact r1) hp5, r4⟩, ?_, z1, ?_⟩
      · rw [r4.1, r4.2.1]
        have := r2.1
        have := r2.2.1
        have := hK.1
        omega
      · rw [r4.1]; exact z1
    · have nj : ¬ nI j = 0 := fun q => j0 ((nI_eqk (k := 0) (by omega) (by omega)).mp q)
      have e2 : S2 = S1 := by rw [hS2]; exact if_neg nj
      have e6 : M6 = M5 := by rw [hM6]; exact if_neg nj
      have eM := p_n j0
      rw [e2] at v1 v2 v3 v4 v5
      have ch0 : cm_ch M5 0 = cm_ch M 0 := by
        rw [q_ch, c_ch, a_ch]
        unfold va_up
        rw [if_neg (fun q => j0 q.symm), p_ch, e_ch]
      rw [e6]
      have k1 : cm_many M5 = cm_many M := by rw [y1, eM, e_many]
      have k2 : cm_cyc M5 = cm_cyc M := by rw [y2, eM, e_cyc]
      have k3 : cm_pts M5 = cm_pts M := by rw [y3, eM, e_pts]
      have k4 : cm_rng M5 = cm_rng M := by rw [y4, eM, e_rng]
      have k5 : cm_low M5 = cm_low M := by rw [y5, eM, e_low]
      refine ⟨?_, ?_, by rw [k1]; exact hK.2.1, by rw [v1, w1]; exact hK.2.2⟩
      · unfold RTx RT
        rw [k1, k2, k3, k4, k5, ch0, v1, v2, v3, v4, v5, w1, w2, w3, w4, w5]
        exact hT
      · rw [v1, v2, w1, w2]
        have := hK.1
        omega
  refine ⟨?_, ?_, ⟨fun i hi => ?_, fun i hi => ?_, ?_, ?_, turns.1, turns.2⟩⟩
  · rw [z_th, q_th, c_th, a_th, p_th, e_th]
  · rw [hr, ub, z_fc]
    by_cases d : nI (cm_fc M3) < nI (cm_fc M5)
    · rw [if_pos d, if_pos d, if_neg (by decide)]
    · rw [if_neg d, if_neg d, if_pos rfl]
  · rw [z_ch, z_vo, z_wa, z_be, z_bl, z_es]
    exact qC i hi
  · rw [z_be, z_es, z_ch]
    exact qB i hi
  · unfold RF
    rw [z_fc, z_flt]
    exact qF
  · unfold RG
    rw [z_st, z_steps, z_beg, z_lim, z_stk]
    exact qG
theorem s_step {n k : Nat} {S : CS} {M : MS} (h : Rel n S M k) (hk : k ≤ 511) (hn1 : 1 ≤ n) (hn : n ≤ 24) (p : Int32) (cur vo wa : Int64) : thI n p cur vo wa = cm_th (gmStep M n p cur vo wa) ∧ (thI n p cur vo wa = 0 → rSx S n p cur vo wa = rmStep M n p cur vo wa) ∧ Rel n (gSx S n p cur vo wa) (gmStep M n p cur vo wa) (k + 1) := by
  unfold thI rSx rmStep gSx gmStep
  rw [sOuts_m]
  by_cases c : mOutR cur vo wa = 0
  · simp only [if_pos c]
    cases hq : ix n p with
    | none => exact ⟨rfl, fun q => absurd q (by decide), h.mono.th 1⟩
    | some j =>
      have d1 : ¬ cur < (-100000) := fun q => by
        unfold mOutR at c
        rw [if_pos q] at c
        exact absurd c (by decide)
      have d2 : ¬ 100000 < cur := fun q => by
        unfold mOutR at c
        rw [if_neg d1, if_pos q] at c
        exact absurd c (by decide)
      have x1 : (-100000 : Int64).toInt = -100000 := rfl
      have x2 : (100000 : Int64).toInt = 100000 := rfl
      rw [i64_lt] at d1 d2
      obtain ⟨e1, e2, e3⟩ := step_core (S1 := sS1 S j cur vo wa) (S2 := sS2 S j cur vo wa) (S3 := sS3 S j cur vo wa) (S4 := gNfs (sS3 S j cur vo wa) j) (M1 := cm_set_th M 0) (M2 := mS2 M j) (Ux := mS2b M j cur vo wa) (M3 := mS3 M j cur vo wa) (M5 := mS5 M j cur vo wa) (M6 := mS6 M j cur vo wa) (b := mBey (mS2b M j cur vo wa) cur vo wa) h hk hn1 hn j (ix_lt hq) cur vo wa (by omega) (by omega) rfl rfl rfl rfl rfl rfl rfl rfl rfl rfl rfl
      exact ⟨e1.symm, fun _ => e2, e3⟩
  · simp only [if_neg c]
    exact ⟨rfl, fun _ => by trivial, h.mono.th 0⟩
