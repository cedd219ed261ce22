/-! a step: what the turns leave alone -/
theorem sTco1_flt (S : CS) : cs_flt (sTco1 S) = cs_flt S := by
  unfold sTco1 sKeep
  simp only [cg_flt_pc, cg_flt_pts, cg_flt_cyc, cg_flt_low, cg_flt_rng]
theorem sTco_flt : ∀ (k : Nat) (S : CS), cs_flt (sTco k S) = cs_flt S
  | 0, S => rfl
  | k + 1, S => by
    unfold sTco
    split
    · rfl
    · split
      · rfl
      · split
        · rfl
        · exact (sTco_flt k (sTco1 S)).trans (sTco1_flt S)
theorem sPut_flt (S : CS) (v : Int64) : cs_flt (sPut S v) = cs_flt S := by
  unfold sPut
  split
  · split
    · rfl
    · rfl
  · rfl
theorem sFo_flt (S : CS) (j : Nat) : cs_flt (sFo S j) = cs_flt S := by
  unfold sFo
  split
  · exact (sTco_flt 250 _).trans (sPut_flt S _)
  · rfl
theorem mTco1_k2 (M : MS) : cm_flt (mTco1 M) = cm_flt M ∧ cm_vo (mTco1 M) = cm_vo M ∧ cm_wa (mTco1 M) = cm_wa M ∧ cm_st (mTco1 M) = cm_st M ∧ cm_steps (mTco1 M) = cm_steps M ∧ cm_beg (mTco1 M) = cm_beg M ∧ cm_stk (mTco1 M) = cm_stk M := by
  unfold mTco1 mTcoA
  simp only [mg_flt_many, mg_flt_pts, mg_flt_cyc, mg_flt_low, mg_flt_rng, mg_vo_many, mg_vo_pts, mg_vo_cyc, mg_vo_low, mg_vo_rng, mg_wa_many, mg_wa_pts, mg_wa_cyc, mg_wa_low, mg_wa_rng, mg_st_many, mg_st_pts, mg_st_cyc, mg_st_low, mg_st_rng, mg_steps_many, mg_steps_pts, mg_steps_cyc, mg_steps_low, mg_steps_rng, mg_beg_many, mg_beg_pts, mg_beg_cyc, mg_beg_low, mg_beg_rng, mg_stk_many, mg_stk_pts, mg_stk_cyc, mg_stk_low, mg_stk_rng, and_self]
theorem mTco_k2 : ∀ (k : Nat) (M : MS), cm_flt (mTco k M) = cm_flt M ∧ cm_vo (mTco k M) = cm_vo M ∧ cm_wa (mTco k M) = cm_wa M ∧ cm_st (mTco k M) = cm_st M ∧ cm_steps (mTco k M) = cm_steps M ∧ cm_beg (mTco k M) = cm_beg M ∧ cm_stk (mTco k M) = cm_stk M
  | 0, M => ⟨rfl, rfl, rfl, rfl, rfl, rfl, rfl⟩
  | k + 1, M => by
    unfold mTco
    split
    · split
      · exact ⟨rfl, rfl, rfl, rfl, rfl, rfl, rfl⟩
      · split
        · exact ⟨rfl, rfl, rfl, rfl, rfl, rfl, rfl⟩
        · have a := mTco_k2 k (mTco1 M)
          have b := mTco1_k2 M
          exact ⟨a.1.trans b.1, a.2.1.trans b.2.1, a.2.2.1.trans b.2.2.1, a.2.2.2.1.trans b.2.2.2.1, a.2.2.2.2.1.trans b.2.2.2.2.1, a.2.2.2.2.2.1.trans b.2.2.2.2.2.1, a.2.2.2.2.2.2.trans b.2.2.2.2.2.2⟩
    · exact ⟨rfl, rfl, rfl, rfl, rfl, rfl, rfl⟩
theorem mPut_k2 (M : MS) (v : Int64) : cm_flt (mPut M v) = cm_flt M ∧ cm_vo (mPut M v) = cm_vo M ∧ cm_wa (mPut M v) = cm_wa M ∧ cm_st (mPut M v) = cm_st M ∧ cm_steps (mPut M v) = cm_steps M ∧ cm_beg (mPut M v) = cm_beg M ∧ cm_stk (mPut M v) = cm_stk M := by
  unfold mPut
  split
  · split
    · exact ⟨rfl, rfl, rfl, rfl, rfl, rfl, rfl⟩
    · exact ⟨rfl, rfl, rfl, rfl, rfl, rfl, rfl⟩
  · exact ⟨rfl, rfl, rfl, rfl, rfl, rfl, rfl⟩
theorem mPoint_k2 (M : MS) (v : Int64) : cm_flt (mPoint M v) = cm_flt M ∧ cm_vo (mPoint M v) = cm_vo M ∧ cm_wa (mPoint M v) = cm_wa M ∧ cm_st (mPoint M v) = cm_st M ∧ cm_steps (mPoint M v) = cm_steps M ∧ cm_beg (mPoint M v) = cm_beg M ∧ cm_stk (mPoint M v) = cm_stk M := by
  unfold mPoint
  have a := mTco_k2 250 (mPut M v)
  have b := mPut_k2 M v
  exact ⟨a.1.trans b.1, a.2.1.trans b.2.1, a.2.2.1.trans b.2.2.1, a.2.2.2.1.trans b.2.2.2.1, a.2.2.2.2.1.trans b.2.2.2.2.1, a.2.2.2.2.2.1.trans b.2.2.2.2.2.1, a.2.2.2.2.2.2.trans b.2.2.2.2.2.2⟩
theorem mPost_k (M : MS) (j : Nat) (hp : cm_many M ≤ 500) : cm_many (mPost M j) ≤ 500 ∧ cm_many (mPost M j) + 2 * cm_cyc (mPost M j) ≤ cm_many M + 2 * cm_cyc M + 1 ∧ cm_fc (mPost M j) = cm_fc M ∧ cm_th (mPost M j) = cm_th M ∧ cm_ch (mPost M j) = cm_ch M ∧ cm_lim (mPost M j) = cm_lim M ∧ cm_be (mPost M j) = cm_be M ∧ cm_es (mPost M j) = cm_es M ∧ cm_bl (mPost M j) = cm_bl M ∧ cm_flt (mPost M j) = cm_flt M ∧ cm_vo (mPost M j) = cm_vo M ∧ cm_wa (mPost M j) = cm_wa M ∧ cm_st (mPost M j) = cm_st M ∧ cm_steps (mPost M j) = cm_steps M ∧ cm_beg (mPost M j) = cm_beg M ∧ cm_stk (mPost M j) = cm_stk M := by
  unfold mPost
  by_cases h : nI j = 0
  · rw [if_pos h]
    obtain ⟨a1, a2, a3, a4, a5, a6, a7, a8, a9⟩ := mPoint_ok (M := M) (v := cm_ch M 0) hp
    obtain ⟨b1, b2, b3, b4, b5, b6, b7⟩ := mPoint_k2 M (cm_ch M 0)
    exact ⟨a1, a2, a3, a4, a5, a6, a7, a8, a9, b1, b2, b3, b4, b5, b6, b7⟩
  · rw [if_neg h]
    exact ⟨hp, by omega, rfl, rfl, rfl, rfl, rfl, rfl, rfl, rfl, rfl, rfl, rfl, rfl, rfl, rfl⟩
theorem mPoint_first (M : MS) (v : Int64) (h : cm_many M = 0) : mPoint M v = cm_set_many (cm_set_pts M (va_up (cm_pts M) 0 v)) 1 := by
  have e : mPut M v = cm_set_many (cm_set_pts M (va_up (cm_pts M) 0 v)) 1 := by
    unfold mPut
    rw [h]
    rw [if_pos (show mGo (cm_pts M) 0 v = 0 from if_pos rfl), if_pos (show nI 0 < 500 by decide)]
  unfold mPoint
  rw [e]
  have e2 : cm_many (cm_set_many (cm_set_pts M (va_up (cm_pts M) 0 v)) 1) = 1 := rfl
  rw [mTco, e2, if_neg (show ¬ 3 < nI 1 by decide)]
theorem sOuts_m (cur vo wa : Int64) : sOuts cur vo wa = mOutR cur vo wa := by
  unfold sOuts mOutR sOut
  by_cases a1 : cur < (-100000)
  · simp [a1]
  · by_cases a2 : 100000 < cur
    · simp [a1, a2]
    · by_cases a3 : vo < 0
      · simp [a1, a2, a3]
      · by_cases a4 : 10000 < vo
        · simp [a1, a2, a3, a4]
        · by_cases a5 : wa < (-1000)
          · simp [a1, a2, a3, a4, a5]
          · by_cases a6 : 2000 < wa
            · simp [a1, a2, a3, a4, a5, a6]
            · simp [a1, a2, a3, a4, a5, a6]
theorem sTake_all (S : CS) (j : Nat) (cur vo wa cap : Int64) : cs_fc (sTake S j cur vo wa cap) = cs_fc S ∧ cs_flt (sTake S j cur vo wa cap) = cs_flt S ∧ cs_lim (sTake S j cur vo wa cap) = cs_lim S ∧ cs_bl (sTake S j cur vo wa cap) = cs_bl S ∧ cs_st (sTake S j cur vo wa cap) = cs_st S ∧ cs_stk (sTake S j cur vo wa cap) = cs_stk S ∧ cs_pc (sTake S j cur vo wa cap) = cs_pc S ∧ cs_cyc (sTake S j cur vo wa cap) = cs_cyc S ∧ cs_pts (sTake S j cur vo wa cap) = cs_pts S ∧ cs_rng (sTake S j cur vo wa cap) = cs_rng S ∧ cs_low (sTake S j cur vo wa cap) = cs_low S ∧ cs_pre (sTake S j cur vo wa cap) = cs_pre S ∧ cs_be (sTake S j cur vo wa cap) = cs_be S ∧ cs_vo (sTake S j cur vo wa cap) = va_up (cs_vo S) j vo ∧ cs_wa (sTake S j cur vo wa cap) = va_up (cs_wa S) j wa ∧ cs_ch (sTake S j cur vo wa cap) = va_up (cs_ch S) j (cs_ch S j + (if cs_bl S j = 0 then cur else cur - 5)) ∧ cs_es (sTake S j cur vo wa cap) = va_up (cs_es S) j (sEst (cs_es S j) cur vo cap) := by
  unfold sTake
  simp only [cg_fc_es, cg_fc_ch, cg_fc_wa, cg_fc_vo, cg_flt_es, cg_flt_ch, cg_flt_wa, cg_flt_vo, cg_lim_es, cg_lim_ch, cg_lim_wa, cg_lim_vo, cg_bl_es, cg_bl_ch, cg_bl_wa, cg_bl_vo, cg_st_es, cg_st_ch, cg_st_wa, cg_st_vo, cg_stk_es, cg_stk_ch, cg_stk_wa, cg_stk_vo, cg_pc_es, cg_pc_ch, cg_pc_wa, cg_pc_vo, cg_cyc_es, cg_cyc_ch, cg_cyc_wa, cg_cyc_vo, cg_pts_es, cg_pts_ch, cg_pts_wa, cg_pts_vo, cg_rng_es, cg_rng_ch, cg_rng_wa, cg_rng_vo, cg_low_es, cg_low_ch, cg_low_wa, cg_low_vo, cg_pre_es, cg_pre_ch, cg_pre_wa, cg_pre_vo, cg_be_es, cg_be_ch, cg_be_wa, cg_be_vo, cg_vo_es, cg_vo_ch, cg_vo_wa, cg_vo_vo, cg_wa_es, cg_wa_ch, cg_wa_wa, cg_wa_vo, cg_ch_es, cg_ch_ch, cg_ch_wa, cg_ch_vo, cg_es_es, cg_es_ch, cg_es_wa, cg_es_vo, and_self]
theorem mUpd_all (M : MS) (j : Nat) (cur vo wa : Int64) : cm_fc (mUb (mUa M j vo) j wa cur) = cm_fc M ∧ cm_flt (mUb (mUa M j vo) j wa cur) = cm_flt M ∧ cm_lim (mUb (mUa M j vo) j wa cur) = cm_lim M ∧ cm_bl (mUb (mUa M j vo) j wa cur) = cm_bl M ∧ cm_st (mUb (mUa M j vo) j wa cur) = cm_st M ∧ cm_stk (mUb (mUa M j vo) j wa cur) = cm_stk M ∧ cm_many (mUb (mUa M j vo) j wa cur) = cm_many M ∧ cm_cyc (mUb (mUa M j vo) j wa cur) = cm_cyc M ∧ cm_pts (mUb (mUa M j vo) j wa cur) = cm_pts M ∧ cm_rng (mUb (mUa M j vo) j wa cur) = cm_rng M ∧ cm_low (mUb (mUa M j vo) j wa cur) = cm_low M ∧ cm_beg (mUb (mUa M j vo) j wa cur) = cm_beg M ∧ cm_th (mUb (mUa M j vo) j wa cur) = cm_th M ∧ cm_steps (mUb (mUa M j vo) j wa cur) = cm_steps M + 1 ∧ cm_be (mUb (mUa M j vo) j wa cur) = cm_be M ∧ cm_es (mUb (mUa M j vo) j wa cur) = cm_es M ∧ cm_vo (mUb (mUa M j vo) j wa cur) = va_up (cm_vo M) j vo ∧ cm_wa (mUb (mUa M j vo) j wa cur) = va_up (cm_wa M) j wa ∧ cm_ch (mUb (mUa M j vo) j wa cur) = va_up (cm_ch M) j (cm_ch M j + cur - (if cm_bl M j = 0 then 0 else 5)) := by
  unfold mUb mUa
  simp only [mg_fc_ch, mg_fc_wa, mg_fc_vo, mg_fc_steps, mg_flt_ch, mg_flt_wa, mg_flt_vo, mg_flt_steps, mg_lim_ch, mg_lim_wa, mg_lim_vo, mg_lim_steps, mg_bl_ch, mg_bl_wa, mg_bl_vo, mg_bl_steps, mg_st_ch, mg_st_wa, mg_st_vo, mg_st_steps, mg_stk_ch, mg_stk_wa, mg_stk_vo, mg_stk_steps, mg_many_ch, mg_many_wa, mg_many_vo, mg_many_steps, mg_cyc_ch, mg_cyc_wa, mg_cyc_vo, mg_cyc_steps, mg_pts_ch, mg_pts_wa, mg_pts_vo, mg_pts_steps, mg_rng_ch, mg_rng_wa, mg_rng_vo, mg_rng_steps, mg_low_ch, mg_low_wa, mg_low_vo, mg_low_steps, mg_beg_ch, mg_beg_wa, mg_beg_vo, mg_beg_steps, mg_th_ch, mg_th_wa, mg_th_vo, mg_th_steps, mg_steps_ch, mg_steps_wa, mg_steps_vo, mg_steps_steps, mg_be_ch, mg_be_wa, mg_be_vo, mg_be_steps, mg_es_ch, mg_es_wa, mg_es_vo, mg_es_steps, mg_vo_ch, mg_vo_wa, mg_vo_vo, mg_vo_steps, mg_wa_ch, mg_wa_wa, mg_wa_vo, mg_wa_steps, mg_ch_ch, mg_ch_wa, mg_ch_vo, mg_ch_steps, true_and]
  rfl
theorem mUc_all (M : MS) (j : Nat) (cur vo wa : Int64) : cm_fc (mUc M j cur vo wa) = cm_fc M ∧ cm_flt (mUc M j cur vo wa) = cm_flt M ∧ cm_lim (mUc M j cur vo wa) = cm_lim M ∧ cm_bl (mUc M j cur vo wa) = cm_bl M ∧ cm_st (mUc M j cur vo wa) = cm_st M ∧ cm_stk (mUc M j cur vo wa) = cm_stk M ∧ cm_many (mUc M j cur vo wa) = cm_many M ∧ cm_cyc (mUc M j cur vo wa) = cm_cyc M ∧ cm_pts (mUc M j cur vo wa) = cm_pts M ∧ cm_rng (mUc M j cur vo wa) = cm_rng M ∧ cm_low (mUc M j cur vo wa) = cm_low M ∧ cm_beg (mUc M j cur vo wa) = cm_beg M ∧ cm_th (mUc M j cur vo wa) = cm_th M ∧ cm_steps (mUc M j cur vo wa) = cm_steps M ∧ cm_vo (mUc M j cur vo wa) = cm_vo M ∧ cm_wa (mUc M j cur vo wa) = cm_wa M ∧ cm_ch (mUc M j cur vo wa) = cm_ch M ∧ cm_es (mUc M j cur vo wa) = va_up (cm_es M) j (sEst (cm_es M j) cur vo (cm_lim M 5)) ∧ cm_be (mUc M j cur vo wa) = va_up (cm_be M) j (if mBey M cur vo wa = 0 then 0 else cm_be M j + 1) := by
  unfold mUc
  simp only [mg_fc_be, mg_fc_es, mg_flt_be, mg_flt_es, mg_lim_be, mg_lim_es, mg_bl_be, mg_bl_es, mg_st_be, mg_st_es, mg_stk_be, mg_stk_es, mg_many_be, mg_many_es, mg_cyc_be, mg_cyc_es, mg_pts_be, mg_pts_es, mg_rng_be, mg_rng_es, mg_low_be, mg_low_es, mg_beg_be, mg_beg_es, mg_th_be, mg_th_es, mg_steps_be, mg_steps_es, mg_vo_be, mg_vo_es, mg_wa_be, mg_wa_es, mg_ch_be, mg_ch_es, mg_es_be, mg_es_es, mg_be_be, mg_be_es, and_self]
theorem ch_same (a cur : Int64) (b : Int32) : a + (if b = 0 then cur else cur - 5) = a + cur - (if b = 0 then 0 else 5) := by
  by_cases h : b = 0
  · rw [if_pos h, if_pos h, Int64.sub_zero]
  · rw [if_neg h, if_neg h, Int64.sub_eq_add_neg, Int64.sub_eq_add_neg, Int64.add_assoc]
