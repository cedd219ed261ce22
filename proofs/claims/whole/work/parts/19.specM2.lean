/-! a step of the reference -/
def mBey (M : MS) (cur vo wa : Int64) : Int32 := if vo < cm_lim M 0 then 1 else if cm_lim M 1 < vo then 1 else if cm_lim M 2 < wa then 1 else if cm_lim M 3 < mSz cur then 1 else 0
def mUa (M : MS) (j : Nat) (vo : Int64) : MS := cm_set_vo (cm_set_steps M (cm_steps M + 1)) (va_up (cm_vo M) j vo)
def mUb (M : MS) (j : Nat) (wa cur : Int64) : MS := cm_set_ch (cm_set_wa M (va_up (cm_wa M) j wa)) (va_up (cm_ch M) j (cm_ch M j + cur - (if cm_bl M j = 0 then 0 else 5)))
def mUc (M : MS) (j : Nat) (cur vo wa : Int64) : MS := cm_set_be (cm_set_es M (va_up (cm_es M) j (sEst (cm_es M j) cur vo (cm_lim M 5)))) (va_up (cm_be M) j (if mBey M cur vo wa = 0 then 0 else cm_be M j + 1))
def mF1 (M : MS) (j : Nat) (b : Int32) : MS := if b = 0 then M else if cm_be M j - cm_be M j / 2 * 2 = 0 then mNote M 1 else M
def mF2 (M : MS) (j : Nat) (cap : Int64) : MS := if cm_ch M j < 0 then mNote M 2 else if cap < cm_ch M j then mNote M 2 else M
def mPost (M : MS) (j : Nat) : MS := if nI j = 0 then mPoint M (cm_ch M 0) else M
def mOutR (cur vo wa : Int64) : Int32 := if cur < (-100000) then 1 else if 100000 < cur then 1 else if vo < 0 then 1 else if 10000 < vo then 1 else if wa < (-1000) then 1 else if 2000 < wa then 1 else 0
def mS2 (M : MS) (j : Nat) : MS := mPre (cm_set_th M 0) j
def mS2b (M : MS) (j : Nat) (cur vo wa : Int64) : MS := mUb (mUa (mS2 M j) j vo) j wa cur
def mS3 (M : MS) (j : Nat) (cur vo wa : Int64) : MS := mUc (mS2b M j cur vo wa) j cur vo wa
def mS4 (M : MS) (j : Nat) (cur vo wa : Int64) : MS := mF1 (mS3 M j cur vo wa) j (mBey (mS2b M j cur vo wa) cur vo wa)
def mS5 (M : MS) (j : Nat) (cur vo wa : Int64) : MS := mF2 (mS4 M j cur vo wa) j (cm_lim (mS2b M j cur vo wa) 5)
def mS6 (M : MS) (j : Nat) (cur vo wa : Int64) : MS := mPost (mS5 M j cur vo wa) j
def mR6 (M : MS) (j : Nat) (cur vo wa : Int64) : Int32 := if nI (cm_fc (mS3 M j cur vo wa)) < nI (cm_fc (mS6 M j cur vo wa)) then 2 else if mBey (mS2b M j cur vo wa) cur vo wa = 0 then 0 else 1
def rmStep (M : MS) (n : Nat) (p : Int32) (cur vo wa : Int64) : Int32 := if mOutR cur vo wa = 0 then (ix n p).elim 0 (fun j => mR6 M j cur vo wa) else (-2)
def gmStep (M : MS) (n : Nat) (p : Int32) (cur vo wa : Int64) : MS := if mOutR cur vo wa = 0 then (ix n p).elim (cm_set_th M 1) (fun j => mS6 M j cur vo wa) else cm_set_th M 0
theorem mUa_k (M : MS) (j : Nat) (vo : Int64) : cm_many (mUa M j vo) = cm_many M ∧ cm_cyc (mUa M j vo) = cm_cyc M ∧ cm_fc (mUa M j vo) = cm_fc M ∧ cm_lim (mUa M j vo) = cm_lim M ∧ cm_bl (mUa M j vo) = cm_bl M ∧ cm_be (mUa M j vo) = cm_be M ∧ cm_es (mUa M j vo) = cm_es M ∧ cm_ch (mUa M j vo) = cm_ch M ∧ cm_pts (mUa M j vo) = cm_pts M ∧ cm_stk (mUa M j vo) = cm_stk M ∧ cm_st (mUa M j vo) = cm_st M := by
  unfold mUa
  simp only [mg_many_vo, mg_many_steps, mg_cyc_vo, mg_cyc_steps, mg_fc_vo, mg_fc_steps, mg_lim_vo, mg_lim_steps, mg_bl_vo, mg_bl_steps, mg_be_vo, mg_be_steps, mg_es_vo, mg_es_steps, mg_ch_vo, mg_ch_steps, mg_pts_vo, mg_pts_steps, mg_stk_vo, mg_stk_steps, mg_st_vo, mg_st_steps, and_self]
theorem mUb_k (M : MS) (j : Nat) (wa cur : Int64) : cm_many (mUb M j wa cur) = cm_many M ∧ cm_cyc (mUb M j wa cur) = cm_cyc M ∧ cm_fc (mUb M j wa cur) = cm_fc M ∧ cm_lim (mUb M j wa cur) = cm_lim M ∧ cm_bl (mUb M j wa cur) = cm_bl M ∧ cm_be (mUb M j wa cur) = cm_be M ∧ cm_es (mUb M j wa cur) = cm_es M ∧ cm_pts (mUb M j wa cur) = cm_pts M ∧ cm_stk (mUb M j wa cur) = cm_stk M ∧ cm_st (mUb M j wa cur) = cm_st M := by
  unfold mUb
  simp only [mg_many_ch, mg_many_wa, mg_cyc_ch, mg_cyc_wa, mg_fc_ch, mg_fc_wa, mg_lim_ch, mg_lim_wa, mg_bl_ch, mg_bl_wa, mg_be_ch, mg_be_wa, mg_es_ch, mg_es_wa, mg_pts_ch, mg_pts_wa, mg_stk_ch, mg_stk_wa, mg_st_ch, mg_st_wa, and_self]
theorem mUc_k (M : MS) (j : Nat) (cur vo wa : Int64) : cm_many (mUc M j cur vo wa) = cm_many M ∧ cm_cyc (mUc M j cur vo wa) = cm_cyc M ∧ cm_fc (mUc M j cur vo wa) = cm_fc M ∧ cm_lim (mUc M j cur vo wa) = cm_lim M ∧ cm_bl (mUc M j cur vo wa) = cm_bl M ∧ cm_ch (mUc M j cur vo wa) = cm_ch M ∧ cm_pts (mUc M j cur vo wa) = cm_pts M ∧ cm_stk (mUc M j cur vo wa) = cm_stk M ∧ cm_st (mUc M j cur vo wa) = cm_st M := by
  unfold mUc
  simp only [mg_many_be, mg_many_es, mg_cyc_be, mg_cyc_es, mg_fc_be, mg_fc_es, mg_lim_be, mg_lim_es, mg_bl_be, mg_bl_es, mg_ch_be, mg_ch_es, mg_pts_be, mg_pts_es, mg_stk_be, mg_stk_es, mg_st_be, mg_st_es, and_self]
theorem mNote_k (M : MS) (k : Int32) : cm_many (mNote M k) = cm_many M ∧ cm_cyc (mNote M k) = cm_cyc M ∧ cm_lim (mNote M k) = cm_lim M ∧ cm_bl (mNote M k) = cm_bl M ∧ cm_be (mNote M k) = cm_be M ∧ cm_es (mNote M k) = cm_es M ∧ cm_ch (mNote M k) = cm_ch M ∧ cm_pts (mNote M k) = cm_pts M ∧ cm_stk (mNote M k) = cm_stk M := by
  unfold mNote
  simp only [mg_many_st, mg_many_fc, mg_many_flt, mg_cyc_st, mg_cyc_fc, mg_cyc_flt, mg_lim_st, mg_lim_fc, mg_lim_flt, mg_bl_st, mg_bl_fc, mg_bl_flt, mg_be_st, mg_be_fc, mg_be_flt, mg_es_st, mg_es_fc, mg_es_flt, mg_ch_st, mg_ch_fc, mg_ch_flt, mg_pts_st, mg_pts_fc, mg_pts_flt, mg_stk_st, mg_stk_fc, mg_stk_flt, and_self]
theorem mNote_fc (M : MS) (k : Int32) : cm_fc (mNote M k) = cm_fc M + 1 := by
  unfold mNote
  simp only [mg_fc_st, mg_fc_fc]
theorem mF1_k (M : MS) (j : Nat) (b : Int32) : cm_fc M ≤ cm_fc (mF1 M j b) ∧ cm_fc (mF1 M j b) ≤ cm_fc M + 1 ∧ cm_many (mF1 M j b) = cm_many M ∧ cm_cyc (mF1 M j b) = cm_cyc M ∧ cm_lim (mF1 M j b) = cm_lim M ∧ cm_bl (mF1 M j b) = cm_bl M ∧ cm_be (mF1 M j b) = cm_be M ∧ cm_es (mF1 M j b) = cm_es M ∧ cm_ch (mF1 M j b) = cm_ch M ∧ cm_pts (mF1 M j b) = cm_pts M ∧ cm_stk (mF1 M j b) = cm_stk M := by
  unfold mF1
  by_cases h : b = 0
  · rw [if_pos h]; exact ⟨Nat.le_refl _, Nat.le_succ _, rfl, rfl, rfl, rfl, rfl, rfl, rfl, rfl, rfl⟩
  · rw [if_neg h]
    by_cases h2 : cm_be M j - cm_be M j / 2 * 2 = 0
    · rw [if_pos h2]; exact ⟨by rw [mNote_fc]; omega, by rw [mNote_fc]; omega, mNote_k M 1⟩
    · rw [if_neg h2]; exact ⟨Nat.le_refl _, Nat.le_succ _, rfl, rfl, rfl, rfl, rfl, rfl, rfl, rfl, rfl⟩
theorem mF2_k (M : MS) (j : Nat) (cap : Int64) : cm_fc M ≤ cm_fc (mF2 M j cap) ∧ cm_fc (mF2 M j cap) ≤ cm_fc M + 1 ∧ cm_many (mF2 M j cap) = cm_many M ∧ cm_cyc (mF2 M j cap) = cm_cyc M ∧ cm_lim (mF2 M j cap) = cm_lim M ∧ cm_bl (mF2 M j cap) = cm_bl M ∧ cm_be (mF2 M j cap) = cm_be M ∧ cm_es (mF2 M j cap) = cm_es M ∧ cm_ch (mF2 M j cap) = cm_ch M ∧ cm_pts (mF2 M j cap) = cm_pts M ∧ cm_stk (mF2 M j cap) = cm_stk M := by
  unfold mF2
  by_cases h : cm_ch M j < 0
  · rw [if_pos h]; exact ⟨by rw [mNote_fc]; omega, by rw [mNote_fc]; omega, mNote_k M 2⟩
  · rw [if_neg h]
    by_cases h2 : cap < cm_ch M j
    · rw [if_pos h2]; exact ⟨by rw [mNote_fc]; omega, by rw [mNote_fc]; omega, mNote_k M 2⟩
    · rw [if_neg h2]; exact ⟨Nat.le_refl _, Nat.le_succ _, rfl, rfl, rfl, rfl, rfl, rfl, rfl, rfl, rfl⟩
