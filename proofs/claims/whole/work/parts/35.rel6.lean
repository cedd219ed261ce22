theorem va_up_same {α : Type} {f g : Nat → α} {j i : Nat} {a b : α} (h : a = b) (hi : f i = g i) : va_up f j a i = va_up g j b i := by
  unfold va_up
  by_cases q : i = j
  · rw [if_pos q, if_pos q, h]
  · rw [if_neg q, if_neg q, hi]
theorem i64_add {a b : Int64} (h1 : -9223372036854775808 ≤ a.toInt + b.toInt) (h2 : a.toInt + b.toInt < 9223372036854775808) : (a + b).toInt = a.toInt + b.toInt := by
  rw [Int64.toInt_add]
  exact Int.bmod_eq_of_le (by omega) (by omega)
theorem i64_sub {a b : Int64} (h1 : -9223372036854775808 ≤ a.toInt - b.toInt) (h2 : a.toInt - b.toInt < 9223372036854775808) : (a - b).toInt = a.toInt - b.toInt := by
  rw [Int64.toInt_sub]
  exact Int.bmod_eq_of_le (by omega) (by omega)
theorem upd_m {n k : Nat} {S : CS} {M : MS} (hC : RC n S M) (hB : RB n M k) (hF : RF S M k) (hG : RG S M) (hk : k ≤ 511) (j : Nat) (hj : j < n) (cur vo wa : Int64) (h1 : -100000 ≤ cur.toInt) (h2 : cur.toInt ≤ 100000) : RC n (sS3 S j cur vo wa) (mUc (mUb (mUa M j vo) j wa cur) j cur vo wa) ∧ RB n (mUc (mUb (mUa M j vo) j wa cur) j cur vo wa) (k + 1) ∧ RF (sS3 S j cur vo wa) (mUc (mUb (mUa M j vo) j wa cur) j cur vo wa) k ∧ RG (sS3 S j cur vo wa) (mUc (mUb (mUa M j vo) j wa cur) j cur vo wa) ∧ sBey (sS2 S j cur vo wa) j cur = mBey (mUb (mUa M j vo) j wa cur) cur vo wa := by
  obtain ⟨t_fc, t_flt, t_lim, t_bl, t_st, t_stk, t_pc, t_cyc, t_pts, t_rng, t_low, t_pre, t_be, t_vo, t_wa, t_ch, t_es⟩ := sTake_all S j cur vo wa (cs_lim S 5)
  obtain ⟨f_fc, f_lim, f_be, f_bl, f_st, f_stk, f_pre, f_ch, f_es, f_vo, f_wa⟩ := sFo_k (sS1 S j cur vo wa) j
  have f_flt := sFo_flt (sS1 S j cur vo wa) j
  obtain ⟨a_fc, a_flt, a_lim, a_bl, a_st, a_stk, a_many, a_cyc, a_pts, a_rng, a_low, a_beg, a_th, a_steps, a_be, a_es, a_vo, a_wa, a_ch⟩ := mUpd_all M j cur vo wa
  obtain ⟨c_fc, c_flt, c_lim, c_bl, c_st, c_stk, c_many, c_cyc, c_pts, c_rng, c_low, c_beg, c_th, c_steps, c_vo, c_wa, c_ch, c_es, c_be⟩ := mUc_all (mUb (mUa M j vo) j wa cur) j cur vo wa
  obtain ⟨j1, j2, j3, j4, j5, j6⟩ := hC j hj
  obtain ⟨g1, g2, g3, g4, g5, g6, g7⟩ := hG
  have u_fc : cs_fc (sS2 S j cur vo wa) = _ := f_fc.trans ((cg_fc_pre _ _).trans t_fc)
  have u_flt : cs_flt (sS2 S j cur vo wa) = _ := f_flt.trans ((cg_flt_pre _ _).trans t_flt)
  have u_lim : cs_lim (sS2 S j cur vo wa) = _ := f_lim.trans ((cg_lim_pre _ _).trans t_lim)
  have u_bl : cs_bl (sS2 S j cur vo wa) = _ := f_bl.trans ((cg_bl_pre _ _).trans t_bl)
  have u_st : cs_st (sS2 S j cur vo wa) = _ := f_st.trans ((cg_st_pre _ _).trans t_st)
  have u_stk : cs_stk (sS2 S j cur vo wa) = _ := f_stk.trans ((cg_stk_pre _ _).trans t_stk)
  have u_be : cs_be (sS2 S j cur vo wa) = _ := f_be.trans ((cg_be_pre _ _).trans t_be)
  have u_vo : cs_vo (sS2 S j cur vo wa) = _ := f_vo.trans ((cg_vo_pre _ _).trans t_vo)
  have u_wa : cs_wa (sS2 S j cur vo wa) = _ := f_wa.trans ((cg_wa_pre _ _).trans t_wa)
  have u_ch : cs_ch (sS2 S j cur vo wa) = _ := f_ch.trans ((cg_ch_pre _ _).trans t_ch)
  have u_es : cs_es (sS2 S j cur vo wa) = _ := f_es.trans ((cg_es_pre _ _).trans t_es)
  have u_pre : cs_pre (sS2 S j cur vo wa) = cs_pre S + 1 := f_pre.trans ((cg_pre_pre _ _).trans (by rw [t_pre]))
  have v_fc : cs_fc (sS3 S j cur vo wa) = _ := (cg_fc_be _ _).trans u_fc
  have v_flt : cs_flt (sS3 S j cur vo wa) = _ := (cg_flt_be _ _).trans u_flt
  have v_lim : cs_lim (sS3 S j cur vo wa) = _ := (cg_lim_be _ _).trans u_lim
  have v_bl : cs_bl (sS3 S j cur vo wa) = _ := (cg_bl_be _ _).trans u_bl
  have v_st : cs_st (sS3 S j cur vo wa) = _ := (cg_st_be _ _).trans u_st
  have v_stk : cs_stk (sS3 S j cur vo wa) = _ := (cg_stk_be _ _).trans u_stk
  have v_vo : cs_vo (sS3 S j cur vo wa) = _ := (cg_vo_be _ _).trans u_vo
  have v_wa : cs_wa (sS3 S j cur vo wa) = _ := (cg_wa_be _ _).trans u_wa
  have v_ch : cs_ch (sS3 S j cur vo wa) = _ := (cg_ch_be _ _).trans u_ch
  have v_es : cs_es (sS3 S j cur vo wa) = _ := (cg_es_be _ _).trans u_es
  have v_pre : cs_pre (sS3 S j cur vo wa) = _ := (cg_pre_be _ _).trans u_pre
  have hb : sBey (sS2 S j cur vo wa) j cur = mBey (mUb (mUa M j vo) j wa cur) cur vo wa := bey_m (by rw [u_vo]; exact if_pos rfl) (by rw [u_wa]; exact if_pos rfl) (fun i hi => by rw [u_lim, a_lim]; exact g4 i hi)
  have v_be : cs_be (sS3 S j cur vo wa) = va_up (cs_be S) j (if mBey (mUb (mUa M j vo) j wa cur) cur vo wa = 0 then 0 else cs_be S j + 1) := by
    rw [← hb, ← u_be]
    exact cg_be_be _ _
  refine ⟨fun i hi => ?_, fun i hi => ?_, ?_, ?_, hb⟩
  · obtain ⟨i1, i2, i3, i4, i5, i6⟩ := hC i hi
    rw [v_ch, v_vo, v_wa, v_be, v_bl, v_es, c_ch, c_vo, c_wa, c_be, c_bl, c_es, a_ch, a_vo, a_wa, a_be, a_bl, a_es, a_lim, g4 5 (by omega)]
    exact ⟨va_up_same (by rw [j1, j5, ch_same]) i1, va_up_same rfl i2, va_up_same rfl i3, va_up_same (by rw [j4]) i4, i5, va_up_same (by rw [j6]) i6⟩
  · obtain ⟨⟨b, b1, b2⟩, b3, b4, b5⟩ := hB i hi
    rw [c_ch, c_be, c_es, a_ch, a_be, a_es, a_lim]
    unfold va_up
    by_cases q : i = j
    · subst q
      rw [if_pos rfl, if_pos rfl, if_pos rfl]
      refine ⟨?_, okD_mono (okD_est b3 cur vo (cm_lim M 5)) (by omega), ?_⟩
      · by_cases c : mBey (mUb (mUa M i vo) i wa cur) cur vo wa = 0
        · rw [if_pos c]; exact ⟨0, rfl, by omega⟩
        · rw [if_neg c, b1]; exact ⟨b + 1, nI_1 b, by omega⟩
      · have e1 : (cm_ch M i + cur).toInt = (cm_ch M i).toInt + cur.toInt := i64_add (by omega) (by omega)
        have e0 : (0 : Int64).toInt = 0 := rfl
        have e5 : (5 : Int64).toInt = 5 := rfl
        by_cases c : cm_bl M i = 0
        · rw [if_pos c, i64_sub (by rw [e1, e0]; omega) (by rw [e1, e0]; omega), e1, e0]
          omega
        · rw [if_neg c, i64_sub (by rw [e1, e5]; omega) (by rw [e1, e5]; omega), e1, e5]
          omega
    · rw [if_neg q, if_neg q, if_neg q]
      exact ⟨⟨b, b1, by omega⟩, b3, by omega, by omega⟩
  · unfold RF
    rw [v_fc, v_flt, c_fc, c_flt, a_fc, a_flt]
    exact hF
  · unfold RG
    rw [v_st, v_pre, v_lim, v_stk, c_st, c_steps, c_beg, c_lim, c_stk, a_st, a_steps, a_beg, a_lim, a_stk]
    exact ⟨g1, g2, fun q => by rw [g3 q, i32_step], g4, g5, g6, g7⟩
