/-! a field of a state with a field written -/
theorem cg_st_st (S : CS) (v : Nat) : cs_st (cs_set_st S v) = v := rfl
theorem cg_st_pre (S : CS) (v : Int32) : cs_st (cs_set_pre S v) = cs_st S := rfl
theorem cg_st_fc (S : CS) (v : Nat) : cs_st (cs_set_fc S v) = cs_st S := rfl
theorem cg_st_pc (S : CS) (v : Nat) : cs_st (cs_set_pc S v) = cs_st S := rfl
theorem cg_st_cyc (S : CS) (v : Nat) : cs_st (cs_set_cyc S v) = cs_st S := rfl
theorem cg_st_lim (S : CS) (v : Nat → Int64) : cs_st (cs_set_lim S v) = cs_st S := rfl
theorem cg_st_stk (S : CS) (v : Nat → Int32) : cs_st (cs_set_stk S v) = cs_st S := rfl
theorem cg_st_flt (S : CS) (v : Nat → Int32) : cs_st (cs_set_flt S v) = cs_st S := rfl
theorem cg_st_pts (S : CS) (v : Nat → Int64) : cs_st (cs_set_pts S v) = cs_st S := rfl
theorem cg_st_rng (S : CS) (v : Nat → Int64) : cs_st (cs_set_rng S v) = cs_st S := rfl
theorem cg_st_low (S : CS) (v : Nat → Int64) : cs_st (cs_set_low S v) = cs_st S := rfl
theorem cg_st_ch (S : CS) (v : Nat → Int64) : cs_st (cs_set_ch S v) = cs_st S := rfl
theorem cg_st_es (S : CS) (v : Nat → UInt64) : cs_st (cs_set_es S v) = cs_st S := rfl
theorem cg_st_vo (S : CS) (v : Nat → Int64) : cs_st (cs_set_vo S v) = cs_st S := rfl
theorem cg_st_wa (S : CS) (v : Nat → Int64) : cs_st (cs_set_wa S v) = cs_st S := rfl
theorem cg_st_be (S : CS) (v : Nat → Int32) : cs_st (cs_set_be S v) = cs_st S := rfl
theorem cg_st_bl (S : CS) (v : Nat → Int32) : cs_st (cs_set_bl S v) = cs_st S := rfl
theorem cg_pre_st (S : CS) (v : Nat) : cs_pre (cs_set_st S v) = cs_pre S := rfl
theorem cg_pre_pre (S : CS) (v : Int32) : cs_pre (cs_set_pre S v) = v := rfl
theorem cg_pre_fc (S : CS) (v : Nat) : cs_pre (cs_set_fc S v) = cs_pre S := rfl
theorem cg_pre_pc (S : CS) (v : Nat) : cs_pre (cs_set_pc S v) = cs_pre S := rfl
theorem cg_pre_cyc (S : CS) (v : Nat) : cs_pre (cs_set_cyc S v) = cs_pre S := rfl
theorem cg_pre_lim (S : CS) (v : Nat → Int64) : cs_pre (cs_set_lim S v) = cs_pre S := rfl
theorem cg_pre_stk (S : CS) (v : Nat → Int32) : cs_pre (cs_set_stk S v) = cs_pre S := rfl
theorem cg_pre_flt (S : CS) (v : Nat → Int32) : cs_pre (cs_set_flt S v) = cs_pre S := rfl
theorem cg_pre_pts (S : CS) (v : Nat → Int64) : cs_pre (cs_set_pts S v) = cs_pre S := rfl
theorem cg_pre_rng (S : CS) (v : Nat → Int64) : cs_pre (cs_set_rng S v) = cs_pre S := rfl
theorem cg_pre_low (S : CS) (v : Nat → Int64) : cs_pre (cs_set_low S v) = cs_pre S := rfl
theorem cg_pre_ch (S : CS) (v : Nat → Int64) : cs_pre (cs_set_ch S v) = cs_pre S := rfl
theorem cg_pre_es (S : CS) (v : Nat → UInt64) : cs_pre (cs_set_es S v) = cs_pre S := rfl
theorem cg_pre_vo (S : CS) (v : Nat → Int64) : cs_pre (cs_set_vo S v) = cs_pre S := rfl
theorem cg_pre_wa (S : CS) (v : Nat → Int64) : cs_pre (cs_set_wa S v) = cs_pre S := rfl
theorem cg_pre_be (S : CS) (v : Nat → Int32) : cs_pre (cs_set_be S v) = cs_pre S := rfl
theorem cg_pre_bl (S : CS) (v : Nat → Int32) : cs_pre (cs_set_bl S v) = cs_pre S := rfl
theorem cg_fc_st (S : CS) (v : Nat) : cs_fc (cs_set_st S v) = cs_fc S := rfl
theorem cg_fc_pre (S : CS) (v : Int32) : cs_fc (cs_set_pre S v) = cs_fc S := rfl
theorem cg_fc_fc (S : CS) (v : Nat) : cs_fc (cs_set_fc S v) = v := rfl
theorem cg_fc_pc (S : CS) (v : Nat) : cs_fc (cs_set_pc S v) = cs_fc S := rfl
theorem cg_fc_cyc (S : CS) (v : Nat) : cs_fc (cs_set_cyc S v) = cs_fc S := rfl
theorem cg_fc_lim (S : CS) (v : Nat → Int64) : cs_fc (cs_set_lim S v) = cs_fc S := rfl
theorem cg_fc_stk (S : CS) (v : Nat → Int32) : cs_fc (cs_set_stk S v) = cs_fc S := rfl
theorem cg_fc_flt (S : CS) (v : Nat → Int32) : cs_fc (cs_set_flt S v) = cs_fc S := rfl
theorem cg_fc_pts (S : CS) (v : Nat → Int64) : cs_fc (cs_set_pts S v) = cs_fc S := rfl
theorem cg_fc_rng (S : CS) (v : Nat → Int64) : cs_fc (cs_set_rng S v) = cs_fc S := rfl
theorem cg_fc_low (S : CS) (v : Nat → Int64) : cs_fc (cs_set_low S v) = cs_fc S := rfl
theorem cg_fc_ch (S : CS) (v : Nat → Int64) : cs_fc (cs_set_ch S v) = cs_fc S := rfl
theorem cg_fc_es (S : CS) (v : Nat → UInt64) : cs_fc (cs_set_es S v) = cs_fc S := rfl
theorem cg_fc_vo (S : CS) (v : Nat → Int64) : cs_fc (cs_set_vo S v) = cs_fc S := rfl
theorem cg_fc_wa (S : CS) (v : Nat → Int64) : cs_fc (cs_set_wa S v) = cs_fc S := rfl
theorem cg_fc_be (S : CS) (v : Nat → Int32) : cs_fc (cs_set_be S v) = cs_fc S := rfl
theorem cg_fc_bl (S : CS) (v : Nat → Int32) : cs_fc (cs_set_bl S v) = cs_fc S := rfl
theorem cg_pc_st (S : CS) (v : Nat) : cs_pc (cs_set_st S v) = cs_pc S := rfl
theorem cg_pc_pre (S : CS) (v : Int32) : cs_pc (cs_set_pre S v) = cs_pc S := rfl
theorem cg_pc_fc (S : CS) (v : Nat) : cs_pc (cs_set_fc S v) = cs_pc S := rfl
theorem cg_pc_pc (S : CS) (v : Nat) : cs_pc (cs_set_pc S v) = v := rfl
theorem cg_pc_cyc (S : CS) (v : Nat) : cs_pc (cs_set_cyc S v) = cs_pc S := rfl
theorem cg_pc_lim (S : CS) (v : Nat → Int64) : cs_pc (cs_set_lim S v) = cs_pc S := rfl
theorem cg_pc_stk (S : CS) (v : Nat → Int32) : cs_pc (cs_set_stk S v) = cs_pc S := rfl
theorem cg_pc_flt (S : CS) (v : Nat → Int32) : cs_pc (cs_set_flt S v) = cs_pc S := rfl
theorem cg_pc_pts (S : CS) (v : Nat → Int64) : cs_pc (cs_set_pts S v) = cs_pc S := rfl
theorem cg_pc_rng (S : CS) (v : Nat → Int64) : cs_pc (cs_set_rng S v) = cs_pc S := rfl
theorem cg_pc_low (S : CS) (v : Nat → Int64) : cs_pc (cs_set_low S v) = cs_pc S := rfl
theorem cg_pc_ch (S : CS) (v : Nat → Int64) : cs_pc (cs_set_ch S v) = cs_pc S := rfl
theorem cg_pc_es (S : CS) (v : Nat → UInt64) : cs_pc (cs_set_es S v) = cs_pc S := rfl
theorem cg_pc_vo (S : CS) (v : Nat → Int64) : cs_pc (cs_set_vo S v) = cs_pc S := rfl
theorem cg_pc_wa (S : CS) (v : Nat → Int64) : cs_pc (cs_set_wa S v) = cs_pc S := rfl
theorem cg_pc_be (S : CS) (v : Nat → Int32) : cs_pc (cs_set_be S v) = cs_pc S := rfl
theorem cg_pc_bl (S : CS) (v : Nat → Int32) : cs_pc (cs_set_bl S v) = cs_pc S := rfl
theorem cg_cyc_st (S : CS) (v : Nat) : cs_cyc (cs_set_st S v) = cs_cyc S := rfl
theorem cg_cyc_pre (S : CS) (v : Int32) : cs_cyc (cs_set_pre S v) = cs_cyc S := rfl
theorem cg_cyc_fc (S : CS) (v : Nat) : cs_cyc (cs_set_fc S v) = cs_cyc S := rfl
theorem cg_cyc_pc (S : CS) (v : Nat) : cs_cyc (cs_set_pc S v) = cs_cyc S := rfl
theorem cg_cyc_cyc (S : CS) (v : Nat) : cs_cyc (cs_set_cyc S v) = v := rfl
theorem cg_cyc_lim (S : CS) (v : Nat → Int64) : cs_cyc (cs_set_lim S v) = cs_cyc S := rfl
theorem cg_cyc_stk (S : CS) (v : Nat → Int32) : cs_cyc (cs_set_stk S v) = cs_cyc S := rfl
theorem cg_cyc_flt (S : CS) (v : Nat → Int32) : cs_cyc (cs_set_flt S v) = cs_cyc S := rfl
theorem cg_cyc_pts (S : CS) (v : Nat → Int64) : cs_cyc (cs_set_pts S v) = cs_cyc S := rfl
theorem cg_cyc_rng (S : CS) (v : Nat → Int64) : cs_cyc (cs_set_rng S v) = cs_cyc S := rfl
theorem cg_cyc_low (S : CS) (v : Nat → Int64) : cs_cyc (cs_set_low S v) = cs_cyc S := rfl
theorem cg_cyc_ch (S : CS) (v : Nat → Int64) : cs_cyc (cs_set_ch S v) = cs_cyc S := rfl
theorem cg_cyc_es (S : CS) (v : Nat → UInt64) : cs_cyc (cs_set_es S v) = cs_cyc S := rfl
theorem cg_cyc_vo (S : CS) (v : Nat → Int64) : cs_cyc (cs_set_vo S v) = cs_cyc S := rfl
theorem cg_cyc_wa (S : CS) (v : Nat → Int64) : cs_cyc (cs_set_wa S v) = cs_cyc S := rfl
theorem cg_cyc_be (S : CS) (v : Nat → Int32) : cs_cyc (cs_set_be S v) = cs_cyc S := rfl
theorem cg_cyc_bl (S : CS) (v : Nat → Int32) : cs_cyc (cs_set_bl S v) = cs_cyc S := rfl
theorem cg_lim_st (S : CS) (v : Nat) : cs_lim (cs_set_st S v) = cs_lim S := rfl
theorem cg_lim_pre (S : CS) (v : Int32) : cs_lim (cs_set_pre S v) = cs_lim S := rfl
theorem cg_lim_fc (S : CS) (v : Nat) : cs_lim (cs_set_fc S v) = cs_lim S := rfl
theorem cg_lim_pc (S : CS) (v : Nat) : cs_lim (cs_set_pc S v) = cs_lim S := rfl
theorem cg_lim_cyc (S : CS) (v : Nat) : cs_lim (cs_set_cyc S v) = cs_lim S := rfl
theorem cg_lim_lim (S : CS) (v : Nat → Int64) : cs_lim (cs_set_lim S v) = v := rfl
theorem cg_lim_stk (S : CS) (v : Nat → Int32) : cs_lim (cs_set_stk S v) = cs_lim S := rfl
theorem cg_lim_flt (S : CS) (v : Nat → Int32) : cs_lim (cs_set_flt S v) = cs_lim S := rfl
theorem cg_lim_pts (S : CS) (v : Nat → Int64) : cs_lim (cs_set_pts S v) = cs_lim S := rfl
theorem cg_lim_rng (S : CS) (v : Nat → Int64) : cs_lim (cs_set_rng S v) = cs_lim S := rfl
theorem cg_lim_low (S : CS) (v : Nat → Int64) : cs_lim (cs_set_low S v) = cs_lim S := rfl
theorem cg_lim_ch (S : CS) (v : Nat → Int64) : cs_lim (cs_set_ch S v) = cs_lim S := rfl
theorem cg_lim_es (S : CS) (v : Nat → UInt64) : cs_lim (cs_set_es S v) = cs_lim S := rfl
theorem cg_lim_vo (S : CS) (v : Nat → Int64) : cs_lim (cs_set_vo S v) = cs_lim S := rfl
theorem cg_lim_wa (S : CS) (v : Nat → Int64) : cs_lim (cs_set_wa S v) = cs_lim S := rfl
theorem cg_lim_be (S : CS) (v : Nat → Int32) : cs_lim (cs_set_be S v) = cs_lim S := rfl
theorem cg_lim_bl (S : CS) (v : Nat → Int32) : cs_lim (cs_set_bl S v) = cs_lim S := rfl
theorem cg_stk_st (S : CS) (v : Nat) : cs_stk (cs_set_st S v) = cs_stk S := rfl
theorem cg_stk_pre (S : CS) (v : Int32) : cs_stk (cs_set_pre S v) = cs_stk S := rfl
theorem cg_stk_fc (S : CS) (v : Nat) : cs_stk (cs_set_fc S v) = cs_stk S := rfl
theorem cg_stk_pc (S : CS) (v : Nat) : cs_stk (cs_set_pc S v) = cs_stk S := rfl
theorem cg_stk_cyc (S : CS) (v : Nat) : cs_stk (cs_set_cyc S v) = cs_stk S := rfl
theorem cg_stk_lim (S : CS) (v : Nat → Int64) : cs_stk (cs_set_lim S v) = cs_stk S := rfl
theorem cg_stk_stk (S : CS) (v : Nat → Int32) : cs_stk (cs_set_stk S v) = v := rfl
theorem cg_stk_flt (S : CS) (v : Nat → Int32) : cs_stk (cs_set_flt S v) = cs_stk S := rfl
theorem cg_stk_pts (S : CS) (v : Nat → Int64) : cs_stk (cs_set_pts S v) = cs_stk S := rfl
theorem cg_stk_rng (S : CS) (v : Nat → Int64) : cs_stk (cs_set_rng S v) = cs_stk S := rfl
theorem cg_stk_low (S : CS) (v : Nat → Int64) : cs_stk (cs_set_low S v) = cs_stk S := rfl
theorem cg_stk_ch (S : CS) (v : Nat → Int64) : cs_stk (cs_set_ch S v) = cs_stk S := rfl
theorem cg_stk_es (S : CS) (v : Nat → UInt64) : cs_stk (cs_set_es S v) = cs_stk S := rfl
theorem cg_stk_vo (S : CS) (v : Nat → Int64) : cs_stk (cs_set_vo S v) = cs_stk S := rfl
theorem cg_stk_wa (S : CS) (v : Nat → Int64) : cs_stk (cs_set_wa S v) = cs_stk S := rfl
theorem cg_stk_be (S : CS) (v : Nat → Int32) : cs_stk (cs_set_be S v) = cs_stk S := rfl
theorem cg_stk_bl (S : CS) (v : Nat → Int32) : cs_stk (cs_set_bl S v) = cs_stk S := rfl
theorem cg_flt_st (S : CS) (v : Nat) : cs_flt (cs_set_st S v) = cs_flt S := rfl
theorem cg_flt_pre (S : CS) (v : Int32) : cs_flt (cs_set_pre S v) = cs_flt S := rfl
theorem cg_flt_fc (S : CS) (v : Nat) : cs_flt (cs_set_fc S v) = cs_flt S := rfl
theorem cg_flt_pc (S : CS) (v : Nat) : cs_flt (cs_set_pc S v) = cs_flt S := rfl
theorem cg_flt_cyc (S : CS) (v : Nat) : cs_flt (cs_set_cyc S v) = cs_flt S := rfl
theorem cg_flt_lim (S : CS) (v : Nat → Int64) : cs_flt (cs_set_lim S v) = cs_flt S := rfl
theorem cg_flt_stk (S : CS) (v : Nat → Int32) : cs_flt (cs_set_stk S v) = cs_flt S := rfl
theorem cg_flt_flt (S : CS) (v : Nat → Int32) : cs_flt (cs_set_flt S v) = v := rfl
theorem cg_flt_pts (S : CS) (v : Nat → Int64) : cs_flt (cs_set_pts S v) = cs_flt S := rfl
theorem cg_flt_rng (S : CS) (v : Nat → Int64) : cs_flt (cs_set_rng S v) = cs_flt S := rfl
theorem cg_flt_low (S : CS) (v : Nat → Int64) : cs_flt (cs_set_low S v) = cs_flt S := rfl
theorem cg_flt_ch (S : CS) (v : Nat → Int64) : cs_flt (cs_set_ch S v) = cs_flt S := rfl
theorem cg_flt_es (S : CS) (v : Nat → UInt64) : cs_flt (cs_set_es S v) = cs_flt S := rfl
theorem cg_flt_vo (S : CS) (v : Nat → Int64) : cs_flt (cs_set_vo S v) = cs_flt S := rfl
theorem cg_flt_wa (S : CS) (v : Nat → Int64) : cs_flt (cs_set_wa S v) = cs_flt S := rfl
theorem cg_flt_be (S : CS) (v : Nat → Int32) : cs_flt (cs_set_be S v) = cs_flt S := rfl
theorem cg_flt_bl (S : CS) (v : Nat → Int32) : cs_flt (cs_set_bl S v) = cs_flt S := rfl
theorem cg_pts_st (S : CS) (v : Nat) : cs_pts (cs_set_st S v) = cs_pts S := rfl
theorem cg_pts_pre (S : CS) (v : Int32) : cs_pts (cs_set_pre S v) = cs_pts S := rfl
theorem cg_pts_fc (S : CS) (v : Nat) : cs_pts (cs_set_fc S v) = cs_pts S := rfl
theorem cg_pts_pc (S : CS) (v : Nat) : cs_pts (cs_set_pc S v) = cs_pts S := rfl
theorem cg_pts_cyc (S : CS) (v : Nat) : cs_pts (cs_set_cyc S v) = cs_pts S := rfl
theorem cg_pts_lim (S : CS) (v : Nat → Int64) : cs_pts (cs_set_lim S v) = cs_pts S := rfl
theorem cg_pts_stk (S : CS) (v : Nat → Int32) : cs_pts (cs_set_stk S v) = cs_pts S := rfl
theorem cg_pts_flt (S : CS) (v : Nat → Int32) : cs_pts (cs_set_flt S v) = cs_pts S := rfl
theorem cg_pts_pts (S : CS) (v : Nat → Int64) : cs_pts (cs_set_pts S v) = v := rfl
theorem cg_pts_rng (S : CS) (v : Nat → Int64) : cs_pts (cs_set_rng S v) = cs_pts S := rfl
theorem cg_pts_low (S : CS) (v : Nat → Int64) : cs_pts (cs_set_low S v) = cs_pts S := rfl
theorem cg_pts_ch (S : CS) (v : Nat → Int64) : cs_pts (cs_set_ch S v) = cs_pts S := rfl
theorem cg_pts_es (S : CS) (v : Nat → UInt64) : cs_pts (cs_set_es S v) = cs_pts S := rfl
theorem cg_pts_vo (S : CS) (v : Nat → Int64) : cs_pts (cs_set_vo S v) = cs_pts S := rfl
theorem cg_pts_wa (S : CS) (v : Nat → Int64) : cs_pts (cs_set_wa S v) = cs_pts S := rfl
theorem cg_pts_be (S : CS) (v : Nat → Int32) : cs_pts (cs_set_be S v) = cs_pts S := rfl
theorem cg_pts_bl (S : CS) (v : Nat → Int32) : cs_pts (cs_set_bl S v) = cs_pts S := rfl
theorem cg_rng_st (S : CS) (v : Nat) : cs_rng (cs_set_st S v) = cs_rng S := rfl
theorem cg_rng_pre (S : CS) (v : Int32) : cs_rng (cs_set_pre S v) = cs_rng S := rfl
theorem cg_rng_fc (S : CS) (v : Nat) : cs_rng (cs_set_fc S v) = cs_rng S := rfl
theorem cg_rng_pc (S : CS) (v : Nat) : cs_rng (cs_set_pc S v) = cs_rng S := rfl
theorem cg_rng_cyc (S : CS) (v : Nat) : cs_rng (cs_set_cyc S v) = cs_rng S := rfl
theorem cg_rng_lim (S : CS) (v : Nat → Int64) : cs_rng (cs_set_lim S v) = cs_rng S := rfl
theorem cg_rng_stk (S : CS) (v : Nat → Int32) : cs_rng (cs_set_stk S v) = cs_rng S := rfl
theorem cg_rng_flt (S : CS) (v : Nat → Int32) : cs_rng (cs_set_flt S v) = cs_rng S := rfl
theorem cg_rng_pts (S : CS) (v : Nat → Int64) : cs_rng (cs_set_pts S v) = cs_rng S := rfl
theorem cg_rng_rng (S : CS) (v : Nat → Int64) : cs_rng (cs_set_rng S v) = v := rfl
theorem cg_rng_low (S : CS) (v : Nat → Int64) : cs_rng (cs_set_low S v) = cs_rng S := rfl
theorem cg_rng_ch (S : CS) (v : Nat → Int64) : cs_rng (cs_set_ch S v) = cs_rng S := rfl
theorem cg_rng_es (S : CS) (v : Nat → UInt64) : cs_rng (cs_set_es S v) = cs_rng S := rfl
theorem cg_rng_vo (S : CS) (v : Nat → Int64) : cs_rng (cs_set_vo S v) = cs_rng S := rfl
theorem cg_rng_wa (S : CS) (v : Nat → Int64) : cs_rng (cs_set_wa S v) = cs_rng S := rfl
theorem cg_rng_be (S : CS) (v : Nat → Int32) : cs_rng (cs_set_be S v) = cs_rng S := rfl
theorem cg_rng_bl (S : CS) (v : Nat → Int32) : cs_rng (cs_set_bl S v) = cs_rng S := rfl
theorem cg_low_st (S : CS) (v : Nat) : cs_low (cs_set_st S v) = cs_low S := rfl
theorem cg_low_pre (S : CS) (v : Int32) : cs_low (cs_set_pre S v) = cs_low S := rfl
theorem cg_low_fc (S : CS) (v : Nat) : cs_low (cs_set_fc S v) = cs_low S := rfl
theorem cg_low_pc (S : CS) (v : Nat) : cs_low (cs_set_pc S v) = cs_low S := rfl
theorem cg_low_cyc (S : CS) (v : Nat) : cs_low (cs_set_cyc S v) = cs_low S := rfl
theorem cg_low_lim (S : CS) (v : Nat → Int64) : cs_low (cs_set_lim S v) = cs_low S := rfl
theorem cg_low_stk (S : CS) (v : Nat → Int32) : cs_low (cs_set_stk S v) = cs_low S := rfl
theorem cg_low_flt (S : CS) (v : Nat → Int32) : cs_low (cs_set_flt S v) = cs_low S := rfl
theorem cg_low_pts (S : CS) (v : Nat → Int64) : cs_low (cs_set_pts S v) = cs_low S := rfl
theorem cg_low_rng (S : CS) (v : Nat → Int64) : cs_low (cs_set_rng S v) = cs_low S := rfl
theorem cg_low_low (S : CS) (v : Nat → Int64) : cs_low (cs_set_low S v) = v := rfl
theorem cg_low_ch (S : CS) (v : Nat → Int64) : cs_low (cs_set_ch S v) = cs_low S := rfl
theorem cg_low_es (S : CS) (v : Nat → UInt64) : cs_low (cs_set_es S v) = cs_low S := rfl
theorem cg_low_vo (S : CS) (v : Nat → Int64) : cs_low (cs_set_vo S v) = cs_low S := rfl
theorem cg_low_wa (S : CS) (v : Nat → Int64) : cs_low (cs_set_wa S v) = cs_low S := rfl
theorem cg_low_be (S : CS) (v : Nat → Int32) : cs_low (cs_set_be S v) = cs_low S := rfl
theorem cg_low_bl (S : CS) (v : Nat → Int32) : cs_low (cs_set_bl S v) = cs_low S := rfl
theorem cg_ch_st (S : CS) (v : Nat) : cs_ch (cs_set_st S v) = cs_ch S := rfl
theorem cg_ch_pre (S : CS) (v : Int32) : cs_ch (cs_set_pre S v) = cs_ch S := rfl
theorem cg_ch_fc (S : CS) (v : Nat) : cs_ch (cs_set_fc S v) = cs_ch S := rfl
theorem cg_ch_pc (S : CS) (v : Nat) : cs_ch (cs_set_pc S v) = cs_ch S := rfl
theorem cg_ch_cyc (S : CS) (v : Nat) : cs_ch (cs_set_cyc S v) = cs_ch S := rfl
theorem cg_ch_lim (S : CS) (v : Nat → Int64) : cs_ch (cs_set_lim S v) = cs_ch S := rfl
theorem cg_ch_stk (S : CS) (v : Nat → Int32) : cs_ch (cs_set_stk S v) = cs_ch S := rfl
theorem cg_ch_flt (S : CS) (v : Nat → Int32) : cs_ch (cs_set_flt S v) = cs_ch S := rfl
theorem cg_ch_pts (S : CS) (v : Nat → Int64) : cs_ch (cs_set_pts S v) = cs_ch S := rfl
theorem cg_ch_rng (S : CS) (v : Nat → Int64) : cs_ch (cs_set_rng S v) = cs_ch S := rfl
theorem cg_ch_low (S : CS) (v : Nat → Int64) : cs_ch (cs_set_low S v) = cs_ch S := rfl
theorem cg_ch_ch (S : CS) (v : Nat → Int64) : cs_ch (cs_set_ch S v) = v := rfl
theorem cg_ch_es (S : CS) (v : Nat → UInt64) : cs_ch (cs_set_es S v) = cs_ch S := rfl
theorem cg_ch_vo (S : CS) (v : Nat → Int64) : cs_ch (cs_set_vo S v) = cs_ch S := rfl
theorem cg_ch_wa (S : CS) (v : Nat → Int64) : cs_ch (cs_set_wa S v) = cs_ch S := rfl
theorem cg_ch_be (S : CS) (v : Nat → Int32) : cs_ch (cs_set_be S v) = cs_ch S := rfl
theorem cg_ch_bl (S : CS) (v : Nat → Int32) : cs_ch (cs_set_bl S v) = cs_ch S := rfl
theorem cg_es_st (S : CS) (v : Nat) : cs_es (cs_set_st S v) = cs_es S := rfl
theorem cg_es_pre (S : CS) (v : Int32) : cs_es (cs_set_pre S v) = cs_es S := rfl
theorem cg_es_fc (S : CS) (v : Nat) : cs_es (cs_set_fc S v) = cs_es S := rfl
theorem cg_es_pc (S : CS) (v : Nat) : cs_es (cs_set_pc S v) = cs_es S := rfl
theorem cg_es_cyc (S : CS) (v : Nat) : cs_es (cs_set_cyc S v) = cs_es S := rfl
theorem cg_es_lim (S : CS) (v : Nat → Int64) : cs_es (cs_set_lim S v) = cs_es S := rfl
theorem cg_es_stk (S : CS) (v : Nat → Int32) : cs_es (cs_set_stk S v) = cs_es S := rfl
theorem cg_es_flt (S : CS) (v : Nat → Int32) : cs_es (cs_set_flt S v) = cs_es S := rfl
theorem cg_es_pts (S : CS) (v : Nat → Int64) : cs_es (cs_set_pts S v) = cs_es S := rfl
theorem cg_es_rng (S : CS) (v : Nat → Int64) : cs_es (cs_set_rng S v) = cs_es S := rfl
theorem cg_es_low (S : CS) (v : Nat → Int64) : cs_es (cs_set_low S v) = cs_es S := rfl
theorem cg_es_ch (S : CS) (v : Nat → Int64) : cs_es (cs_set_ch S v) = cs_es S := rfl
theorem cg_es_es (S : CS) (v : Nat → UInt64) : cs_es (cs_set_es S v) = v := rfl
theorem cg_es_vo (S : CS) (v : Nat → Int64) : cs_es (cs_set_vo S v) = cs_es S := rfl
theorem cg_es_wa (S : CS) (v : Nat → Int64) : cs_es (cs_set_wa S v) = cs_es S := rfl
theorem cg_es_be (S : CS) (v : Nat → Int32) : cs_es (cs_set_be S v) = cs_es S := rfl
theorem cg_es_bl (S : CS) (v : Nat → Int32) : cs_es (cs_set_bl S v) = cs_es S := rfl
theorem cg_vo_st (S : CS) (v : Nat) : cs_vo (cs_set_st S v) = cs_vo S := rfl
theorem cg_vo_pre (S : CS) (v : Int32) : cs_vo (cs_set_pre S v) = cs_vo S := rfl
theorem cg_vo_fc (S : CS) (v : Nat) : cs_vo (cs_set_fc S v) = cs_vo S := rfl
theorem cg_vo_pc (S : CS) (v : Nat) : cs_vo (cs_set_pc S v) = cs_vo S := rfl
theorem cg_vo_cyc (S : CS) (v : Nat) : cs_vo (cs_set_cyc S v) = cs_vo S := rfl
theorem cg_vo_lim (S : CS) (v : Nat → Int64) : cs_vo (cs_set_lim S v) = cs_vo S := rfl
theorem cg_vo_stk (S : CS) (v : Nat → Int32) : cs_vo (cs_set_stk S v) = cs_vo S := rfl
theorem cg_vo_flt (S : CS) (v : Nat → Int32) : cs_vo (cs_set_flt S v) = cs_vo S := rfl
theorem cg_vo_pts (S : CS) (v : Nat → Int64) : cs_vo (cs_set_pts S v) = cs_vo S := rfl
theorem cg_vo_rng (S : CS) (v : Nat → Int64) : cs_vo (cs_set_rng S v) = cs_vo S := rfl
theorem cg_vo_low (S : CS) (v : Nat → Int64) : cs_vo (cs_set_low S v) = cs_vo S := rfl
theorem cg_vo_ch (S : CS) (v : Nat → Int64) : cs_vo (cs_set_ch S v) = cs_vo S := rfl
theorem cg_vo_es (S : CS) (v : Nat → UInt64) : cs_vo (cs_set_es S v) = cs_vo S := rfl
theorem cg_vo_vo (S : CS) (v : Nat → Int64) : cs_vo (cs_set_vo S v) = v := rfl
theorem cg_vo_wa (S : CS) (v : Nat → Int64) : cs_vo (cs_set_wa S v) = cs_vo S := rfl
theorem cg_vo_be (S : CS) (v : Nat → Int32) : cs_vo (cs_set_be S v) = cs_vo S := rfl
theorem cg_vo_bl (S : CS) (v : Nat → Int32) : cs_vo (cs_set_bl S v) = cs_vo S := rfl
theorem cg_wa_st (S : CS) (v : Nat) : cs_wa (cs_set_st S v) = cs_wa S := rfl
theorem cg_wa_pre (S : CS) (v : Int32) : cs_wa (cs_set_pre S v) = cs_wa S := rfl
theorem cg_wa_fc (S : CS) (v : Nat) : cs_wa (cs_set_fc S v) = cs_wa S := rfl
theorem cg_wa_pc (S : CS) (v : Nat) : cs_wa (cs_set_pc S v) = cs_wa S := rfl
theorem cg_wa_cyc (S : CS) (v : Nat) : cs_wa (cs_set_cyc S v) = cs_wa S := rfl
theorem cg_wa_lim (S : CS) (v : Nat → Int64) : cs_wa (cs_set_lim S v) = cs_wa S := rfl
theorem cg_wa_stk (S : CS) (v : Nat → Int32) : cs_wa (cs_set_stk S v) = cs_wa S := rfl
theorem cg_wa_flt (S : CS) (v : Nat → Int32) : cs_wa (cs_set_flt S v) = cs_wa S := rfl
theorem cg_wa_pts (S : CS) (v : Nat → Int64) : cs_wa (cs_set_pts S v) = cs_wa S := rfl
theorem cg_wa_rng (S : CS) (v : Nat → Int64) : cs_wa (cs_set_rng S v) = cs_wa S := rfl
theorem cg_wa_low (S : CS) (v : Nat → Int64) : cs_wa (cs_set_low S v) = cs_wa S := rfl
theorem cg_wa_ch (S : CS) (v : Nat → Int64) : cs_wa (cs_set_ch S v) = cs_wa S := rfl
theorem cg_wa_es (S : CS) (v : Nat → UInt64) : cs_wa (cs_set_es S v) = cs_wa S := rfl
theorem cg_wa_vo (S : CS) (v : Nat → Int64) : cs_wa (cs_set_vo S v) = cs_wa S := rfl
theorem cg_wa_wa (S : CS) (v : Nat → Int64) : cs_wa (cs_set_wa S v) = v := rfl
theorem cg_wa_be (S : CS) (v : Nat → Int32) : cs_wa (cs_set_be S v) = cs_wa S := rfl
theorem cg_wa_bl (S : CS) (v : Nat → Int32) : cs_wa (cs_set_bl S v) = cs_wa S := rfl
theorem cg_be_st (S : CS) (v : Nat) : cs_be (cs_set_st S v) = cs_be S := rfl
theorem cg_be_pre (S : CS) (v : Int32) : cs_be (cs_set_pre S v) = cs_be S := rfl
theorem cg_be_fc (S : CS) (v : Nat) : cs_be (cs_set_fc S v) = cs_be S := rfl
theorem cg_be_pc (S : CS) (v : Nat) : cs_be (cs_set_pc S v) = cs_be S := rfl
theorem cg_be_cyc (S : CS) (v : Nat) : cs_be (cs_set_cyc S v) = cs_be S := rfl
theorem cg_be_lim (S : CS) (v : Nat → Int64) : cs_be (cs_set_lim S v) = cs_be S := rfl
theorem cg_be_stk (S : CS) (v : Nat → Int32) : cs_be (cs_set_stk S v) = cs_be S := rfl
theorem cg_be_flt (S : CS) (v : Nat → Int32) : cs_be (cs_set_flt S v) = cs_be S := rfl
theorem cg_be_pts (S : CS) (v : Nat → Int64) : cs_be (cs_set_pts S v) = cs_be S := rfl
theorem cg_be_rng (S : CS) (v : Nat → Int64) : cs_be (cs_set_rng S v) = cs_be S := rfl
theorem cg_be_low (S : CS) (v : Nat → Int64) : cs_be (cs_set_low S v) = cs_be S := rfl
theorem cg_be_ch (S : CS) (v : Nat → Int64) : cs_be (cs_set_ch S v) = cs_be S := rfl
theorem cg_be_es (S : CS) (v : Nat → UInt64) : cs_be (cs_set_es S v) = cs_be S := rfl
theorem cg_be_vo (S : CS) (v : Nat → Int64) : cs_be (cs_set_vo S v) = cs_be S := rfl
theorem cg_be_wa (S : CS) (v : Nat → Int64) : cs_be (cs_set_wa S v) = cs_be S := rfl
theorem cg_be_be (S : CS) (v : Nat → Int32) : cs_be (cs_set_be S v) = v := rfl
theorem cg_be_bl (S : CS) (v : Nat → Int32) : cs_be (cs_set_bl S v) = cs_be S := rfl
theorem cg_bl_st (S : CS) (v : Nat) : cs_bl (cs_set_st S v) = cs_bl S := rfl
theorem cg_bl_pre (S : CS) (v : Int32) : cs_bl (cs_set_pre S v) = cs_bl S := rfl
theorem cg_bl_fc (S : CS) (v : Nat) : cs_bl (cs_set_fc S v) = cs_bl S := rfl
theorem cg_bl_pc (S : CS) (v : Nat) : cs_bl (cs_set_pc S v) = cs_bl S := rfl
theorem cg_bl_cyc (S : CS) (v : Nat) : cs_bl (cs_set_cyc S v) = cs_bl S := rfl
theorem cg_bl_lim (S : CS) (v : Nat → Int64) : cs_bl (cs_set_lim S v) = cs_bl S := rfl
theorem cg_bl_stk (S : CS) (v : Nat → Int32) : cs_bl (cs_set_stk S v) = cs_bl S := rfl
theorem cg_bl_flt (S : CS) (v : Nat → Int32) : cs_bl (cs_set_flt S v) = cs_bl S := rfl
theorem cg_bl_pts (S : CS) (v : Nat → Int64) : cs_bl (cs_set_pts S v) = cs_bl S := rfl
theorem cg_bl_rng (S : CS) (v : Nat → Int64) : cs_bl (cs_set_rng S v) = cs_bl S := rfl
theorem cg_bl_low (S : CS) (v : Nat → Int64) : cs_bl (cs_set_low S v) = cs_bl S := rfl
theorem cg_bl_ch (S : CS) (v : Nat → Int64) : cs_bl (cs_set_ch S v) = cs_bl S := rfl
theorem cg_bl_es (S : CS) (v : Nat → UInt64) : cs_bl (cs_set_es S v) = cs_bl S := rfl
theorem cg_bl_vo (S : CS) (v : Nat → Int64) : cs_bl (cs_set_vo S v) = cs_bl S := rfl
theorem cg_bl_wa (S : CS) (v : Nat → Int64) : cs_bl (cs_set_wa S v) = cs_bl S := rfl
theorem cg_bl_be (S : CS) (v : Nat → Int32) : cs_bl (cs_set_be S v) = cs_bl S := rfl
theorem cg_bl_bl (S : CS) (v : Nat → Int32) : cs_bl (cs_set_bl S v) = v := rfl
theorem mg_th_th (S : MS) (v : Int32) : cm_th (cm_set_th S v) = v := rfl
theorem mg_th_st (S : MS) (v : Nat) : cm_th (cm_set_st S v) = cm_th S := rfl
theorem mg_th_steps (S : MS) (v : Int32) : cm_th (cm_set_steps S v) = cm_th S := rfl
theorem mg_th_beg (S : MS) (v : Int32) : cm_th (cm_set_beg S v) = cm_th S := rfl
theorem mg_th_fc (S : MS) (v : Nat) : cm_th (cm_set_fc S v) = cm_th S := rfl
theorem mg_th_many (S : MS) (v : Nat) : cm_th (cm_set_many S v) = cm_th S := rfl
theorem mg_th_cyc (S : MS) (v : Nat) : cm_th (cm_set_cyc S v) = cm_th S := rfl
theorem mg_th_ch (S : MS) (v : Nat → Int64) : cm_th (cm_set_ch S v) = cm_th S := rfl
theorem mg_th_es (S : MS) (v : Nat → UInt64) : cm_th (cm_set_es S v) = cm_th S := rfl
theorem mg_th_vo (S : MS) (v : Nat → Int64) : cm_th (cm_set_vo S v) = cm_th S := rfl
theorem mg_th_wa (S : MS) (v : Nat → Int64) : cm_th (cm_set_wa S v) = cm_th S := rfl
theorem mg_th_be (S : MS) (v : Nat → Int32) : cm_th (cm_set_be S v) = cm_th S := rfl
theorem mg_th_bl (S : MS) (v : Nat → Int32) : cm_th (cm_set_bl S v) = cm_th S := rfl
theorem mg_th_lim (S : MS) (v : Nat → Int64) : cm_th (cm_set_lim S v) = cm_th S := rfl
theorem mg_th_stk (S : MS) (v : Nat → Int32) : cm_th (cm_set_stk S v) = cm_th S := rfl
theorem mg_th_flt (S : MS) (v : Nat → Int32) : cm_th (cm_set_flt S v) = cm_th S := rfl
theorem mg_th_pts (S : MS) (v : Nat → Int64) : cm_th (cm_set_pts S v) = cm_th S := rfl
theorem mg_th_rng (S : MS) (v : Nat → Int32) : cm_th (cm_set_rng S v) = cm_th S := rfl
theorem mg_th_low (S : MS) (v : Nat → Int32) : cm_th (cm_set_low S v) = cm_th S := rfl
theorem mg_st_th (S : MS) (v : Int32) : cm_st (cm_set_th S v) = cm_st S := rfl
theorem mg_st_st (S : MS) (v : Nat) : cm_st (cm_set_st S v) = v := rfl
theorem mg_st_steps (S : MS) (v : Int32) : cm_st (cm_set_steps S v) = cm_st S := rfl
theorem mg_st_beg (S : MS) (v : Int32) : cm_st (cm_set_beg S v) = cm_st S := rfl
theorem mg_st_fc (S : MS) (v : Nat) : cm_st (cm_set_fc S v) = cm_st S := rfl
theorem mg_st_many (S : MS) (v : Nat) : cm_st (cm_set_many S v) = cm_st S := rfl
theorem mg_st_cyc (S : MS) (v : Nat) : cm_st (cm_set_cyc S v) = cm_st S := rfl
theorem mg_st_ch (S : MS) (v : Nat → Int64) : cm_st (cm_set_ch S v) = cm_st S := rfl
theorem mg_st_es (S : MS) (v : Nat → UInt64) : cm_st (cm_set_es S v) = cm_st S := rfl
theorem mg_st_vo (S : MS) (v : Nat → Int64) : cm_st (cm_set_vo S v) = cm_st S := rfl
theorem mg_st_wa (S : MS) (v : Nat → Int64) : cm_st (cm_set_wa S v) = cm_st S := rfl
theorem mg_st_be (S : MS) (v : Nat → Int32) : cm_st (cm_set_be S v) = cm_st S := rfl
theorem mg_st_bl (S : MS) (v : Nat → Int32) : cm_st (cm_set_bl S v) = cm_st S := rfl
theorem mg_st_lim (S : MS) (v : Nat → Int64) : cm_st (cm_set_lim S v) = cm_st S := rfl
theorem mg_st_stk (S : MS) (v : Nat → Int32) : cm_st (cm_set_stk S v) = cm_st S := rfl
theorem mg_st_flt (S : MS) (v : Nat → Int32) : cm_st (cm_set_flt S v) = cm_st S := rfl
theorem mg_st_pts (S : MS) (v : Nat → Int64) : cm_st (cm_set_pts S v) = cm_st S := rfl
theorem mg_st_rng (S : MS) (v : Nat → Int32) : cm_st (cm_set_rng S v) = cm_st S := rfl
theorem mg_st_low (S : MS) (v : Nat → Int32) : cm_st (cm_set_low S v) = cm_st S := rfl
theorem mg_steps_th (S : MS) (v : Int32) : cm_steps (cm_set_th S v) = cm_steps S := rfl
theorem mg_steps_st (S : MS) (v : Nat) : cm_steps (cm_set_st S v) = cm_steps S := rfl
theorem mg_steps_steps (S : MS) (v : Int32) : cm_steps (cm_set_steps S v) = v := rfl
theorem mg_steps_beg (S : MS) (v : Int32) : cm_steps (cm_set_beg S v) = cm_steps S := rfl
theorem mg_steps_fc (S : MS) (v : Nat) : cm_steps (cm_set_fc S v) = cm_steps S := rfl
theorem mg_steps_many (S : MS) (v : Nat) : cm_steps (cm_set_many S v) = cm_steps S := rfl
theorem mg_steps_cyc (S : MS) (v : Nat) : cm_steps (cm_set_cyc S v) = cm_steps S := rfl
theorem mg_steps_ch (S : MS) (v : Nat → Int64) : cm_steps (cm_set_ch S v) = cm_steps S := rfl
theorem mg_steps_es (S : MS) (v : Nat → UInt64) : cm_steps (cm_set_es S v) = cm_steps S := rfl
theorem mg_steps_vo (S : MS) (v : Nat → Int64) : cm_steps (cm_set_vo S v) = cm_steps S := rfl
theorem mg_steps_wa (S : MS) (v : Nat → Int64) : cm_steps (cm_set_wa S v) = cm_steps S := rfl
theorem mg_steps_be (S : MS) (v : Nat → Int32) : cm_steps (cm_set_be S v) = cm_steps S := rfl
theorem mg_steps_bl (S : MS) (v : Nat → Int32) : cm_steps (cm_set_bl S v) = cm_steps S := rfl
theorem mg_steps_lim (S : MS) (v : Nat → Int64) : cm_steps (cm_set_lim S v) = cm_steps S := rfl
theorem mg_steps_stk (S : MS) (v : Nat → Int32) : cm_steps (cm_set_stk S v) = cm_steps S := rfl
theorem mg_steps_flt (S : MS) (v : Nat → Int32) : cm_steps (cm_set_flt S v) = cm_steps S := rfl
theorem mg_steps_pts (S : MS) (v : Nat → Int64) : cm_steps (cm_set_pts S v) = cm_steps S := rfl
theorem mg_steps_rng (S : MS) (v : Nat → Int32) : cm_steps (cm_set_rng S v) = cm_steps S := rfl
theorem mg_steps_low (S : MS) (v : Nat → Int32) : cm_steps (cm_set_low S v) = cm_steps S := rfl
theorem mg_beg_th (S : MS) (v : Int32) : cm_beg (cm_set_th S v) = cm_beg S := rfl
theorem mg_beg_st (S : MS) (v : Nat) : cm_beg (cm_set_st S v) = cm_beg S := rfl
theorem mg_beg_steps (S : MS) (v : Int32) : cm_beg (cm_set_steps S v) = cm_beg S := rfl
theorem mg_beg_beg (S : MS) (v : Int32) : cm_beg (cm_set_beg S v) = v := rfl
theorem mg_beg_fc (S : MS) (v : Nat) : cm_beg (cm_set_fc S v) = cm_beg S := rfl
theorem mg_beg_many (S : MS) (v : Nat) : cm_beg (cm_set_many S v) = cm_beg S := rfl
theorem mg_beg_cyc (S : MS) (v : Nat) : cm_beg (cm_set_cyc S v) = cm_beg S := rfl
theorem mg_beg_ch (S : MS) (v : Nat → Int64) : cm_beg (cm_set_ch S v) = cm_beg S := rfl
theorem mg_beg_es (S : MS) (v : Nat → UInt64) : cm_beg (cm_set_es S v) = cm_beg S := rfl
theorem mg_beg_vo (S : MS) (v : Nat → Int64) : cm_beg (cm_set_vo S v) = cm_beg S := rfl
theorem mg_beg_wa (S : MS) (v : Nat → Int64) : cm_beg (cm_set_wa S v) = cm_beg S := rfl
theorem mg_beg_be (S : MS) (v : Nat → Int32) : cm_beg (cm_set_be S v) = cm_beg S := rfl
theorem mg_beg_bl (S : MS) (v : Nat → Int32) : cm_beg (cm_set_bl S v) = cm_beg S := rfl
theorem mg_beg_lim (S : MS) (v : Nat → Int64) : cm_beg (cm_set_lim S v) = cm_beg S := rfl
theorem mg_beg_stk (S : MS) (v : Nat → Int32) : cm_beg (cm_set_stk S v) = cm_beg S := rfl
theorem mg_beg_flt (S : MS) (v : Nat → Int32) : cm_beg (cm_set_flt S v) = cm_beg S := rfl
theorem mg_beg_pts (S : MS) (v : Nat → Int64) : cm_beg (cm_set_pts S v) = cm_beg S := rfl
theorem mg_beg_rng (S : MS) (v : Nat → Int32) : cm_beg (cm_set_rng S v) = cm_beg S := rfl
theorem mg_beg_low (S : MS) (v : Nat → Int32) : cm_beg (cm_set_low S v) = cm_beg S := rfl
theorem mg_fc_th (S : MS) (v : Int32) : cm_fc (cm_set_th S v) = cm_fc S := rfl
theorem mg_fc_st (S : MS) (v : Nat) : cm_fc (cm_set_st S v) = cm_fc S := rfl
theorem mg_fc_steps (S : MS) (v : Int32) : cm_fc (cm_set_steps S v) = cm_fc S := rfl
theorem mg_fc_beg (S : MS) (v : Int32) : cm_fc (cm_set_beg S v) = cm_fc S := rfl
theorem mg_fc_fc (S : MS) (v : Nat) : cm_fc (cm_set_fc S v) = v := rfl
theorem mg_fc_many (S : MS) (v : Nat) : cm_fc (cm_set_many S v) = cm_fc S := rfl
theorem mg_fc_cyc (S : MS) (v : Nat) : cm_fc (cm_set_cyc S v) = cm_fc S := rfl
theorem mg_fc_ch (S : MS) (v : Nat → Int64) : cm_fc (cm_set_ch S v) = cm_fc S := rfl
theorem mg_fc_es (S : MS) (v : Nat → UInt64) : cm_fc (cm_set_es S v) = cm_fc S := rfl
theorem mg_fc_vo (S : MS) (v : Nat → Int64) : cm_fc (cm_set_vo S v) = cm_fc S := rfl
theorem mg_fc_wa (S : MS) (v : Nat → Int64) : cm_fc (cm_set_wa S v) = cm_fc S := rfl
theorem mg_fc_be (S : MS) (v : Nat → Int32) : cm_fc (cm_set_be S v) = cm_fc S := rfl
theorem mg_fc_bl (S : MS) (v : Nat → Int32) : cm_fc (cm_set_bl S v) = cm_fc S := rfl
theorem mg_fc_lim (S : MS) (v : Nat → Int64) : cm_fc (cm_set_lim S v) = cm_fc S := rfl
theorem mg_fc_stk (S : MS) (v : Nat → Int32) : cm_fc (cm_set_stk S v) = cm_fc S := rfl
theorem mg_fc_flt (S : MS) (v : Nat → Int32) : cm_fc (cm_set_flt S v) = cm_fc S := rfl
theorem mg_fc_pts (S : MS) (v : Nat → Int64) : cm_fc (cm_set_pts S v) = cm_fc S := rfl
theorem mg_fc_rng (S : MS) (v : Nat → Int32) : cm_fc (cm_set_rng S v) = cm_fc S := rfl
theorem mg_fc_low (S : MS) (v : Nat → Int32) : cm_fc (cm_set_low S v) = cm_fc S := rfl
theorem mg_many_th (S : MS) (v : Int32) : cm_many (cm_set_th S v) = cm_many S := rfl
theorem mg_many_st (S : MS) (v : Nat) : cm_many (cm_set_st S v) = cm_many S := rfl
theorem mg_many_steps (S : MS) (v : Int32) : cm_many (cm_set_steps S v) = cm_many S := rfl
theorem mg_many_beg (S : MS) (v : Int32) : cm_many (cm_set_beg S v) = cm_many S := rfl
theorem mg_many_fc (S : MS) (v : Nat) : cm_many (cm_set_fc S v) = cm_many S := rfl
theorem mg_many_many (S : MS) (v : Nat) : cm_many (cm_set_many S v) = v := rfl
theorem mg_many_cyc (S : MS) (v : Nat) : cm_many (cm_set_cyc S v) = cm_many S := rfl
theorem mg_many_ch (S : MS) (v : Nat → Int64) : cm_many (cm_set_ch S v) = cm_many S := rfl
theorem mg_many_es (S : MS) (v : Nat → UInt64) : cm_many (cm_set_es S v) = cm_many S := rfl
theorem mg_many_vo (S : MS) (v : Nat → Int64) : cm_many (cm_set_vo S v) = cm_many S := rfl
theorem mg_many_wa (S : MS) (v : Nat → Int64) : cm_many (cm_set_wa S v) = cm_many S := rfl
theorem mg_many_be (S : MS) (v : Nat → Int32) : cm_many (cm_set_be S v) = cm_many S := rfl
theorem mg_many_bl (S : MS) (v : Nat → Int32) : cm_many (cm_set_bl S v) = cm_many S := rfl
theorem mg_many_lim (S : MS) (v : Nat → Int64) : cm_many (cm_set_lim S v) = cm_many S := rfl
theorem mg_many_stk (S : MS) (v : Nat → Int32) : cm_many (cm_set_stk S v) = cm_many S := rfl
theorem mg_many_flt (S : MS) (v : Nat → Int32) : cm_many (cm_set_flt S v) = cm_many S := rfl
theorem mg_many_pts (S : MS) (v : Nat → Int64) : cm_many (cm_set_pts S v) = cm_many S := rfl
theorem mg_many_rng (S : MS) (v : Nat → Int32) : cm_many (cm_set_rng S v) = cm_many S := rfl
theorem mg_many_low (S : MS) (v : Nat → Int32) : cm_many (cm_set_low S v) = cm_many S := rfl
theorem mg_cyc_th (S : MS) (v : Int32) : cm_cyc (cm_set_th S v) = cm_cyc S := rfl
theorem mg_cyc_st (S : MS) (v : Nat) : cm_cyc (cm_set_st S v) = cm_cyc S := rfl
theorem mg_cyc_steps (S : MS) (v : Int32) : cm_cyc (cm_set_steps S v) = cm_cyc S := rfl
theorem mg_cyc_beg (S : MS) (v : Int32) : cm_cyc (cm_set_beg S v) = cm_cyc S := rfl
theorem mg_cyc_fc (S : MS) (v : Nat) : cm_cyc (cm_set_fc S v) = cm_cyc S := rfl
theorem mg_cyc_many (S : MS) (v : Nat) : cm_cyc (cm_set_many S v) = cm_cyc S := rfl
theorem mg_cyc_cyc (S : MS) (v : Nat) : cm_cyc (cm_set_cyc S v) = v := rfl
theorem mg_cyc_ch (S : MS) (v : Nat → Int64) : cm_cyc (cm_set_ch S v) = cm_cyc S := rfl
theorem mg_cyc_es (S : MS) (v : Nat → UInt64) : cm_cyc (cm_set_es S v) = cm_cyc S := rfl
theorem mg_cyc_vo (S : MS) (v : Nat → Int64) : cm_cyc (cm_set_vo S v) = cm_cyc S := rfl
theorem mg_cyc_wa (S : MS) (v : Nat → Int64) : cm_cyc (cm_set_wa S v) = cm_cyc S := rfl
theorem mg_cyc_be (S : MS) (v : Nat → Int32) : cm_cyc (cm_set_be S v) = cm_cyc S := rfl
theorem mg_cyc_bl (S : MS) (v : Nat → Int32) : cm_cyc (cm_set_bl S v) = cm_cyc S := rfl
theorem mg_cyc_lim (S : MS) (v : Nat → Int64) : cm_cyc (cm_set_lim S v) = cm_cyc S := rfl
theorem mg_cyc_stk (S : MS) (v : Nat → Int32) : cm_cyc (cm_set_stk S v) = cm_cyc S := rfl
theorem mg_cyc_flt (S : MS) (v : Nat → Int32) : cm_cyc (cm_set_flt S v) = cm_cyc S := rfl
theorem mg_cyc_pts (S : MS) (v : Nat → Int64) : cm_cyc (cm_set_pts S v) = cm_cyc S := rfl
theorem mg_cyc_rng (S : MS) (v : Nat → Int32) : cm_cyc (cm_set_rng S v) = cm_cyc S := rfl
theorem mg_cyc_low (S : MS) (v : Nat → Int32) : cm_cyc (cm_set_low S v) = cm_cyc S := rfl
theorem mg_ch_th (S : MS) (v : Int32) : cm_ch (cm_set_th S v) = cm_ch S := rfl
theorem mg_ch_st (S : MS) (v : Nat) : cm_ch (cm_set_st S v) = cm_ch S := rfl
theorem mg_ch_steps (S : MS) (v : Int32) : cm_ch (cm_set_steps S v) = cm_ch S := rfl
theorem mg_ch_beg (S : MS) (v : Int32) : cm_ch (cm_set_beg S v) = cm_ch S := rfl
theorem mg_ch_fc (S : MS) (v : Nat) : cm_ch (cm_set_fc S v) = cm_ch S := rfl
theorem mg_ch_many (S : MS) (v : Nat) : cm_ch (cm_set_many S v) = cm_ch S := rfl
theorem mg_ch_cyc (S : MS) (v : Nat) : cm_ch (cm_set_cyc S v) = cm_ch S := rfl
theorem mg_ch_ch (S : MS) (v : Nat → Int64) : cm_ch (cm_set_ch S v) = v := rfl
theorem mg_ch_es (S : MS) (v : Nat → UInt64) : cm_ch (cm_set_es S v) = cm_ch S := rfl
theorem mg_ch_vo (S : MS) (v : Nat → Int64) : cm_ch (cm_set_vo S v) = cm_ch S := rfl
theorem mg_ch_wa (S : MS) (v : Nat → Int64) : cm_ch (cm_set_wa S v) = cm_ch S := rfl
theorem mg_ch_be (S : MS) (v : Nat → Int32) : cm_ch (cm_set_be S v) = cm_ch S := rfl
theorem mg_ch_bl (S : MS) (v : Nat → Int32) : cm_ch (cm_set_bl S v) = cm_ch S := rfl
theorem mg_ch_lim (S : MS) (v : Nat → Int64) : cm_ch (cm_set_lim S v) = cm_ch S := rfl
theorem mg_ch_stk (S : MS) (v : Nat → Int32) : cm_ch (cm_set_stk S v) = cm_ch S := rfl
theorem mg_ch_flt (S : MS) (v : Nat → Int32) : cm_ch (cm_set_flt S v) = cm_ch S := rfl
theorem mg_ch_pts (S : MS) (v : Nat → Int64) : cm_ch (cm_set_pts S v) = cm_ch S := rfl
theorem mg_ch_rng (S : MS) (v : Nat → Int32) : cm_ch (cm_set_rng S v) = cm_ch S := rfl
theorem mg_ch_low (S : MS) (v : Nat → Int32) : cm_ch (cm_set_low S v) = cm_ch S := rfl
theorem mg_es_th (S : MS) (v : Int32) : cm_es (cm_set_th S v) = cm_es S := rfl
theorem mg_es_st (S : MS) (v : Nat) : cm_es (cm_set_st S v) = cm_es S := rfl
theorem mg_es_steps (S : MS) (v : Int32) : cm_es (cm_set_steps S v) = cm_es S := rfl
theorem mg_es_beg (S : MS) (v : Int32) : cm_es (cm_set_beg S v) = cm_es S := rfl
theorem mg_es_fc (S : MS) (v : Nat) : cm_es (cm_set_fc S v) = cm_es S := rfl
theorem mg_es_many (S : MS) (v : Nat) : cm_es (cm_set_many S v) = cm_es S := rfl
theorem mg_es_cyc (S : MS) (v : Nat) : cm_es (cm_set_cyc S v) = cm_es S := rfl
theorem mg_es_ch (S : MS) (v : Nat → Int64) : cm_es (cm_set_ch S v) = cm_es S := rfl
theorem mg_es_es (S : MS) (v : Nat → UInt64) : cm_es (cm_set_es S v) = v := rfl
theorem mg_es_vo (S : MS) (v : Nat → Int64) : cm_es (cm_set_vo S v) = cm_es S := rfl
theorem mg_es_wa (S : MS) (v : Nat → Int64) : cm_es (cm_set_wa S v) = cm_es S := rfl
theorem mg_es_be (S : MS) (v : Nat → Int32) : cm_es (cm_set_be S v) = cm_es S := rfl
theorem mg_es_bl (S : MS) (v : Nat → Int32) : cm_es (cm_set_bl S v) = cm_es S := rfl
theorem mg_es_lim (S : MS) (v : Nat → Int64) : cm_es (cm_set_lim S v) = cm_es S := rfl
theorem mg_es_stk (S : MS) (v : Nat → Int32) : cm_es (cm_set_stk S v) = cm_es S := rfl
theorem mg_es_flt (S : MS) (v : Nat → Int32) : cm_es (cm_set_flt S v) = cm_es S := rfl
theorem mg_es_pts (S : MS) (v : Nat → Int64) : cm_es (cm_set_pts S v) = cm_es S := rfl
theorem mg_es_rng (S : MS) (v : Nat → Int32) : cm_es (cm_set_rng S v) = cm_es S := rfl
theorem mg_es_low (S : MS) (v : Nat → Int32) : cm_es (cm_set_low S v) = cm_es S := rfl
theorem mg_vo_th (S : MS) (v : Int32) : cm_vo (cm_set_th S v) = cm_vo S := rfl
theorem mg_vo_st (S : MS) (v : Nat) : cm_vo (cm_set_st S v) = cm_vo S := rfl
theorem mg_vo_steps (S : MS) (v : Int32) : cm_vo (cm_set_steps S v) = cm_vo S := rfl
theorem mg_vo_beg (S : MS) (v : Int32) : cm_vo (cm_set_beg S v) = cm_vo S := rfl
theorem mg_vo_fc (S : MS) (v : Nat) : cm_vo (cm_set_fc S v) = cm_vo S := rfl
theorem mg_vo_many (S : MS) (v : Nat) : cm_vo (cm_set_many S v) = cm_vo S := rfl
theorem mg_vo_cyc (S : MS) (v : Nat) : cm_vo (cm_set_cyc S v) = cm_vo S := rfl
theorem mg_vo_ch (S : MS) (v : Nat → Int64) : cm_vo (cm_set_ch S v) = cm_vo S := rfl
theorem mg_vo_es (S : MS) (v : Nat → UInt64) : cm_vo (cm_set_es S v) = cm_vo S := rfl
theorem mg_vo_vo (S : MS) (v : Nat → Int64) : cm_vo (cm_set_vo S v) = v := rfl
theorem mg_vo_wa (S : MS) (v : Nat → Int64) : cm_vo (cm_set_wa S v) = cm_vo S := rfl
theorem mg_vo_be (S : MS) (v : Nat → Int32) : cm_vo (cm_set_be S v) = cm_vo S := rfl
theorem mg_vo_bl (S : MS) (v : Nat → Int32) : cm_vo (cm_set_bl S v) = cm_vo S := rfl
theorem mg_vo_lim (S : MS) (v : Nat → Int64) : cm_vo (cm_set_lim S v) = cm_vo S := rfl
theorem mg_vo_stk (S : MS) (v : Nat → Int32) : cm_vo (cm_set_stk S v) = cm_vo S := rfl
theorem mg_vo_flt (S : MS) (v : Nat → Int32) : cm_vo (cm_set_flt S v) = cm_vo S := rfl
theorem mg_vo_pts (S : MS) (v : Nat → Int64) : cm_vo (cm_set_pts S v) = cm_vo S := rfl
theorem mg_vo_rng (S : MS) (v : Nat → Int32) : cm_vo (cm_set_rng S v) = cm_vo S := rfl
theorem mg_vo_low (S : MS) (v : Nat → Int32) : cm_vo (cm_set_low S v) = cm_vo S := rfl
theorem mg_wa_th (S : MS) (v : Int32) : cm_wa (cm_set_th S v) = cm_wa S := rfl
theorem mg_wa_st (S : MS) (v : Nat) : cm_wa (cm_set_st S v) = cm_wa S := rfl
theorem mg_wa_steps (S : MS) (v : Int32) : cm_wa (cm_set_steps S v) = cm_wa S := rfl
theorem mg_wa_beg (S : MS) (v : Int32) : cm_wa (cm_set_beg S v) = cm_wa S := rfl
theorem mg_wa_fc (S : MS) (v : Nat) : cm_wa (cm_set_fc S v) = cm_wa S := rfl
theorem mg_wa_many (S : MS) (v : Nat) : cm_wa (cm_set_many S v) = cm_wa S := rfl
theorem mg_wa_cyc (S : MS) (v : Nat) : cm_wa (cm_set_cyc S v) = cm_wa S := rfl
theorem mg_wa_ch (S : MS) (v : Nat → Int64) : cm_wa (cm_set_ch S v) = cm_wa S := rfl
theorem mg_wa_es (S : MS) (v : Nat → UInt64) : cm_wa (cm_set_es S v) = cm_wa S := rfl
theorem mg_wa_vo (S : MS) (v : Nat → Int64) : cm_wa (cm_set_vo S v) = cm_wa S := rfl
theorem mg_wa_wa (S : MS) (v : Nat → Int64) : cm_wa (cm_set_wa S v) = v := rfl
theorem mg_wa_be (S : MS) (v : Nat → Int32) : cm_wa (cm_set_be S v) = cm_wa S := rfl
theorem mg_wa_bl (S : MS) (v : Nat → Int32) : cm_wa (cm_set_bl S v) = cm_wa S := rfl
theorem mg_wa_lim (S : MS) (v : Nat → Int64) : cm_wa (cm_set_lim S v) = cm_wa S := rfl
theorem mg_wa_stk (S : MS) (v : Nat → Int32) : cm_wa (cm_set_stk S v) = cm_wa S := rfl
theorem mg_wa_flt (S : MS) (v : Nat → Int32) : cm_wa (cm_set_flt S v) = cm_wa S := rfl
theorem mg_wa_pts (S : MS) (v : Nat → Int64) : cm_wa (cm_set_pts S v) = cm_wa S := rfl
theorem mg_wa_rng (S : MS) (v : Nat → Int32) : cm_wa (cm_set_rng S v) = cm_wa S := rfl
theorem mg_wa_low (S : MS) (v : Nat → Int32) : cm_wa (cm_set_low S v) = cm_wa S := rfl
theorem mg_be_th (S : MS) (v : Int32) : cm_be (cm_set_th S v) = cm_be S := rfl
theorem mg_be_st (S : MS) (v : Nat) : cm_be (cm_set_st S v) = cm_be S := rfl
theorem mg_be_steps (S : MS) (v : Int32) : cm_be (cm_set_steps S v) = cm_be S := rfl
theorem mg_be_beg (S : MS) (v : Int32) : cm_be (cm_set_beg S v) = cm_be S := rfl
theorem mg_be_fc (S : MS) (v : Nat) : cm_be (cm_set_fc S v) = cm_be S := rfl
theorem mg_be_many (S : MS) (v : Nat) : cm_be (cm_set_many S v) = cm_be S := rfl
theorem mg_be_cyc (S : MS) (v : Nat) : cm_be (cm_set_cyc S v) = cm_be S := rfl
theorem mg_be_ch (S : MS) (v : Nat → Int64) : cm_be (cm_set_ch S v) = cm_be S := rfl
theorem mg_be_es (S : MS) (v : Nat → UInt64) : cm_be (cm_set_es S v) = cm_be S := rfl
theorem mg_be_vo (S : MS) (v : Nat → Int64) : cm_be (cm_set_vo S v) = cm_be S := rfl
theorem mg_be_wa (S : MS) (v : Nat → Int64) : cm_be (cm_set_wa S v) = cm_be S := rfl
theorem mg_be_be (S : MS) (v : Nat → Int32) : cm_be (cm_set_be S v) = v := rfl
theorem mg_be_bl (S : MS) (v : Nat → Int32) : cm_be (cm_set_bl S v) = cm_be S := rfl
theorem mg_be_lim (S : MS) (v : Nat → Int64) : cm_be (cm_set_lim S v) = cm_be S := rfl
theorem mg_be_stk (S : MS) (v : Nat → Int32) : cm_be (cm_set_stk S v) = cm_be S := rfl
theorem mg_be_flt (S : MS) (v : Nat → Int32) : cm_be (cm_set_flt S v) = cm_be S := rfl
theorem mg_be_pts (S : MS) (v : Nat → Int64) : cm_be (cm_set_pts S v) = cm_be S := rfl
theorem mg_be_rng (S : MS) (v : Nat → Int32) : cm_be (cm_set_rng S v) = cm_be S := rfl
theorem mg_be_low (S : MS) (v : Nat → Int32) : cm_be (cm_set_low S v) = cm_be S := rfl
theorem mg_bl_th (S : MS) (v : Int32) : cm_bl (cm_set_th S v) = cm_bl S := rfl
theorem mg_bl_st (S : MS) (v : Nat) : cm_bl (cm_set_st S v) = cm_bl S := rfl
theorem mg_bl_steps (S : MS) (v : Int32) : cm_bl (cm_set_steps S v) = cm_bl S := rfl
theorem mg_bl_beg (S : MS) (v : Int32) : cm_bl (cm_set_beg S v) = cm_bl S := rfl
theorem mg_bl_fc (S : MS) (v : Nat) : cm_bl (cm_set_fc S v) = cm_bl S := rfl
theorem mg_bl_many (S : MS) (v : Nat) : cm_bl (cm_set_many S v) = cm_bl S := rfl
theorem mg_bl_cyc (S : MS) (v : Nat) : cm_bl (cm_set_cyc S v) = cm_bl S := rfl
theorem mg_bl_ch (S : MS) (v : Nat → Int64) : cm_bl (cm_set_ch S v) = cm_bl S := rfl
theorem mg_bl_es (S : MS) (v : Nat → UInt64) : cm_bl (cm_set_es S v) = cm_bl S := rfl
theorem mg_bl_vo (S : MS) (v : Nat → Int64) : cm_bl (cm_set_vo S v) = cm_bl S := rfl
theorem mg_bl_wa (S : MS) (v : Nat → Int64) : cm_bl (cm_set_wa S v) = cm_bl S := rfl
theorem mg_bl_be (S : MS) (v : Nat → Int32) : cm_bl (cm_set_be S v) = cm_bl S := rfl
theorem mg_bl_bl (S : MS) (v : Nat → Int32) : cm_bl (cm_set_bl S v) = v := rfl
theorem mg_bl_lim (S : MS) (v : Nat → Int64) : cm_bl (cm_set_lim S v) = cm_bl S := rfl
theorem mg_bl_stk (S : MS) (v : Nat → Int32) : cm_bl (cm_set_stk S v) = cm_bl S := rfl
theorem mg_bl_flt (S : MS) (v : Nat → Int32) : cm_bl (cm_set_flt S v) = cm_bl S := rfl
theorem mg_bl_pts (S : MS) (v : Nat → Int64) : cm_bl (cm_set_pts S v) = cm_bl S := rfl
theorem mg_bl_rng (S : MS) (v : Nat → Int32) : cm_bl (cm_set_rng S v) = cm_bl S := rfl
theorem mg_bl_low (S : MS) (v : Nat → Int32) : cm_bl (cm_set_low S v) = cm_bl S := rfl
theorem mg_lim_th (S : MS) (v : Int32) : cm_lim (cm_set_th S v) = cm_lim S := rfl
theorem mg_lim_st (S : MS) (v : Nat) : cm_lim (cm_set_st S v) = cm_lim S := rfl
theorem mg_lim_steps (S : MS) (v : Int32) : cm_lim (cm_set_steps S v) = cm_lim S := rfl
theorem mg_lim_beg (S : MS) (v : Int32) : cm_lim (cm_set_beg S v) = cm_lim S := rfl
theorem mg_lim_fc (S : MS) (v : Nat) : cm_lim (cm_set_fc S v) = cm_lim S := rfl
theorem mg_lim_many (S : MS) (v : Nat) : cm_lim (cm_set_many S v) = cm_lim S := rfl
theorem mg_lim_cyc (S : MS) (v : Nat) : cm_lim (cm_set_cyc S v) = cm_lim S := rfl
theorem mg_lim_ch (S : MS) (v : Nat → Int64) : cm_lim (cm_set_ch S v) = cm_lim S := rfl
theorem mg_lim_es (S : MS) (v : Nat → UInt64) : cm_lim (cm_set_es S v) = cm_lim S := rfl
theorem mg_lim_vo (S : MS) (v : Nat → Int64) : cm_lim (cm_set_vo S v) = cm_lim S := rfl
theorem mg_lim_wa (S : MS) (v : Nat → Int64) : cm_lim (cm_set_wa S v) = cm_lim S := rfl
theorem mg_lim_be (S : MS) (v : Nat → Int32) : cm_lim (cm_set_be S v) = cm_lim S := rfl
theorem mg_lim_bl (S : MS) (v : Nat → Int32) : cm_lim (cm_set_bl S v) = cm_lim S := rfl
theorem mg_lim_lim (S : MS) (v : Nat → Int64) : cm_lim (cm_set_lim S v) = v := rfl
theorem mg_lim_stk (S : MS) (v : Nat → Int32) : cm_lim (cm_set_stk S v) = cm_lim S := rfl
theorem mg_lim_flt (S : MS) (v : Nat → Int32) : cm_lim (cm_set_flt S v) = cm_lim S := rfl
theorem mg_lim_pts (S : MS) (v : Nat → Int64) : cm_lim (cm_set_pts S v) = cm_lim S := rfl
theorem mg_lim_rng (S : MS) (v : Nat → Int32) : cm_lim (cm_set_rng S v) = cm_lim S := rfl
theorem mg_lim_low (S : MS) (v : Nat → Int32) : cm_lim (cm_set_low S v) = cm_lim S := rfl
theorem mg_stk_th (S : MS) (v : Int32) : cm_stk (cm_set_th S v) = cm_stk S := rfl
theorem mg_stk_st (S : MS) (v : Nat) : cm_stk (cm_set_st S v) = cm_stk S := rfl
theorem mg_stk_steps (S : MS) (v : Int32) : cm_stk (cm_set_steps S v) = cm_stk S := rfl
theorem mg_stk_beg (S : MS) (v : Int32) : cm_stk (cm_set_beg S v) = cm_stk S := rfl
theorem mg_stk_fc (S : MS) (v : Nat) : cm_stk (cm_set_fc S v) = cm_stk S := rfl
theorem mg_stk_many (S : MS) (v : Nat) : cm_stk (cm_set_many S v) = cm_stk S := rfl
theorem mg_stk_cyc (S : MS) (v : Nat) : cm_stk (cm_set_cyc S v) = cm_stk S := rfl
theorem mg_stk_ch (S : MS) (v : Nat → Int64) : cm_stk (cm_set_ch S v) = cm_stk S := rfl
theorem mg_stk_es (S : MS) (v : Nat → UInt64) : cm_stk (cm_set_es S v) = cm_stk S := rfl
theorem mg_stk_vo (S : MS) (v : Nat → Int64) : cm_stk (cm_set_vo S v) = cm_stk S := rfl
theorem mg_stk_wa (S : MS) (v : Nat → Int64) : cm_stk (cm_set_wa S v) = cm_stk S := rfl
theorem mg_stk_be (S : MS) (v : Nat → Int32) : cm_stk (cm_set_be S v) = cm_stk S := rfl
theorem mg_stk_bl (S : MS) (v : Nat → Int32) : cm_stk (cm_set_bl S v) = cm_stk S := rfl
theorem mg_stk_lim (S : MS) (v : Nat → Int64) : cm_stk (cm_set_lim S v) = cm_stk S := rfl
theorem mg_stk_stk (S : MS) (v : Nat → Int32) : cm_stk (cm_set_stk S v) = v := rfl
theorem mg_stk_flt (S : MS) (v : Nat → Int32) : cm_stk (cm_set_flt S v) = cm_stk S := rfl
theorem mg_stk_pts (S : MS) (v : Nat → Int64) : cm_stk (cm_set_pts S v) = cm_stk S := rfl
theorem mg_stk_rng (S : MS) (v : Nat → Int32) : cm_stk (cm_set_rng S v) = cm_stk S := rfl
theorem mg_stk_low (S : MS) (v : Nat → Int32) : cm_stk (cm_set_low S v) = cm_stk S := rfl
theorem mg_flt_th (S : MS) (v : Int32) : cm_flt (cm_set_th S v) = cm_flt S := rfl
theorem mg_flt_st (S : MS) (v : Nat) : cm_flt (cm_set_st S v) = cm_flt S := rfl
theorem mg_flt_steps (S : MS) (v : Int32) : cm_flt (cm_set_steps S v) = cm_flt S := rfl
theorem mg_flt_beg (S : MS) (v : Int32) : cm_flt (cm_set_beg S v) = cm_flt S := rfl
theorem mg_flt_fc (S : MS) (v : Nat) : cm_flt (cm_set_fc S v) = cm_flt S := rfl
theorem mg_flt_many (S : MS) (v : Nat) : cm_flt (cm_set_many S v) = cm_flt S := rfl
theorem mg_flt_cyc (S : MS) (v : Nat) : cm_flt (cm_set_cyc S v) = cm_flt S := rfl
theorem mg_flt_ch (S : MS) (v : Nat → Int64) : cm_flt (cm_set_ch S v) = cm_flt S := rfl
theorem mg_flt_es (S : MS) (v : Nat → UInt64) : cm_flt (cm_set_es S v) = cm_flt S := rfl
theorem mg_flt_vo (S : MS) (v : Nat → Int64) : cm_flt (cm_set_vo S v) = cm_flt S := rfl
theorem mg_flt_wa (S : MS) (v : Nat → Int64) : cm_flt (cm_set_wa S v) = cm_flt S := rfl
theorem mg_flt_be (S : MS) (v : Nat → Int32) : cm_flt (cm_set_be S v) = cm_flt S := rfl
theorem mg_flt_bl (S : MS) (v : Nat → Int32) : cm_flt (cm_set_bl S v) = cm_flt S := rfl
theorem mg_flt_lim (S : MS) (v : Nat → Int64) : cm_flt (cm_set_lim S v) = cm_flt S := rfl
theorem mg_flt_stk (S : MS) (v : Nat → Int32) : cm_flt (cm_set_stk S v) = cm_flt S := rfl
theorem mg_flt_flt (S : MS) (v : Nat → Int32) : cm_flt (cm_set_flt S v) = v := rfl
theorem mg_flt_pts (S : MS) (v : Nat → Int64) : cm_flt (cm_set_pts S v) = cm_flt S := rfl
theorem mg_flt_rng (S : MS) (v : Nat → Int32) : cm_flt (cm_set_rng S v) = cm_flt S := rfl
theorem mg_flt_low (S : MS) (v : Nat → Int32) : cm_flt (cm_set_low S v) = cm_flt S := rfl
theorem mg_pts_th (S : MS) (v : Int32) : cm_pts (cm_set_th S v) = cm_pts S := rfl
theorem mg_pts_st (S : MS) (v : Nat) : cm_pts (cm_set_st S v) = cm_pts S := rfl
theorem mg_pts_steps (S : MS) (v : Int32) : cm_pts (cm_set_steps S v) = cm_pts S := rfl
theorem mg_pts_beg (S : MS) (v : Int32) : cm_pts (cm_set_beg S v) = cm_pts S := rfl
theorem mg_pts_fc (S : MS) (v : Nat) : cm_pts (cm_set_fc S v) = cm_pts S := rfl
theorem mg_pts_many (S : MS) (v : Nat) : cm_pts (cm_set_many S v) = cm_pts S := rfl
theorem mg_pts_cyc (S : MS) (v : Nat) : cm_pts (cm_set_cyc S v) = cm_pts S := rfl
theorem mg_pts_ch (S : MS) (v : Nat → Int64) : cm_pts (cm_set_ch S v) = cm_pts S := rfl
theorem mg_pts_es (S : MS) (v : Nat → UInt64) : cm_pts (cm_set_es S v) = cm_pts S := rfl
theorem mg_pts_vo (S : MS) (v : Nat → Int64) : cm_pts (cm_set_vo S v) = cm_pts S := rfl
theorem mg_pts_wa (S : MS) (v : Nat → Int64) : cm_pts (cm_set_wa S v) = cm_pts S := rfl
theorem mg_pts_be (S : MS) (v : Nat → Int32) : cm_pts (cm_set_be S v) = cm_pts S := rfl
theorem mg_pts_bl (S : MS) (v : Nat → Int32) : cm_pts (cm_set_bl S v) = cm_pts S := rfl
theorem mg_pts_lim (S : MS) (v : Nat → Int64) : cm_pts (cm_set_lim S v) = cm_pts S := rfl
theorem mg_pts_stk (S : MS) (v : Nat → Int32) : cm_pts (cm_set_stk S v) = cm_pts S := rfl
theorem mg_pts_flt (S : MS) (v : Nat → Int32) : cm_pts (cm_set_flt S v) = cm_pts S := rfl
theorem mg_pts_pts (S : MS) (v : Nat → Int64) : cm_pts (cm_set_pts S v) = v := rfl
theorem mg_pts_rng (S : MS) (v : Nat → Int32) : cm_pts (cm_set_rng S v) = cm_pts S := rfl
theorem mg_pts_low (S : MS) (v : Nat → Int32) : cm_pts (cm_set_low S v) = cm_pts S := rfl
theorem mg_rng_th (S : MS) (v : Int32) : cm_rng (cm_set_th S v) = cm_rng S := rfl
theorem mg_rng_st (S : MS) (v : Nat) : cm_rng (cm_set_st S v) = cm_rng S := rfl
theorem mg_rng_steps (S : MS) (v : Int32) : cm_rng (cm_set_steps S v) = cm_rng S := rfl
theorem mg_rng_beg (S : MS) (v : Int32) : cm_rng (cm_set_beg S v) = cm_rng S := rfl
theorem mg_rng_fc (S : MS) (v : Nat) : cm_rng (cm_set_fc S v) = cm_rng S := rfl
theorem mg_rng_many (S : MS) (v : Nat) : cm_rng (cm_set_many S v) = cm_rng S := rfl
theorem mg_rng_cyc (S : MS) (v : Nat) : cm_rng (cm_set_cyc S v) = cm_rng S := rfl
theorem mg_rng_ch (S : MS) (v : Nat → Int64) : cm_rng (cm_set_ch S v) = cm_rng S := rfl
theorem mg_rng_es (S : MS) (v : Nat → UInt64) : cm_rng (cm_set_es S v) = cm_rng S := rfl
theorem mg_rng_vo (S : MS) (v : Nat → Int64) : cm_rng (cm_set_vo S v) = cm_rng S := rfl
theorem mg_rng_wa (S : MS) (v : Nat → Int64) : cm_rng (cm_set_wa S v) = cm_rng S := rfl
theorem mg_rng_be (S : MS) (v : Nat → Int32) : cm_rng (cm_set_be S v) = cm_rng S := rfl
theorem mg_rng_bl (S : MS) (v : Nat → Int32) : cm_rng (cm_set_bl S v) = cm_rng S := rfl
theorem mg_rng_lim (S : MS) (v : Nat → Int64) : cm_rng (cm_set_lim S v) = cm_rng S := rfl
theorem mg_rng_stk (S : MS) (v : Nat → Int32) : cm_rng (cm_set_stk S v) = cm_rng S := rfl
theorem mg_rng_flt (S : MS) (v : Nat → Int32) : cm_rng (cm_set_flt S v) = cm_rng S := rfl
theorem mg_rng_pts (S : MS) (v : Nat → Int64) : cm_rng (cm_set_pts S v) = cm_rng S := rfl
theorem mg_rng_rng (S : MS) (v : Nat → Int32) : cm_rng (cm_set_rng S v) = v := rfl
theorem mg_rng_low (S : MS) (v : Nat → Int32) : cm_rng (cm_set_low S v) = cm_rng S := rfl
theorem mg_low_th (S : MS) (v : Int32) : cm_low (cm_set_th S v) = cm_low S := rfl
theorem mg_low_st (S : MS) (v : Nat) : cm_low (cm_set_st S v) = cm_low S := rfl
theorem mg_low_steps (S : MS) (v : Int32) : cm_low (cm_set_steps S v) = cm_low S := rfl
theorem mg_low_beg (S : MS) (v : Int32) : cm_low (cm_set_beg S v) = cm_low S := rfl
theorem mg_low_fc (S : MS) (v : Nat) : cm_low (cm_set_fc S v) = cm_low S := rfl
theorem mg_low_many (S : MS) (v : Nat) : cm_low (cm_set_many S v) = cm_low S := rfl
theorem mg_low_cyc (S : MS) (v : Nat) : cm_low (cm_set_cyc S v) = cm_low S := rfl
theorem mg_low_ch (S : MS) (v : Nat → Int64) : cm_low (cm_set_ch S v) = cm_low S := rfl
theorem mg_low_es (S : MS) (v : Nat → UInt64) : cm_low (cm_set_es S v) = cm_low S := rfl
theorem mg_low_vo (S : MS) (v : Nat → Int64) : cm_low (cm_set_vo S v) = cm_low S := rfl
theorem mg_low_wa (S : MS) (v : Nat → Int64) : cm_low (cm_set_wa S v) = cm_low S := rfl
theorem mg_low_be (S : MS) (v : Nat → Int32) : cm_low (cm_set_be S v) = cm_low S := rfl
theorem mg_low_bl (S : MS) (v : Nat → Int32) : cm_low (cm_set_bl S v) = cm_low S := rfl
theorem mg_low_lim (S : MS) (v : Nat → Int64) : cm_low (cm_set_lim S v) = cm_low S := rfl
theorem mg_low_stk (S : MS) (v : Nat → Int32) : cm_low (cm_set_stk S v) = cm_low S := rfl
theorem mg_low_flt (S : MS) (v : Nat → Int32) : cm_low (cm_set_flt S v) = cm_low S := rfl
theorem mg_low_pts (S : MS) (v : Nat → Int64) : cm_low (cm_set_pts S v) = cm_low S := rfl
theorem mg_low_rng (S : MS) (v : Nat → Int32) : cm_low (cm_set_rng S v) = cm_low S := rfl
theorem mg_low_low (S : MS) (v : Nat → Int32) : cm_low (cm_set_low S v) = v := rfl
