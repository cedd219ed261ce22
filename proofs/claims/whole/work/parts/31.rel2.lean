/-! the relation between the class's state and the reference's, after k calls -/
def RTx (S : CS) (M : MS) : Prop := (cm_many M = 0 ∧ cm_cyc M = 0 ∧ cs_pc S = 1 ∧ cs_cyc S = 0 ∧ cs_pts S 0 = 50000 ∧ cm_ch M 0 = 50000) ∨ (1 ≤ cm_many M ∧ RT S M)
def RC (n : Nat) (S : CS) (M : MS) : Prop := ∀ j, j < n → cs_ch S j = cm_ch M j ∧ cs_vo S j = cm_vo M j ∧ cs_wa S j = cm_wa M j ∧ cs_be S j = cm_be M j ∧ cs_bl S j = cm_bl M j ∧ cs_es S j = cm_es M j
def RB (n : Nat) (M : MS) (k : Nat) : Prop := ∀ j, j < n → (∃ b, cm_be M j = nI b ∧ b ≤ k) ∧ okD 1026 (cm_es M j) ∧ -(50000 + 100005 * (k : Int)) ≤ (cm_ch M j).toInt ∧ (cm_ch M j).toInt ≤ 50000 + 100005 * (k : Int)
def RF (S : CS) (M : MS) (k : Nat) : Prop := cs_fc S = cm_fc M ∧ cm_fc M ≤ 2 * k ∧ ∀ j, j < cm_fc M → cs_flt S j = cm_flt M j
def RG (S : CS) (M : MS) : Prop := cs_st S = cm_st M ∧ cm_st M ≤ 3 ∧ (cm_st M = 2 → cs_pre S = cm_steps M - cm_beg M) ∧ (∀ j, j < 6 → cs_lim S j = cm_lim M j) ∧ (∀ j, j < 3 → cs_stk S j = cm_stk M j) ∧ 0 ≤ (cm_lim M 5).toInt ∧ (cm_lim M 5).toInt ≤ 1000000
def RK (S : CS) (M : MS) (k : Nat) : Prop := cs_pc S + 2 * cs_cyc S ≤ 1 + k ∧ cm_many M ≤ 500 ∧ cs_pc S ≤ 500
def Rel (n : Nat) (S : CS) (M : MS) (k : Nat) : Prop := RC n S M ∧ RB n M k ∧ RF S M k ∧ RG S M ∧ RTx S M ∧ RK S M k
theorem RB.mono {n : Nat} {M : MS} {k : Nat} (h : RB n M k) : RB n M (k + 1) := fun j hj => by
  obtain ⟨⟨b, h1, h2⟩, h3, h4, h5⟩ := h j hj
  exact ⟨⟨b, h1, by omega⟩, h3, by omega, by omega⟩
theorem Rel.mono {n : Nat} {S : CS} {M : MS} {k : Nat} (h : Rel n S M k) : Rel n S M (k + 1) := ⟨h.1, h.2.1.mono, ⟨h.2.2.1.1, by have := h.2.2.1.2.1; omega, h.2.2.1.2.2⟩, h.2.2.2.1, h.2.2.2.2.1, by have := h.2.2.2.2.2; exact ⟨by have := this.1; omega, this.2⟩⟩
/-- 'thrown' is nobody's business -/
theorem Rel.th {n : Nat} {S : CS} {M : MS} {k : Nat} (v : Int32) (h : Rel n S M k) : Rel n S (cm_set_th M v) k := h
theorem ix_lt {n : Nat} {p : Int32} {j : Nat} (h : ix n p = some j) : j < n := (ix_some h).1
/-! answers -/
theorem q_charge {n : Nat} {S : CS} {M : MS} {k : Nat} (h : Rel n S M k) (p : Int32) : (ix n p).elim 0 (cs_ch S) = (ix n p).elim 0 (cm_ch M) := by
  cases hq : ix n p with
  | none => rfl
  | some j => exact (h.1 j (ix_lt hq)).1
theorem q_share {n : Nat} {S : CS} {M : MS} {k : Nat} (h : Rel n S M k) (p : Int32) : (ix n p).elim FP.dconst0 (cs_es S) = (ix n p).elim FP.dconst0 (cm_es M) := by
  cases hq : ix n p with
  | none => rfl
  | some j => exact (h.1 j (ix_lt hq)).2.2.2.2.2
theorem q_weakest {n : Nat} {S : CS} {M : MS} {k : Nat} (h : Rel n S M k) (hn : 1 ≤ n) : nI (sWk (cs_ch S) n) = nI (mWk (cm_ch M) (n - 1)) := by
  rw [sWk_congr n (fun j hj => (h.1 j hj).1), ← sWk_m, Nat.sub_add_cancel hn]
theorem q_least {n : Nat} {S : CS} {M : MS} {k : Nat} (h : Rel n S M k) (hn : 1 ≤ n) : sLv (cs_vo S) n = mLv (cm_vo M) (n - 1) := by
  rw [sLv_congr n (fun j hj => (h.1 j hj).2.1), ← sLv_m, Nat.sub_add_cancel hn]
theorem q_cool {n : Nat} {S : CS} {M : MS} {k : Nat} (h : Rel n S M k) (hn : 1 ≤ n) : rCool S n = rmCool M n := by
  unfold rCool rmCool
  rw [sGw_congr n (fun j hj => (h.1 j hj).2.2.1), ← sGw_m, Nat.sub_add_cancel hn]
theorem q_fault {n : Nat} {S : CS} {M : MS} {k : Nat} (h : Rel n S M k) (p : Int32) : (ix (cs_fc S) p).elim 0 (cs_flt S) = (ix (cm_fc M) p).elim 0 (cm_flt M) := by
  obtain ⟨h1, -, h2⟩ := h.2.2.1
  rw [h1]
  cases hq : ix (cm_fc M) p with
  | none => rfl
  | some j => exact h2 j (ix_lt hq)
theorem q_cycle {n : Nat} {S : CS} {M : MS} {k : Nat} (h : Rel n S M k) (p w : Int32) : rCyc S p w = rmCyc M p w := by
  have hc : cs_cyc S = cm_cyc M := by
    rcases h.2.2.2.2.1 with ⟨-, h2, -, h4, -⟩ | ⟨-, -, h2, -⟩
    · rw [h2, h4]
    · exact h2
  have hb : ∀ j, j < cm_cyc M → (cs_rng S j).toInt32 = cm_rng M j ∧ (cs_low S j).toInt32 = cm_low M j := by
    rcases h.2.2.2.2.1 with ⟨-, h2, -⟩ | ⟨-, -, -, -, h5⟩
    · intro j hj; omega
    · exact h5
  have e : rCyc2 S p w = rmCyc2 M p w := by
    unfold rCyc2 rmCyc2
    rw [hc]
    cases hq : ix (cm_cyc M) p with
    | none => rfl
    | some j =>
      obtain ⟨b1, b2⟩ := hb j (ix_lt hq)
      show (if w = 0 then (cs_rng S j).toInt32 else if w = 1 then (cs_low S j).toInt32 else (-2)) = _
      rw [b1, b2]
      rfl
  unfold rCyc rmCyc
  rw [e, hc]
/-! a fault noted -/
theorem RF_note {S : CS} {M : MS} {k : Nat} {i : Int32} (h : RF S M k) (hk : cm_fc M + 1 ≤ 2 * k) : RF (sNote S i) (mNote M i) k := by
  obtain ⟨h1, h2, h3⟩ := h
  have a1 : cs_fc (sNote S i) = cs_fc S + 1 := by unfold sNote; rw [cg_fc_fc]
  have a2 : cs_flt (sNote S i) = va_up (cs_flt S) (cs_fc S) i := by unfold sNote; rw [cg_flt_fc, cg_flt_flt]
  have b2 : cm_flt (mNote M i) = va_up (cm_flt M) (cm_fc M) i := by unfold mNote; rw [mg_flt_st, mg_flt_fc, mg_flt_flt]
  refine ⟨by rw [a1, mNote_fc, h1], by rw [mNote_fc]; exact hk, fun j hj => ?_⟩
  rw [mNote_fc] at hj
  rw [a2, b2, h1]
  unfold va_up
  by_cases q : j = cm_fc M
  · rw [if_pos q, if_pos q]
  · rw [if_neg q, if_neg q]; exact h3 j (by omega)
theorem RF.up {S : CS} {M : MS} {k : Nat} (h : RF S M k) : RF S M (k + 1) := ⟨h.1, by have := h.2.1; omega, h.2.2⟩
theorem sNote_k (S : CS) (i : Int32) : cs_st (sNote S i) = 0 ∧ cs_pc (sNote S i) = cs_pc S ∧ cs_cyc (sNote S i) = cs_cyc S ∧ cs_lim (sNote S i) = cs_lim S ∧ cs_stk (sNote S i) = cs_stk S ∧ cs_pts (sNote S i) = cs_pts S ∧ cs_rng (sNote S i) = cs_rng S ∧ cs_low (sNote S i) = cs_low S ∧ cs_ch (sNote S i) = cs_ch S ∧ cs_es (sNote S i) = cs_es S ∧ cs_vo (sNote S i) = cs_vo S ∧ cs_wa (sNote S i) = cs_wa S ∧ cs_be (sNote S i) = cs_be S ∧ cs_bl (sNote S i) = cs_bl S ∧ cs_pre (sNote S i) = cs_pre S := by
  unfold sNote
  simp only [cg_st_fc, cg_st_flt, cg_st_st, cg_pc_fc, cg_pc_flt, cg_pc_st, cg_cyc_fc, cg_cyc_flt, cg_cyc_st, cg_lim_fc, cg_lim_flt, cg_lim_st, cg_stk_fc, cg_stk_flt, cg_stk_st, cg_pts_fc, cg_pts_flt, cg_pts_st, cg_rng_fc, cg_rng_flt, cg_rng_st, cg_low_fc, cg_low_flt, cg_low_st, cg_ch_fc, cg_ch_flt, cg_ch_st, cg_es_fc, cg_es_flt, cg_es_st, cg_vo_fc, cg_vo_flt, cg_vo_st, cg_wa_fc, cg_wa_flt, cg_wa_st, cg_be_fc, cg_be_flt, cg_be_st, cg_bl_fc, cg_bl_flt, cg_bl_st, cg_pre_fc, cg_pre_flt, cg_pre_st, and_self]
theorem mNote_k2 (M : MS) (i : Int32) : cm_st (mNote M i) = 0 ∧ cm_many (mNote M i) = cm_many M ∧ cm_cyc (mNote M i) = cm_cyc M ∧ cm_lim (mNote M i) = cm_lim M ∧ cm_stk (mNote M i) = cm_stk M ∧ cm_pts (mNote M i) = cm_pts M ∧ cm_rng (mNote M i) = cm_rng M ∧ cm_low (mNote M i) = cm_low M ∧ cm_ch (mNote M i) = cm_ch M ∧ cm_es (mNote M i) = cm_es M ∧ cm_vo (mNote M i) = cm_vo M ∧ cm_wa (mNote M i) = cm_wa M ∧ cm_be (mNote M i) = cm_be M ∧ cm_bl (mNote M i) = cm_bl M ∧ cm_steps (mNote M i) = cm_steps M ∧ cm_beg (mNote M i) = cm_beg M := by
  unfold mNote
  simp only [mg_st_st, mg_st_fc, mg_st_flt, mg_many_st, mg_many_fc, mg_many_flt, mg_cyc_st, mg_cyc_fc, mg_cyc_flt, mg_lim_st, mg_lim_fc, mg_lim_flt, mg_stk_st, mg_stk_fc, mg_stk_flt, mg_pts_st, mg_pts_fc, mg_pts_flt, mg_rng_st, mg_rng_fc, mg_rng_flt, mg_low_st, mg_low_fc, mg_low_flt, mg_ch_st, mg_ch_fc, mg_ch_flt, mg_es_st, mg_es_fc, mg_es_flt, mg_vo_st, mg_vo_fc, mg_vo_flt, mg_wa_st, mg_wa_fc, mg_wa_flt, mg_be_st, mg_be_fc, mg_be_flt, mg_bl_st, mg_bl_fc, mg_bl_flt, mg_steps_st, mg_steps_fc, mg_steps_flt, mg_beg_st, mg_beg_fc, mg_beg_flt, and_self]
theorem Rel_note {n : Nat} {S : CS} {M : MS} {k k' : Nat} (h : Rel n S M k) (i : Int32) (hk : cm_fc M + 1 ≤ 2 * k') (hkk : k ≤ k') : Rel n (sNote S i) (mNote M i) k' := by
  obtain ⟨a_st, a_pc, a_cyc, a_lim, a_stk, a_pts, a_rng, a_low, a_ch, a_es, a_vo, a_wa, a_be, a_bl, a_pre⟩ := sNote_k S i
  obtain ⟨b_st, b_many, b_cyc, b_lim, b_stk, b_pts, b_rng, b_low, b_ch, b_es, b_vo, b_wa, b_be, b_bl, b_steps, b_beg⟩ := mNote_k2 M i
  obtain ⟨hC, hB, hF, hG, hT, hK⟩ := h
  refine ⟨fun j hj => ?_, fun j hj => ?_, RF_note ⟨hF.1, by have := hF.2.1; omega, hF.2.2⟩ hk, ?_, ?_, ?_⟩
  · rw [a_ch, a_vo, a_wa, a_be, a_bl, a_es, b_ch, b_vo, b_wa, b_be, b_bl, b_es]; exact hC j hj
  · rw [b_be, b_es, b_ch]
    obtain ⟨⟨b, h1, h2⟩, h3, h4, h5⟩ := hB j hj
    exact ⟨⟨b, h1, by omega⟩, h3, by omega, by omega⟩
  · unfold RG
    rw [a_st, b_st, a_pre, b_steps, b_beg, a_lim, b_lim, a_stk, b_stk]
    exact ⟨rfl, by omega, fun q => absurd q (by omega), hG.2.2.2⟩
  · unfold RTx RT
    rw [b_many, b_cyc, a_pc, a_cyc, a_pts, b_pts, b_ch, a_rng, a_low, b_rng, b_low]
    exact hT
  · unfold RK
    rw [a_pc, a_cyc, b_many]
    exact ⟨by have := hK.1; omega, hK.2⟩
theorem s_insulate {n : Nat} {S : CS} {M : MS} {k : Nat} (h : Rel n S M k) (v : Int64) : Rel n (gIns S v) (cm_set_th (gmIns M v) 0) (k + 1) := by
  unfold gIns gmIns
  by_cases c1 : v < 0
  · rw [if_pos c1, if_pos c1]; exact h.mono.th 0
  · rw [if_neg c1, if_neg c1]
    by_cases c2 : v < 100
    · rw [if_pos c2, if_pos c2]; exact (Rel_note h 5 (by have := h.2.2.1.2.1; omega) (by omega)).th 0
    · rw [if_neg c2, if_neg c2]; exact h.mono.th 0
theorem s_stuck {n : Nat} {S : CS} {M : MS} {k : Nat} (h : Rel n S M k) (p : Int32) : rStu S p = rmStu M p ∧ Rel n (gStu S p) (cm_set_th (gmStu M p) 0) (k + 1) := by
  unfold rStu rmStu gStu gmStu
  cases hq : ix 3 p with
  | none => exact ⟨rfl, h.mono.th 0⟩
  | some j =>
    have e := h.2.2.2.1.2.2.2.2.1
    have ej := e j (ix_lt hq)
    refine ⟨?_, ?_⟩
    · show (if va_up (cs_stk S) j _ j = 0 then (0 : Int32) else 1) = if va_up (cm_stk M) j _ j = 0 then 0 else 1
      unfold va_up
      rw [if_pos rfl, if_pos rfl, ej]
    · obtain ⟨hC, hB, hF, ⟨g1, g2, g3, g4, g5, g6⟩, hT, hK⟩ := h.mono
      refine Rel.th 0 ⟨hC, hB, hF, ⟨g1, g2, g3, g4, fun i hi => ?_, g6⟩, hT, hK⟩
      show va_up (cs_stk S) j _ i = va_up (cm_stk M) j _ i
      unfold va_up
      rw [ej]
      by_cases q : i = j
      · rw [if_pos q, if_pos q]
      · rw [if_neg q, if_neg q]; exact e i hi
