/-! what the reference's methods answer and leave -/
theorem nI_neN {a b : Nat} (h : ¬ nI a = nI b) : a ≠ b := fun q => h (by rw [q])
theorem ix_le2 {x : Int32} (h : ¬ 2 < x) : x < nI 3 := by
  rw [Int32.lt_iff_toInt_lt] at *
  have e : (2 : Int32).toInt = 2 := by decide
  have e2 : (nI 3).toInt = 3 := by decide
  omega
theorem ix_le5 {x : Int32} (h : ¬ 5 < x) : x < nI 6 := by
  rw [Int32.lt_iff_toInt_lt] at *
  have e : (5 : Int32).toInt = 5 := by decide
  have e2 : (nI 6).toInt = 6 := by decide
  omega
theorem ix_gt2 {x : Int32} (h : 2 < x) : ix 3 x = none := ix_big (by
  rw [Int32.lt_iff_toInt_lt] at *
  have e : (2 : Int32).toInt = 2 := by decide
  have e2 : (nI 3).toInt = 3 := by decide
  omega)
theorem ix_gt5 {x : Int32} (h : 5 < x) : ix 6 x = none := ix_big (by
  rw [Int32.lt_iff_toInt_lt] at *
  have e : (5 : Int32).toInt = 5 := by decide
  have e2 : (nI 6).toInt = 6 := by decide
  omega)
def mNo (n : Nat) (p : Int32) : Int32 := (ix n p).elim 1 (fun _ => 0)
theorem mNo_0 {n : Nat} {p : Int32} (h : mNo n p = 0) : ∃ j, ix n p = some j := by
  unfold mNo at h
  cases hq : ix n p with
  | none => rw [hq] at h; exact absurd h (by decide)
  | some j => exact ⟨j, rfl⟩
theorem mNo_1 {n : Nat} {p : Int32} (h : ¬ mNo n p = 0) : ix n p = none := by
  unfold mNo at h
  cases hq : ix n p with
  | none => rfl
  | some j => rw [hq] at h; exact absurd rfl h
def mSz (v : Int64) : Int64 := if v < 0 then -v else v
def mNote (M : MS) (k : Int32) : MS := cm_set_st (cm_set_fc (cm_set_flt M (va_up (cm_flt M) (cm_fc M) k)) (cm_fc M + 1)) 0
def mGo (f : Nat → Int64) (n : Nat) (v : Int64) : Int32 := if nI n = 0 then 0 else if v = f (n - 1) then 1 else if nI n = 1 then 0 else if (if f (n - 2) < f (n - 1) then (1 : Int32) else 0) = (if f (n - 1) < v then 1 else 0) then 1 else 0
theorem mGo_pos {f : Nat → Int64} {n : Nat} {v : Int64} (h : ¬ mGo f n v = 0) : 1 ≤ n := by
  rcases Nat.eq_zero_or_pos n with q | q
  · subst q
    exact absurd (by unfold mGo; rw [if_pos (by decide)]) h
  · exact q
def mPut (M : MS) (v : Int64) : MS := if mGo (cm_pts M) (cm_many M) v = 0 then (if nI (cm_many M) < 500 then cm_set_many (cm_set_pts M (va_up (cm_pts M) (cm_many M) v)) (cm_many M + 1) else M) else cm_set_pts M (va_up (cm_pts M) (cm_many M - 1) v)
theorem mPut_ok {M : MS} {v : Int64} (hp : cm_many M ≤ 500) : cm_many (mPut M v) ≤ 500 ∧ cm_many (mPut M v) + 2 * cm_cyc (mPut M v) ≤ cm_many M + 2 * cm_cyc M + 1 := by
  unfold mPut
  by_cases h : mGo (cm_pts M) (cm_many M) v = 0
  · rw [if_pos h]
    by_cases h2 : nI (cm_many M) < 500
    · rw [if_pos h2]
      have h3 := nI_islt (b := 500) (by omega) (by omega) h2
      constructor
      · show cm_many M + 1 ≤ 500; omega
      · show cm_many M + 1 + 2 * cm_cyc M ≤ _; omega
    · rw [if_neg h2]; omega
  · rw [if_neg h]
    exact ⟨hp, by show cm_many M + 2 * cm_cyc M ≤ _; omega⟩
def mTcoA (M : MS) : MS := cm_set_cyc (cm_set_low (cm_set_rng M (va_up (cm_rng M) (cm_cyc M) (mSz (cm_pts M (cm_many M - 3) - cm_pts M (cm_many M - 2))).toInt32)) (va_up (cm_low M) (cm_cyc M) (if cm_pts M (cm_many M - 3) < cm_pts M (cm_many M - 2) then cm_pts M (cm_many M - 3) else cm_pts M (cm_many M - 2)).toInt32)) (cm_cyc M + 1)
def mTco1 (M : MS) : MS := cm_set_many (cm_set_pts (mTcoA M) (va_up (cm_pts M) (cm_many M - 3) (cm_pts M (cm_many M - 1)))) (cm_many M - 2)
def mTco : Nat → MS → MS
  | 0, M => M
  | k + 1, M => if 3 < nI (cm_many M) then (if mSz (cm_pts M (cm_many M - 4) - cm_pts M (cm_many M - 3)) < mSz (cm_pts M (cm_many M - 3) - cm_pts M (cm_many M - 2)) then M else if mSz (cm_pts M (cm_many M - 2) - cm_pts M (cm_many M - 1)) < mSz (cm_pts M (cm_many M - 3) - cm_pts M (cm_many M - 2)) then M else mTco k (mTco1 M)) else M
def mPoint (M : MS) (v : Int64) : MS := mTco 250 (mPut M v)
theorem mTco1_keep (M : MS) : cm_many (mTco1 M) = cm_many M - 2 ∧ cm_cyc (mTco1 M) = cm_cyc M + 1 ∧ cm_fc (mTco1 M) = cm_fc M ∧ cm_th (mTco1 M) = cm_th M ∧ cm_ch (mTco1 M) = cm_ch M ∧ cm_lim (mTco1 M) = cm_lim M ∧ cm_be (mTco1 M) = cm_be M ∧ cm_es (mTco1 M) = cm_es M ∧ cm_bl (mTco1 M) = cm_bl M := by
  unfold mTco1 mTcoA
  simp only [mg_many_many, mg_many_pts, mg_many_cyc, mg_many_low, mg_many_rng, mg_cyc_many, mg_cyc_pts, mg_cyc_cyc, mg_cyc_low, mg_cyc_rng, mg_fc_many, mg_fc_pts, mg_fc_cyc, mg_fc_low, mg_fc_rng, mg_th_many, mg_th_pts, mg_th_cyc, mg_th_low, mg_th_rng, mg_ch_many, mg_ch_pts, mg_ch_cyc, mg_ch_low, mg_ch_rng, mg_lim_many, mg_lim_pts, mg_lim_cyc, mg_lim_low, mg_lim_rng, mg_be_many, mg_be_pts, mg_be_cyc, mg_be_low, mg_be_rng, mg_es_many, mg_es_pts, mg_es_cyc, mg_es_low, mg_es_rng, mg_bl_many, mg_bl_pts, mg_bl_cyc, mg_bl_low, mg_bl_rng, and_self]
theorem mTco_le : ∀ (k : Nat) (M : MS), cm_many (mTco k M) ≤ cm_many M ∧ cm_many (mTco k M) + 2 * cm_cyc (mTco k M) ≤ cm_many M + 2 * cm_cyc M ∧ cm_fc (mTco k M) = cm_fc M ∧ cm_th (mTco k M) = cm_th M ∧ cm_ch (mTco k M) = cm_ch M ∧ cm_lim (mTco k M) = cm_lim M ∧ cm_be (mTco k M) = cm_be M ∧ cm_es (mTco k M) = cm_es M ∧ cm_bl (mTco k M) = cm_bl M
  | 0, M => ⟨Nat.le_refl _, Nat.le_refl _, rfl, rfl, rfl, rfl, rfl, rfl, rfl⟩
  | k + 1, M => by
    unfold mTco
    by_cases h1 : 3 < nI (cm_many M)
    · rw [if_pos h1]
      by_cases h2 : mSz (cm_pts M (cm_many M - 4) - cm_pts M (cm_many M - 3)) < mSz (cm_pts M (cm_many M - 3) - cm_pts M (cm_many M - 2))
      · rw [if_pos h2]; exact ⟨Nat.le_refl _, Nat.le_refl _, rfl, rfl, rfl, rfl, rfl, rfl, rfl⟩
      · rw [if_neg h2]
        by_cases h3 : mSz (cm_pts M (cm_many M - 2) - cm_pts M (cm_many M - 1)) < mSz (cm_pts M (cm_many M - 3) - cm_pts M (cm_many M - 2))
        · rw [if_pos h3]; exact ⟨Nat.le_refl _, Nat.le_refl _, rfl, rfl, rfl, rfl, rfl, rfl, rfl⟩
        · rw [if_neg h3]
          obtain ⟨a1, a2, a3, a4, a5, a6, a7, a8, a9⟩ := mTco_le k (mTco1 M)
          obtain ⟨e1, e2, k3, k4, k5, k6, k7, k8, k9⟩ := mTco1_keep M
          have e3 : 2 ≤ cm_many M := by
            rcases Nat.lt_or_ge (cm_many M) 2 with q | q
            · rcases (show cm_many M = 0 ∨ cm_many M = 1 by omega) with z | z <;> rw [z] at h1 <;> exact absurd h1 (by decide)
            · exact q
          exact ⟨by omega, by omega, a3.trans k3, a4.trans k4, a5.trans k5, a6.trans k6, a7.trans k7, a8.trans k8, a9.trans k9⟩
    · rw [if_neg h1]; exact ⟨Nat.le_refl _, Nat.le_refl _, rfl, rfl, rfl, rfl, rfl, rfl, rfl⟩
theorem mPut_keep (M : MS) (v : Int64) : cm_fc (mPut M v) = cm_fc M ∧ cm_th (mPut M v) = cm_th M ∧ cm_ch (mPut M v) = cm_ch M ∧ cm_lim (mPut M v) = cm_lim M ∧ cm_be (mPut M v) = cm_be M ∧ cm_es (mPut M v) = cm_es M ∧ cm_bl (mPut M v) = cm_bl M := by
  unfold mPut
  by_cases h : mGo (cm_pts M) (cm_many M) v = 0
  · rw [if_pos h]
    by_cases h2 : nI (cm_many M) < 500
    · rw [if_pos h2]; exact ⟨rfl, rfl, rfl, rfl, rfl, rfl, rfl⟩
    · rw [if_neg h2]; exact ⟨rfl, rfl, rfl, rfl, rfl, rfl, rfl⟩
  · rw [if_neg h]; exact ⟨rfl, rfl, rfl, rfl, rfl, rfl, rfl⟩
theorem mPoint_ok {M : MS} {v : Int64} (hp : cm_many M ≤ 500) : cm_many (mPoint M v) ≤ 500 ∧ cm_many (mPoint M v) + 2 * cm_cyc (mPoint M v) ≤ cm_many M + 2 * cm_cyc M + 1 ∧ cm_fc (mPoint M v) = cm_fc M ∧ cm_th (mPoint M v) = cm_th M ∧ cm_ch (mPoint M v) = cm_ch M ∧ cm_lim (mPoint M v) = cm_lim M ∧ cm_be (mPoint M v) = cm_be M ∧ cm_es (mPoint M v) = cm_es M ∧ cm_bl (mPoint M v) = cm_bl M := by
  obtain ⟨a1, a2, a3, a4, a5, a6, a7, a8, a9⟩ := mTco_le 250 (mPut M v)
  obtain ⟨b1, b2⟩ := mPut_ok (M := M) (v := v) hp
  obtain ⟨c3, c4, c5, c6, c7, c8, c9⟩ := mPut_keep M v
  exact ⟨Nat.le_trans a1 b1, Nat.le_trans a2 b2, a3.trans c3, a4.trans c4, a5.trans c5, a6.trans c6, a7.trans c7, a8.trans c8, a9.trans c9⟩
def mPre (M : MS) (j : Nat) : MS := if nI j = 0 then (if nI (cm_many M) = 0 then mPoint M (cm_ch M 0) else M) else M
theorem mPre_ok {M : MS} {j : Nat} (hp : cm_many M ≤ 500) : cm_many (mPre M j) ≤ 500 ∧ cm_many (mPre M j) + 2 * cm_cyc (mPre M j) ≤ cm_many M + 2 * cm_cyc M + 1 ∧ cm_fc (mPre M j) = cm_fc M ∧ cm_th (mPre M j) = cm_th M ∧ cm_ch (mPre M j) = cm_ch M ∧ cm_lim (mPre M j) = cm_lim M ∧ cm_be (mPre M j) = cm_be M ∧ cm_es (mPre M j) = cm_es M ∧ cm_bl (mPre M j) = cm_bl M := by
  unfold mPre
  by_cases h : nI j = 0
  · rw [if_pos h]
    by_cases h2 : nI (cm_many M) = 0
    · rw [if_pos h2]; exact mPoint_ok hp
    · rw [if_neg h2]; exact ⟨hp, by omega, rfl, rfl, rfl, rfl, rfl, rfl, rfl⟩
  · rw [if_neg h]; exact ⟨hp, by omega, rfl, rfl, rfl, rfl, rfl, rfl, rfl⟩
def mLv (f : Nat → Int64) : Nat → Int64
  | 0 => f 0
  | z + 1 => if f (z + 1) < mLv f z then f (z + 1) else mLv f z
def mMx (f : Nat → Int64) : Nat → Int64
  | 0 => f 0
  | z + 1 => if mMx f z < f (z + 1) then f (z + 1) else mMx f z
def mWk (f : Nat → Int64) : Nat → Nat
  | 0 => 0
  | z + 1 => if f (z + 1) < f (mWk f z) then z + 1 else mWk f z
theorem mWk_le (f : Nat → Int64) : ∀ z, mWk f z ≤ z
  | 0 => Nat.le_refl _
  | z + 1 => by
    unfold mWk
    by_cases h : f (z + 1) < f (mWk f z)
    · rw [if_pos h]; exact Nat.le_refl _
    · rw [if_neg h]; exact Nat.le_succ_of_le (mWk_le f z)
def mMay (M : MS) (n j : Nat) : Int32 := if cm_ch M j < cm_lim M 4 then 0 else if cm_vo M j < mLv (cm_vo M) (n - 1) + 10 then 0 else 1
def mFlip (M : MS) (j : Nat) : MS := cm_set_bl M (va_up (cm_bl M) j (if cm_bl M j = 0 then 1 else 0))
def rmBle (M : MS) (n : Nat) (p : Int32) : Int32 := (ix n p).elim (-1) (fun j => if cm_bl M j = 0 then (if cm_ch M j < cm_lim M 4 then (-3) else if cm_vo M j < mLv (cm_vo M) (n - 1) + 10 then (-3) else sBc (cm_bl (cm_set_bl (cm_set_th M 0) (va_up (cm_bl M) j (if cm_bl M j = 0 then 1 else 0)))) n) else sBc (cm_bl (cm_set_bl (cm_set_th M 0) (va_up (cm_bl M) j (if cm_bl M j = 0 then 1 else 0)))) n)
def gmBle (M : MS) (n : Nat) (p : Int32) : MS := (ix n p).elim (cm_set_th M 0) (fun j => if cm_bl M j = 0 then (if cm_ch M j < cm_lim M 4 then cm_set_th M 0 else if cm_vo M j < mLv (cm_vo M) (n - 1) + 10 then cm_set_th M 0 else cm_set_bl (cm_set_th M 0) (va_up (cm_bl M) j (if cm_bl M j = 0 then 1 else 0))) else cm_set_bl (cm_set_th M 0) (va_up (cm_bl M) j (if cm_bl M j = 0 then 1 else 0)))
def rmLim (p : Int32) (v : Int64) : Int32 := (ix 6 p).elim (-1) (fun j => if v < (-1000) then (-2) else if 1000000 < v then (-2) else if nI j = 5 then (if v < 0 then (-2) else 1) else 1)
def gmLim (M : MS) (p : Int32) (v : Int64) : MS := (ix 6 p).elim M (fun j => if v < (-1000) then M else if 1000000 < v then M else if nI j = 5 then (if v < 0 then M else cm_set_lim M (va_up (cm_lim M) j v)) else cm_set_lim M (va_up (cm_lim M) j v))
def gmIns (M : MS) (v : Int64) : MS := if v < 0 then M else if v < 100 then mNote M 5 else M
def gmStu (M : MS) (p : Int32) : MS := (ix 3 p).elim M (fun j => cm_set_stk M (va_up (cm_stk M) j (if cm_stk M j = 0 then 1 else 0)))
def rmStu (M : MS) (p : Int32) : Int32 := (ix 3 p).elim (-1) (fun j => if va_up (cm_stk M) j (if cm_stk M j = 0 then 1 else 0) j = 0 then 0 else 1)
def rmCyc2 (M : MS) (i w : Int32) : Int32 := (ix (cm_cyc M) i).elim (-1) (fun j => if w = 0 then cm_rng M j else if w = 1 then cm_low M j else (-2))
def rmCyc (M : MS) (i w : Int32) : Int32 := if i = (-1) then (if w = 0 then nI (cm_cyc M) else rmCyc2 M i w) else rmCyc2 M i w
def rmCool (M : MS) (n : Nat) : Int32 := if 550 < mMx (cm_wa M) (n - 1) then 3 else if 450 < mMx (cm_wa M) (n - 1) then 2 else if 350 < mMx (cm_wa M) (n - 1) then 1 else 0
def mUp (M : MS) : MS := cm_set_beg (cm_set_st M (cm_st M + 1)) (if nI (cm_st M + 1) = 2 then cm_steps M else cm_beg M)
def rmCon2 (M : MS) : Int32 := if cm_stk M (cm_st M) = 0 then nI (cm_st M + 1) else nI (cm_st (mNote M 4))
def gmCon2 (M : MS) : MS := if cm_stk M (cm_st M) = 0 then mUp M else mNote M 4
def rmCon (M : MS) (p : Int32) : Int32 := if p = 0 then 0 else if nI (cm_st M) = 3 then (-3) else if nI (cm_st M) = 2 then (if cm_steps M - cm_beg M < 3 then (-3) else if cm_steps M - cm_beg M < 20 then rmCon2 M else nI (cm_st (mNote M 3))) else rmCon2 M
def gmCon (M : MS) (p : Int32) : MS := if p = 0 then cm_set_st M 0 else if nI (cm_st M) = 3 then M else if nI (cm_st M) = 2 then (if cm_steps M - cm_beg M < 3 then M else if cm_steps M - cm_beg M < 20 then gmCon2 M else mNote M 3) else gmCon2 M
