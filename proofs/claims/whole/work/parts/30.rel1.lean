/-! the class's and the reference's functions are the same -/
theorem i64_lt {x y : Int64} : x < y ↔ x.toInt < y.toInt := Int64.lt_iff_toInt_lt
theorem i64_eq {x y : Int64} (h : x.toInt = y.toInt) : x = y := Int64.toInt_inj.mp h
theorem labs_mSz (x : Int64) : labs x = mSz x := by
  unfold labs mSz
  by_cases h1 : 0 < x
  · rw [if_pos h1, if_neg (fun h2 => by rw [i64_lt] at h1 h2; omega)]
  · by_cases h2 : x < 0
    · rw [if_neg h1, if_pos h2]
    · rw [if_neg h1, if_neg h2]
      have e : x = 0 := i64_eq (by rw [i64_lt] at h1 h2; have e0 : (0 : Int64).toInt = 0 := rfl; omega)
      rw [e]
      rfl
theorem sLv_congr {f g : Nat → Int64} : ∀ n, (∀ j, j < n → f j = g j) → sLv f n = sLv g n
  | 0, _ => rfl
  | n + 1, h => by
    unfold sLv
    rw [sLv_congr n (fun j hj => h j (by omega)), h n (by omega)]
theorem sGw_congr {f g : Nat → Int64} : ∀ n, (∀ j, j < n → f j = g j) → sGw f n = sGw g n
  | 0, _ => rfl
  | n + 1, h => by
    unfold sGw
    rw [sGw_congr n (fun j hj => h j (by omega)), h n (by omega)]
theorem sBc_congr {f g : Nat → Int32} : ∀ n, (∀ j, j < n → f j = g j) → sBc f n = sBc g n
  | 0, _ => rfl
  | n + 1, h => by
    unfold sBc
    rw [sBc_congr n (fun j hj => h j (by omega)), h n (by omega)]
theorem sWk_congr {f g : Nat → Int64} : ∀ n, (∀ j, j < n → f j = g j) → sWk f n = sWk g n
  | 0, _ => rfl
  | n + 1, h => by
    unfold sWk
    rw [sLv_congr n (fun j hj => h j (by omega)), sWk_congr n (fun j hj => h j (by omega)), h n (by omega)]
theorem sLv_m (f : Nat → Int64) : ∀ z, sLv f (z + 1) = mLv f z
  | 0 => by
    unfold sLv mLv sLv
    by_cases h : f 0 < 9223372036854775807
    · rw [if_pos h]
    · rw [if_neg h]
      have e : (9223372036854775807 : Int64).toInt = 9223372036854775807 := rfl
      have b := Int64.toInt_lt (f 0)
      exact i64_eq (by rw [i64_lt, e] at h; rw [e]; omega)
  | z + 1 => by
    rw [sLv, sLv_m f z]
    rfl
theorem sGw_m (f : Nat → Int64) : ∀ z, sGw f (z + 1) = mMx f z
  | 0 => by
    unfold sGw mMx sGw
    by_cases h : f 0 < -9223372036854775808
    · have e : (-9223372036854775808 : Int64).toInt = -9223372036854775808 := rfl
      have b := Int64.le_toInt (f 0)
      rw [i64_lt, e] at h
      omega
    · rw [if_neg h]
  | z + 1 => by
    rw [sGw, sGw_m f z, mMx]
    by_cases h1 : f (z + 1) < mMx f z
    · rw [if_pos h1, if_neg (fun h2 => by rw [i64_lt] at h1 h2; omega)]
    · by_cases h2 : mMx f z < f (z + 1)
      · rw [if_neg h1, if_pos h2]
      · rw [if_neg h1, if_neg h2]
        exact i64_eq (by rw [i64_lt] at h1 h2; omega)
theorem mWk_lv (f : Nat → Int64) : ∀ z, f (mWk f z) = mLv f z
  | 0 => rfl
  | z + 1 => by
    unfold mWk mLv
    rw [← mWk_lv f z]
    by_cases h : f (z + 1) < f (mWk f z)
    · rw [if_pos h, if_pos h]
    · rw [if_neg h, if_neg h]
theorem sWk_m (f : Nat → Int64) : ∀ z, sWk f (z + 1) = mWk f z
  | 0 => by
    unfold sWk mWk sWk
    by_cases h : f 0 < sLv f 0
    · rw [if_pos h]
    · rw [if_neg h]
  | z + 1 => by
    rw [sWk, sLv_m f z, sWk_m f z, mWk, mWk_lv f z]
theorem nI_lt1 {n : Nat} (hn : n < 2147483648) : nI n < 1 ↔ n = 0 := by
  have := nI_ltI (a := n) (b := 1) hn (by omega)
  exact ⟨fun h => by have := this.mp h; omega, fun h => this.mpr (by omega)⟩
theorem nI_gt1 {n : Nat} (hn : n < 2147483648) : 1 < nI n ↔ 1 < n := nI_ltI (a := 1) (b := n) (by omega) hn
theorem nI_eqk {n k : Nat} (hn : n < 2147483648) (hk : k < 2147483648) : nI n = nI k ↔ n = k := by
  refine ⟨fun h => ?_, fun h => by rw [h]⟩
  have := congrArg Int32.toNatClampNeg h
  rw [nI_clamp (by omega), nI_clamp (by omega)] at this
  exact this
theorem sGo_m (f : Nat → Int64) {n : Nat} (hn : n ≤ 500) (v : Int64) : sGo f n v = mGo f n v := by
  unfold sGo mGo
  by_cases h0 : n = 0
  · rw [if_pos ((nI_lt1 (by omega)).mpr h0), if_pos (show nI n = 0 by rw [h0]; rfl)]
  · rw [if_neg (fun h => h0 ((nI_lt1 (by omega)).mp h)), if_neg (show ¬ nI n = 0 from fun h => h0 ((nI_eqk (k := 0) (by omega) (by omega)).mp h))]
    by_cases h1 : v = f (n - 1)
    · rw [if_pos h1, if_pos h1]
    · rw [if_neg h1, if_neg h1]
      by_cases h2 : n = 1
      · rw [if_neg (fun h => by have := (nI_gt1 (by omega)).mp h; omega), if_pos (show nI n = 1 by rw [h2]; rfl)]
      · rw [if_pos ((nI_gt1 (by omega)).mpr (by omega)), if_neg (show ¬ nI n = 1 from fun h => h2 ((nI_eqk (k := 1) (by omega) (by omega)).mp h))]
        by_cases h3 : f (n - 1) < v <;> by_cases h4 : f (n - 2) < f (n - 1) <;> simp [h3, h4]
theorem mGo_congr {f g : Nat → Int64} {n : Nat} (h : ∀ j, j < n → f j = g j) (v : Int64) : mGo f n v = mGo g n v := by
  unfold mGo
  by_cases h0 : n = 0
  · subst h0
    rw [if_pos (show nI 0 = 0 from rfl), if_pos (show nI 0 = 0 from rfl)]
  · rw [h (n - 1) (by omega)]
    by_cases h1 : n = 1
    · subst h1
      rw [if_pos (show nI 1 = 1 from rfl), if_pos (show nI 1 = 1 from rfl)]
    · rw [h (n - 2) (by omega)]
theorem min_comm64 (a b : Int64) : (if b < a then b else a) = if a < b then a else b := by
  by_cases h1 : b < a
  · rw [if_pos h1, if_neg (fun h2 => by rw [i64_lt] at h1 h2; omega)]
  · by_cases h2 : a < b
    · rw [if_neg h1, if_pos h2]
    · rw [if_neg h1, if_neg h2]
      exact i64_eq (by rw [i64_lt] at h1 h2; omega)
/-- the turns of the two are the same -/
def RT (S : CS) (M : MS) : Prop := cs_pc S = cm_many M ∧ cs_cyc S = cm_cyc M ∧ (∀ j, j < cm_many M → cs_pts S j = cm_pts M j) ∧ ∀ j, j < cm_cyc M → (cs_rng S j).toInt32 = cm_rng M j ∧ (cs_low S j).toInt32 = cm_low M j
theorem sTco1_f (S : CS) : cs_pc (sTco1 S) = cs_pc S - 2 ∧ cs_cyc (sTco1 S) = cs_cyc S + 1 ∧ cs_pts (sTco1 S) = va_up (cs_pts S) (cs_pc S - 3) (cs_pts S (cs_pc S - 1)) ∧ cs_rng (sTco1 S) = va_up (cs_rng S) (cs_cyc S) (labs (cs_pts S (cs_pc S - 3) - cs_pts S (cs_pc S - 2))) ∧ cs_low (sTco1 S) = va_up (cs_low S) (cs_cyc S) (if cs_pts S (cs_pc S - 2) < cs_pts S (cs_pc S - 3) then cs_pts S (cs_pc S - 2) else cs_pts S (cs_pc S - 3)) := by
  unfold sTco1 sKeep
  simp only [cg_pc_pc, cg_pc_pts, cg_pc_cyc, cg_pc_low, cg_pc_rng, cg_cyc_pc, cg_cyc_pts, cg_cyc_cyc, cg_cyc_low, cg_cyc_rng, cg_pts_pc, cg_pts_pts, cg_pts_cyc, cg_pts_low, cg_pts_rng, cg_rng_pc, cg_rng_pts, cg_rng_cyc, cg_rng_low, cg_rng_rng, cg_low_pc, cg_low_pts, cg_low_cyc, cg_low_low, cg_low_rng, and_self]
theorem mTco1_f (M : MS) : cm_pts (mTco1 M) = va_up (cm_pts M) (cm_many M - 3) (cm_pts M (cm_many M - 1)) ∧ cm_rng (mTco1 M) = va_up (cm_rng M) (cm_cyc M) (mSz (cm_pts M (cm_many M - 3) - cm_pts M (cm_many M - 2))).toInt32 ∧ cm_low (mTco1 M) = va_up (cm_low M) (cm_cyc M) (if cm_pts M (cm_many M - 3) < cm_pts M (cm_many M - 2) then cm_pts M (cm_many M - 3) else cm_pts M (cm_many M - 2)).toInt32 := by
  unfold mTco1 mTcoA
  simp only [mg_many_many, mg_many_pts, mg_many_cyc, mg_many_low, mg_many_rng, mg_cyc_many, mg_cyc_pts, mg_cyc_cyc, mg_cyc_low, mg_cyc_rng, mg_pts_many, mg_pts_pts, mg_pts_cyc, mg_pts_low, mg_pts_rng, mg_rng_many, mg_rng_pts, mg_rng_cyc, mg_rng_low, mg_rng_rng, mg_low_many, mg_low_pts, mg_low_cyc, mg_low_low, mg_low_rng, and_self]
theorem RT_1 {S : CS} {M : MS} (h : RT S M) (h4 : 4 ≤ cm_many M) : RT (sTco1 S) (mTco1 M) := by
  obtain ⟨h1, h2, h3, h5⟩ := h
  obtain ⟨a1, a2, a3, a4, a5⟩ := sTco1_f S
  obtain ⟨b1, b2, -⟩ := mTco1_keep M
  obtain ⟨b3, b4, b5⟩ := mTco1_f M
  rw [h1, h3 (cm_many M - 1) (by omega)] at a3
  rw [h1, h3 (cm_many M - 3) (by omega), h3 (cm_many M - 2) (by omega), h2] at a4 a5
  refine ⟨by rw [a1, b1, h1], by rw [a2, b2, h2], fun j hj => ?_, fun j hj => ?_⟩
  · rw [a3, b3]
    unfold va_up
    by_cases q : j = cm_many M - 3
    · rw [if_pos q, if_pos q]
    · rw [if_neg q, if_neg q]
      exact h3 j (by omega)
  · rw [a4, b4, a5, b5]
    unfold va_up
    by_cases q : j = cm_cyc M
    · rw [if_pos q, if_pos q, if_pos q, if_pos q, labs_mSz, min_comm64]
      exact ⟨rfl, rfl⟩
    · rw [if_neg q, if_neg q, if_neg q, if_neg q]
      exact h5 j (by omega)
theorem RT_tco : ∀ (k : Nat) {S : CS} {M : MS}, RT S M → cm_many M ≤ 500 → RT (sTco k S) (mTco k M)
  | 0, _, _, h, _ => h
  | k + 1, S, M, h, hp => by
    have h' := h
    obtain ⟨h1, h2, h3, h5⟩ := h
    unfold sTco mTco
    by_cases c1 : 4 ≤ cm_many M
    · rw [if_neg (show ¬ nI (cs_pc S) < 4 from fun q => by have := (nI_ltI (a := cs_pc S) (b := 4) (by omega) (by omega)).mp q; omega), if_pos (show 3 < nI (cm_many M) from (nI_ltI (a := 3) (b := cm_many M) (by omega) (by omega)).mpr (by omega))]
      rw [h1, h3 (cm_many M - 4) (by omega), h3 (cm_many M - 3) (by omega), h3 (cm_many M - 2) (by omega), h3 (cm_many M - 1) (by omega), labs_mSz, labs_mSz, labs_mSz]
      by_cases c2 : mSz (cm_pts M (cm_many M - 4) - cm_pts M (cm_many M - 3)) < mSz (cm_pts M (cm_many M - 3) - cm_pts M (cm_many M - 2))
      · rw [if_pos c2, if_pos c2]; exact h'
      · rw [if_neg c2, if_neg c2]
        by_cases c3 : mSz (cm_pts M (cm_many M - 2) - cm_pts M (cm_many M - 1)) < mSz (cm_pts M (cm_many M - 3) - cm_pts M (cm_many M - 2))
        · rw [if_pos c3, if_pos c3]; exact h'
        · rw [if_neg c3, if_neg c3]
          have e := (mTco1_keep M).1
          exact RT_tco k (RT_1 h' c1) (by omega)
    · rw [if_pos (show nI (cs_pc S) < 4 from (nI_ltI (a := cs_pc S) (b := 4) (by omega) (by omega)).mpr (by omega)), if_neg (show ¬ 3 < nI (cm_many M) from fun q => by have := (nI_ltI (a := 3) (b := cm_many M) (by omega) (by omega)).mp q; omega)]
      exact h'
theorem RT_put {S : CS} {M : MS} (h : RT S M) (hp : cm_many M ≤ 500) (v : Int64) : RT (sPut S v) (mPut M v) := by
  have h' := h
  obtain ⟨h1, h2, h3, h5⟩ := h
  unfold sPut mPut
  rw [h1, sGo_m _ hp, mGo_congr h3]
  by_cases c1 : mGo (cm_pts M) (cm_many M) v = 0
  · rw [if_pos c1, if_pos c1]
    by_cases c2 : cm_many M < 500
    · have c3 : nI (cm_many M) < nI 500 := (nI_ltI (a := cm_many M) (b := 500) (by omega) (by omega)).mpr c2
      rw [if_pos c3, if_pos (show nI (cm_many M) < 500 from c3)]
      refine ⟨by rw [cg_pc_pc, mg_many_many], by rw [cg_cyc_pc, cg_cyc_pts, mg_cyc_many, mg_cyc_pts, h2], fun j hj => ?_, fun j hj => ?_⟩
      · rw [mg_many_many] at hj
        rw [cg_pts_pc, cg_pts_pts, mg_pts_many, mg_pts_pts]
        unfold va_up
        by_cases q : j = cm_many M
        · rw [if_pos q, if_pos q]
        · rw [if_neg q, if_neg q]; exact h3 j (by omega)
      · rw [mg_cyc_many, mg_cyc_pts] at hj
        rw [cg_rng_pc, cg_rng_pts, cg_low_pc, cg_low_pts, mg_rng_many, mg_rng_pts, mg_low_many, mg_low_pts]
        exact h5 j hj
    · have c3 : ¬ nI (cm_many M) < nI 500 := fun q => c2 ((nI_ltI (a := cm_many M) (b := 500) (by omega) (by omega)).mp q)
      rw [if_neg c3, if_neg (show ¬ nI (cm_many M) < 500 from c3)]
      exact h'
  · rw [if_neg c1, if_neg c1]
    refine ⟨by rw [cg_pc_pts, mg_many_pts, h1], by rw [cg_cyc_pts, mg_cyc_pts, h2], fun j hj => ?_, fun j hj => ?_⟩
    · rw [mg_many_pts] at hj
      rw [cg_pts_pts, mg_pts_pts]
      unfold va_up
      by_cases q : j = cm_many M - 1
      · rw [if_pos q, if_pos q]
      · rw [if_neg q, if_neg q]; exact h3 j (by omega)
    · rw [mg_cyc_pts] at hj
      rw [cg_rng_pts, cg_low_pts, mg_rng_pts, mg_low_pts]
      exact h5 j hj
theorem RT_point {S : CS} {M : MS} (h : RT S M) (hp : cm_many M ≤ 500) (v : Int64) : RT (sFol S v) (mPoint M v) := RT_tco 250 (RT_put h hp v) (mPut_ok hp).1
