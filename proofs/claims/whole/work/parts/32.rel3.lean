/-! contactor, limit, bleed -/
theorem i32_step (a b : Int32) : a + 1 - b = a - b + 1 := by
  rw [Int32.sub_eq_add_neg, Int32.sub_eq_add_neg]
  ac_rfl
theorem s_up {n : Nat} {S : CS} {M : MS} {k : Nat} (h : Rel n S M k) (h3 : cm_st M ≤ 2) : Rel n (cs_set_pre (cs_set_st S (cs_st S + 1)) 0) (mUp M) (k + 1) := by
  obtain ⟨hC, hB, hF, ⟨g1, g2, g3, g4, g5, g6⟩, hT, hK⟩ := h.mono
  refine ⟨hC, hB, hF, ⟨?_, ?_, ?_, g4, g5, g6⟩, hT, hK⟩
  · show cs_st S + 1 = cm_st M + 1
    rw [g1]
  · show cm_st M + 1 ≤ 3
    omega
  · intro hs
    have hs : cm_st M + 1 = 2 := hs
    show (0 : Int32) = cm_steps M - (if nI (cm_st M + 1) = 2 then cm_steps M else cm_beg M)
    rw [hs, if_pos (show nI 2 = 2 from rfl), Int32.sub_self]
theorem s_con2 {n : Nat} {S : CS} {M : MS} {k : Nat} (h : Rel n S M k) (h3 : cm_st M ≤ 2) : rClo2 S = rmCon2 M ∧ Rel n (gClo2 S) (gmCon2 M) (k + 1) := by
  have g1 := h.2.2.2.1.1
  have g5 := h.2.2.2.1.2.2.2.2.1
  have e : sStk S (nI (cs_st S)) = if cm_stk M (cm_st M) = 0 then 0 else 1 := by
    unfold sStk
    rw [g1, ix_at (n := 3) (by omega) (by omega)]
    show (if cs_stk S (cm_st M) = 0 then (0 : Int32) else 1) = _
    rw [g5 _ (by omega)]
  unfold rClo2 rmCon2 gClo2 gmCon2
  rw [e]
  by_cases c : cm_stk M (cm_st M) = 0
  · rw [if_pos c, if_pos c, if_pos c, if_pos rfl, if_pos rfl, g1]
    exact ⟨rfl, by rw [← g1]; exact s_up h h3⟩
  · rw [if_neg c, if_neg c, if_neg c, if_neg (by decide), if_neg (by decide)]
    have a := (sNote_k S 4).1
    have b := (mNote_k2 M 4).1
    rw [a, b]
    exact ⟨rfl, Rel_note h 4 (by have := h.2.2.1.2.1; omega) (by omega)⟩
theorem s_con {n : Nat} {S : CS} {M : MS} {k : Nat} (h : Rel n S M k) (p : Int32) : rCon S p = rmCon M p ∧ Rel n (gCon S p) (cm_set_th (gmCon M p) 0) (k + 1) := by
  have g1 := h.2.2.2.1.1
  have g2 := h.2.2.2.1.2.1
  have g3 := h.2.2.2.1.2.2.1
  unfold rCon rmCon gCon gmCon
  by_cases c0 : p = 0
  · rw [if_pos c0, if_pos c0, if_pos c0, if_pos c0]
    refine ⟨rfl, ?_⟩
    obtain ⟨hC, hB, hF, ⟨q1, q2, q3, q4, q5, q6⟩, hT, hK⟩ := h.mono
    refine Rel.th 0 ⟨hC, hB, hF, ⟨rfl, ?_, fun hs => ?_, q4, q5, q6⟩, hT, hK⟩
    · show 0 ≤ 3
      omega
    · have hs : (0 : Nat) = 2 := hs
      omega
  · rw [if_neg c0, if_neg c0, if_neg c0, if_neg c0]
    unfold rClo gClo
    rw [g1]
    by_cases c3 : nI (cm_st M) = 3
    · rw [if_pos c3, if_pos c3, if_pos c3, if_pos c3]
      exact ⟨rfl, h.mono.th 0⟩
    · rw [if_neg c3, if_neg c3, if_neg c3, if_neg c3]
      have h3 : cm_st M ≤ 2 := by
        rcases Nat.lt_or_ge (cm_st M) 3 with q | q
        · omega
        · exact absurd (show nI (cm_st M) = 3 by rw [show cm_st M = 3 by omega]; rfl) c3
      have s2 := s_con2 h h3
      by_cases c2 : nI (cm_st M) = 2
      · have e2 : cm_st M = 2 := (nI_eqk (k := 2) (by omega) (by omega)).mp c2
        rw [if_pos c2, if_pos c2, if_pos c2, if_pos c2, g3 e2]
        by_cases d3 : cm_steps M - cm_beg M < 3
        · rw [if_pos d3, if_pos d3, if_pos d3, if_pos d3]
          exact ⟨rfl, h.mono.th 0⟩
        · rw [if_neg d3, if_neg d3, if_neg d3, if_neg d3]
          by_cases d20 : cm_steps M - cm_beg M < 20
          · rw [if_pos d20, if_pos d20, if_pos d20, if_pos d20]
            exact ⟨s2.1, s2.2.th 0⟩
          · rw [if_neg d20, if_neg d20, if_neg d20, if_neg d20, (sNote_k S 3).1, (mNote_k2 M 3).1]
            exact ⟨rfl, (Rel_note h 3 (by have := h.2.2.1.2.1; omega) (by omega)).th 0⟩
      · rw [if_neg c2, if_neg c2, if_neg c2, if_neg c2]
        exact ⟨s2.1, s2.2.th 0⟩
theorem s_lim {n : Nat} {S : CS} {M : MS} {k : Nat} (h : Rel n S M k) (p : Int32) (v : Int64) : rLim p v = rmLim p v ∧ Rel n (gLim S p v) (cm_set_th (gmLim M p v) 0) (k + 1) := by
  unfold rLim rmLim gLim gmLim
  cases hq : ix 6 p with
  | none => exact ⟨rfl, h.mono.th 0⟩
  | some j =>
    have hj := ix_lt hq
    show (if sOut v (if nI j = 5 then 0 else (-1000)) 1000000 = 0 then (1 : Int32) else (-2)) = (if v < (-1000) then (-2) else if 1000000 < v then (-2) else if nI j = 5 then (if v < 0 then (-2) else 1) else 1) ∧ Rel n (if sOut v (if nI j = 5 then 0 else (-1000)) 1000000 = 0 then cs_set_lim S (va_up (cs_lim S) j v) else S) (cm_set_th (if v < (-1000) then M else if 1000000 < v then M else if nI j = 5 then (if v < 0 then M else cm_set_lim M (va_up (cm_lim M) j v)) else cm_set_lim M (va_up (cm_lim M) j v)) 0) (k + 1)
    have keep : Rel n S (cm_set_th M 0) (k + 1) := h.mono.th 0
    have set : (j = 5 → 0 ≤ v.toInt ∧ v.toInt ≤ 1000000) → Rel n (cs_set_lim S (va_up (cs_lim S) j v)) (cm_set_th (cm_set_lim M (va_up (cm_lim M) j v)) 0) (k + 1) := fun hv => by
      obtain ⟨hC, hB, hF, ⟨g1, g2, g3, g4, g5, g6, g7⟩, hT, hK⟩ := h.mono
      refine Rel.th 0 ⟨hC, hB, hF, ⟨g1, g2, g3, fun i hi => ?_, g5, ?_⟩, hT, hK⟩
      · show va_up (cs_lim S) j v i = va_up (cm_lim M) j v i
        unfold va_up
        by_cases q : i = j
        · rw [if_pos q, if_pos q]
        · rw [if_neg q, if_neg q]; exact g4 i hi
      · show 0 ≤ (va_up (cm_lim M) j v 5).toInt ∧ (va_up (cm_lim M) j v 5).toInt ≤ 1000000
        unfold va_up
        by_cases q : 5 = j
        · rw [if_pos q]; exact hv q.symm
        · rw [if_neg q]; exact ⟨g6, g7⟩
    have e1 : (-1000 : Int64).toInt = -1000 := rfl
    have e2 : (1000000 : Int64).toInt = 1000000 := rfl
    have e0 : (0 : Int64).toInt = 0 := rfl
    unfold sOut
    by_cases c5 : nI j = 5
    · rw [if_pos c5, if_pos c5, if_pos c5]
      by_cases a1 : v < 0
      · rw [if_pos a1, if_neg (show ¬ (1 : Int32) = 0 by decide), if_neg (show ¬ (1 : Int32) = 0 by decide), if_pos a1, if_pos a1]
        by_cases a2 : v < (-1000)
        · rw [if_pos a2, if_pos a2]; exact ⟨rfl, keep⟩
        · rw [if_neg a2, if_neg a2]
          have a3 : ¬ 1000000 < v := fun q => by rw [i64_lt] at a1 q; omega
          rw [if_neg a3, if_neg a3]; exact ⟨rfl, keep⟩
      · have a2 : ¬ v < (-1000) := fun q => a1 (by rw [i64_lt] at q ⊢; omega)
        rw [if_neg a1, if_neg a2, if_neg a2, if_neg a1, if_neg a1]
        by_cases a3 : 1000000 < v
        · rw [if_pos a3, if_pos a3, if_pos a3, if_neg (show ¬ (1 : Int32) = 0 by decide), if_neg (show ¬ (1 : Int32) = 0 by decide)]; exact ⟨rfl, keep⟩
        · rw [if_neg a3, if_neg a3, if_neg a3, if_pos rfl, if_pos rfl]
          exact ⟨rfl, set (fun _ => by rw [i64_lt] at a1 a3; omega)⟩
    · rw [if_neg c5, if_neg c5, if_neg c5]
      have n5 : j ≠ 5 := fun q => c5 (by rw [q]; rfl)
      by_cases a2 : v < (-1000)
      · rw [if_pos a2, if_pos a2, if_pos a2, if_neg (show ¬ (1 : Int32) = 0 by decide), if_neg (show ¬ (1 : Int32) = 0 by decide)]; exact ⟨rfl, keep⟩
      · rw [if_neg a2, if_neg a2, if_neg a2]
        by_cases a3 : 1000000 < v
        · rw [if_pos a3, if_pos a3, if_pos a3, if_neg (show ¬ (1 : Int32) = 0 by decide), if_neg (show ¬ (1 : Int32) = 0 by decide)]; exact ⟨rfl, keep⟩
        · rw [if_neg a3, if_neg a3, if_neg a3, if_pos rfl, if_pos rfl]
          exact ⟨rfl, set (fun q => absurd q n5)⟩
theorem s_ble {n : Nat} {S : CS} {M : MS} {k : Nat} (h : Rel n S M k) (hn : 1 ≤ n) (p : Int32) : rBle S n p = rmBle M n p ∧ Rel n (gBle S n p) (gmBle M n p) (k + 1) := by
  unfold rBle rmBle gBle gmBle
  cases hq : ix n p with
  | none => exact ⟨rfl, h.mono.th 0⟩
  | some j =>
    have hj := ix_lt hq
    obtain ⟨j1, j2, j3, j4, j5, j6⟩ := h.1 j hj
    have hl := q_least h hn
    have g4 := h.2.2.2.1.2.2.2.1
    have ef : ∀ i, i < n → cs_bl (sFlip S j) i = cm_bl (cm_set_bl (cm_set_th M 0) (va_up (cm_bl M) j (if cm_bl M j = 0 then 1 else 0))) i := fun i hi => by
      show va_up (cs_bl S) j (if cs_bl S j = 0 then 1 else 0) i = va_up (cm_bl M) j (if cm_bl M j = 0 then 1 else 0) i
      rw [j5]
      unfold va_up
      by_cases q : i = j
      · rw [if_pos q, if_pos q]
      · rw [if_neg q, if_neg q]; exact (h.1 i hi).2.2.2.2.1
    have eb := sBc_congr n ef
    have fl : Rel n (sFlip S j) (cm_set_bl (cm_set_th M 0) (va_up (cm_bl M) j (if cm_bl M j = 0 then 1 else 0))) (k + 1) := by
      obtain ⟨hC, hB, hF, hG, hT, hK⟩ := h.mono
      refine ⟨fun i hi => ?_, hB, hF, hG, hT, hK⟩
      obtain ⟨i1, i2, i3, i4, i5, i6⟩ := hC i hi
      exact ⟨i1, i2, i3, i4, ef i hi, i6⟩
    show (if cs_bl S j = 0 then (if sMay S n j = 0 then (-3 : Int32) else sBc (cs_bl (sFlip S j)) n) else sBc (cs_bl (sFlip S j)) n) = (if cm_bl M j = 0 then (if cm_ch M j < cm_lim M 4 then (-3) else if cm_vo M j < mLv (cm_vo M) (n - 1) + 10 then (-3) else sBc (cm_bl (cm_set_bl (cm_set_th M 0) (va_up (cm_bl M) j (if cm_bl M j = 0 then 1 else 0)))) n) else sBc (cm_bl (cm_set_bl (cm_set_th M 0) (va_up (cm_bl M) j (if cm_bl M j = 0 then 1 else 0)))) n) ∧ Rel n (if cs_bl S j = 0 then (if sMay S n j = 0 then S else sFlip S j) else sFlip S j) (if cm_bl M j = 0 then (if cm_ch M j < cm_lim M 4 then cm_set_th M 0 else if cm_vo M j < mLv (cm_vo M) (n - 1) + 10 then cm_set_th M 0 else cm_set_bl (cm_set_th M 0) (va_up (cm_bl M) j (if cm_bl M j = 0 then 1 else 0))) else cm_set_bl (cm_set_th M 0) (va_up (cm_bl M) j (if cm_bl M j = 0 then 1 else 0))) (k + 1)
    have em : sMay S n j = if cm_ch M j < cm_lim M 4 then 0 else if cm_vo M j < mLv (cm_vo M) (n - 1) + 10 then 0 else 1 := by
      unfold sMay
      rw [j1, j2, hl, g4 4 (by omega)]
    rw [em, j5]
    by_cases c0 : cm_bl M j = 0
    · simp only [if_pos c0]
      by_cases c1 : cm_ch M j < cm_lim M 4
      · rw [if_pos c1, if_pos c1, if_pos c1, if_pos rfl, if_pos rfl]; exact ⟨rfl, h.mono.th 0⟩
      · rw [if_neg c1, if_neg c1, if_neg c1]
        by_cases c2 : cm_vo M j < mLv (cm_vo M) (n - 1) + 10
        · rw [if_pos c2, if_pos c2, if_pos c2, if_pos rfl, if_pos rfl]; exact ⟨rfl, h.mono.th 0⟩
        · rw [if_neg c2, if_neg c2, if_neg c2, if_neg (show ¬ (1 : Int32) = 0 by decide), if_neg (show ¬ (1 : Int32) = 0 by decide)]
          simp only [if_pos c0] at fl eb
          exact ⟨eb, fl⟩
    · simp only [if_neg c0]
      simp only [if_neg c0] at fl eb
      exact ⟨eb, fl⟩
