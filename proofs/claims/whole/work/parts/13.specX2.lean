/-! the loops of the class, and what stands on them -/
def sLv (f : Nat → Int64) : Nat → Int64
  | 0 => 9223372036854775807
  | i + 1 => if f i < sLv f i then f i else sLv f i
def sGw (f : Nat → Int64) : Nat → Int64
  | 0 => (-9223372036854775808)
  | i + 1 => if f i < sGw f i then sGw f i else f i
def sBc (f : Nat → Int32) : Nat → Int32
  | 0 => 0
  | i + 1 => if f i = 0 then sBc f i else sBc f i + 1
def sWk (f : Nat → Int64) : Nat → Nat
  | 0 => 0
  | i + 1 => if f i < sLv f i then i else sWk f i
def gcdF : Nat → Int64 → Int64 → Int64
  | 0, d, _ => d
  | k + 1, d, r => if r = 0 then d else gcdF k r (d - d / r * r)
def sMay (S : CS) (n j : Nat) : Int32 := if cs_ch S j < cs_lim S 4 then 0 else if cs_vo S j < sLv (cs_vo S) n + 10 then 0 else 1
def rCool (S : CS) (n : Nat) : Int32 := if 550 < sGw (cs_wa S) n then 3 else if 450 < sGw (cs_wa S) n then 2 else if 350 < sGw (cs_wa S) n then 1 else 0
def sFlip (S : CS) (j : Nat) : CS := cs_set_bl S (va_up (cs_bl S) j (if cs_bl S j = 0 then 1 else 0))
def rBle (S : CS) (n : Nat) (p : Int32) : Int32 := (ix n p).elim (-1) (fun j => if cs_bl S j = 0 then (if sMay S n j = 0 then (-3) else sBc (cs_bl (sFlip S j)) n) else sBc (cs_bl (sFlip S j)) n)
def gBle (S : CS) (n : Nat) (p : Int32) : CS := (ix n p).elim S (fun j => if cs_bl S j = 0 then (if sMay S n j = 0 then S else sFlip S j) else sFlip S j)
def sTco1 (S : CS) : CS := cs_set_pc (cs_set_pts (sKeep S (labs (cs_pts S (cs_pc S - 3) - cs_pts S (cs_pc S - 2))) (if cs_pts S (cs_pc S - 2) < cs_pts S (cs_pc S - 3) then cs_pts S (cs_pc S - 2) else cs_pts S (cs_pc S - 3))) (va_up (cs_pts S) (cs_pc S - 3) (cs_pts S (cs_pc S - 1)))) (cs_pc S - 2)
def sTco : Nat → CS → CS
  | 0, S => S
  | k + 1, S => if nI (cs_pc S) < 4 then S else if labs (cs_pts S (cs_pc S - 4) - cs_pts S (cs_pc S - 3)) < labs (cs_pts S (cs_pc S - 3) - cs_pts S (cs_pc S - 2)) then S else if labs (cs_pts S (cs_pc S - 2) - cs_pts S (cs_pc S - 1)) < labs (cs_pts S (cs_pc S - 3) - cs_pts S (cs_pc S - 2)) then S else sTco k (sTco1 S)
def sFol (S : CS) (v : Int64) : CS := sTco 250 (sPut S v)
theorem sGo_pos {f : Nat → Int64} {n : Nat} {v : Int64} (h : ¬ sGo f n v = 0) : 1 ≤ n := by
  rcases Nat.eq_zero_or_pos n with q | q
  · subst q
    exact absurd (by unfold sGo; rw [if_pos (by decide)]) h
  · exact q
theorem sPut_ok {S : CS} {v : Int64} (hp : cs_pc S ≤ 500) (hc : cs_pc S + 2 * cs_cyc S ≤ 513) : cs_pc (sPut S v) ≤ 500 ∧ cs_pc (sPut S v) + 2 * cs_cyc (sPut S v) ≤ 514 := by
  unfold sPut
  by_cases h : sGo (cs_pts S) (cs_pc S) v = 0
  · rw [if_pos h]
    by_cases h2 : nI (cs_pc S) < nI 500
    · rw [if_pos h2]
      have h3 := nI_islt (by omega) (by omega) h2
      constructor
      · show cs_pc S + 1 ≤ 500; omega
      · show cs_pc S + 1 + 2 * cs_cyc S ≤ 514; omega
    · rw [if_neg h2]; omega
  · rw [if_neg h]
    exact ⟨hp, by show cs_pc S + 2 * cs_cyc S ≤ 514; omega⟩
/-- the estimate of a step -/
def sCnt (e : UInt64) (cur cap : Int64) : UInt64 := if cap = 0 then e else FP.dadd e (FP.ddiv (FP.l2d cur) (FP.l2d cap))
def sTold (vo : Int64) : UInt64 := sWin (FP.ddiv (FP.l2d (vo - 3000)) 4652992471259676672)
def sEst (e : UInt64) (cur vo cap : Int64) : UInt64 := FP.dadd (sWin (sCnt e cur cap)) (FP.dmul 4589168020290535424 (FP.dsub (sTold vo) (sWin (sCnt e cur cap))))
theorem okD_cnt {e : UInt64} (h : okD 1026 e) (cur cap : Int64) : okD 2047 (sCnt e cur cap) := by
  unfold sCnt
  by_cases h0 : cap = 0
  · rw [if_pos h0]; exact okD_mono h (by omega)
  · rw [if_neg h0]; exact okD_mono (okD_add (K := 1089) (by omega) (okD_mono h (by omega)) (okD_quo h0)) (by omega)
theorem okD_told (vo : Int64) : okD 1024 (sTold vo) := okD_win (okD_mono (okD_quo2 _) (by omega))
theorem okD_dif {e : UInt64} (h : okD 1026 e) (cur vo cap : Int64) : okD 1026 (FP.dsub (sTold vo) (sWin (sCnt e cur cap))) := okD_sub (by omega) (okD_told vo) (okD_win (okD_cnt h cur cap))
theorem okD_est {e : UInt64} (h : okD 1026 e) (cur vo cap : Int64) : okD 1026 (sEst e cur vo cap) := okD_add (by omega) (okD_win (okD_cnt h cur cap)) (okD_mul (okD_dif h cur vo cap))
def sTake (S : CS) (j : Nat) (cur vo wa cap : Int64) : CS := cs_set_es (cs_set_ch (cs_set_wa (cs_set_vo S (va_up (cs_vo S) j vo)) (va_up (cs_wa S) j wa)) (va_up (cs_ch S) j (cs_ch S j + (if cs_bl S j = 0 then cur else cur - 5)))) (va_up (cs_es S) j (sEst (cs_es S j) cur vo cap))
