/-! what the class's methods answer and leave -/
theorem i01 {c : Prop} [Decidable c] : (if c then (1 : Int32) else 0) = 0 ∨ (if c then (1 : Int32) else 0) = 1 := by
  by_cases h : c
  · rw [if_pos h]; exact Or.inr rfl
  · rw [if_neg h]; exact Or.inl rfl
theorem i10 {c : Prop} [Decidable c] : (if c then (0 : Int32) else 1) = 0 ∨ (if c then (0 : Int32) else 1) = 1 := by
  by_cases h : c
  · rw [if_pos h]; exact Or.inl rfl
  · rw [if_neg h]; exact Or.inr rfl
theorem nI_notlt {a b : Nat} (hb : b < 2147483648) (h : ¬ nI a < nI b) : b ≤ a := Nat.not_lt.mp fun q => h (nI_lt q hb)
theorem nI_islt {a b : Nat} (ha : a < 2147483648) (hb : b < 2147483648) (h : nI a < nI b) : a < b := (nI_ltI ha hb).mp h
def sOut (v lo hi : Int64) : Int32 := if v < lo then 1 else if hi < v then 1 else 0
def sBey (S : CS) (j : Nat) (cur : Int64) : Int32 := if sOut (cs_vo S j) (cs_lim S 0) (cs_lim S 1) = 0 then (if cs_lim S 2 < cs_wa S j then 1 else if cs_lim S 3 < labs cur then 1 else 0) else 1
def sNote (S : CS) (k : Int32) : CS := cs_set_fc (cs_set_flt (cs_set_st S 0) (va_up (cs_flt S) (cs_fc S) k)) (cs_fc S + 1)
def sKeep (S : CS) (r w : Int64) : CS := cs_set_cyc (cs_set_low (cs_set_rng S (va_up (cs_rng S) (cs_cyc S) r)) (va_up (cs_low S) (cs_cyc S) w)) (cs_cyc S + 1)
def sGo (f : Nat → Int64) (n : Nat) (v : Int64) : Int32 := if nI n < 1 then 0 else if v = f (n - 1) then 1 else if 1 < nI n then (if (if f (n - 1) < v then (1 : Int32) else 0) = (if f (n - 2) < f (n - 1) then 1 else 0) then 1 else 0) else 0
def rCyc2 (S : CS) (i w : Int32) : Int32 := (ix (cs_cyc S) i).elim (-1) (fun j => if w = 0 then (cs_rng S j).toInt32 else if w = 1 then (cs_low S j).toInt32 else (-2))
def rCyc (S : CS) (i w : Int32) : Int32 := if i = (-1) then (if w = 0 then nI (cs_cyc S) else rCyc2 S i w) else rCyc2 S i w
def rLim (p : Int32) (v : Int64) : Int32 := (ix 6 p).elim (-1) (fun j => if sOut v (if nI j = 5 then 0 else (-1000)) 1000000 = 0 then 1 else (-2))
def gLim (S : CS) (p : Int32) (v : Int64) : CS := (ix 6 p).elim S (fun j => if sOut v (if nI j = 5 then 0 else (-1000)) 1000000 = 0 then cs_set_lim S (va_up (cs_lim S) j v) else S)
def gStu (S : CS) (p : Int32) : CS := (ix 3 p).elim S (fun j => cs_set_stk S (va_up (cs_stk S) j (if cs_stk S j = 0 then 1 else 0)))
def rStu (S : CS) (p : Int32) : Int32 := (ix 3 p).elim (-1) (fun j => if va_up (cs_stk S) j (if cs_stk S j = 0 then 1 else 0) j = 0 then 0 else 1)
def rIns (v : Int64) : Int32 := if v < 0 then (-2) else if v < 100 then 0 else 1
def gIns (S : CS) (v : Int64) : CS := if v < 0 then S else if v < 100 then sNote S 5 else S
def sStk (S : CS) (p : Int32) : Int32 := (ix 3 p).elim 0 (fun j => if cs_stk S j = 0 then 0 else 1)
def rClo2 (S : CS) : Int32 := if sStk S (nI (cs_st S)) = 0 then nI (cs_st S + 1) else nI (cs_st (sNote S 4))
def rClo (S : CS) : Int32 := if nI (cs_st S) = 3 then (-3) else if nI (cs_st S) = 2 then (if cs_pre S < 3 then (-3) else if cs_pre S < 20 then rClo2 S else nI (cs_st (sNote S 3))) else rClo2 S
def gClo2 (S : CS) : CS := if sStk S (nI (cs_st S)) = 0 then cs_set_pre (cs_set_st S (cs_st S + 1)) 0 else sNote S 4
def gClo (S : CS) : CS := if nI (cs_st S) = 3 then S else if nI (cs_st S) = 2 then (if cs_pre S < 3 then S else if cs_pre S < 20 then gClo2 S else sNote S 3) else gClo2 S
def rCon (S : CS) (p : Int32) : Int32 := if p = 0 then nI 0 else rClo S
def gCon (S : CS) (p : Int32) : CS := if p = 0 then cs_set_st S 0 else gClo S
def sTw (S : CS) (j : Nat) : Int32 := if 0 < cs_be S j then (if cs_be S j - cs_be S j / 2 * 2 = 0 then 1 else 0) else 0
def sWr (S : CS) (j : Nat) : Int32 := sOut (cs_ch S j) 0 (cs_lim S 5)
def gNfs (S : CS) (j : Nat) : CS := if sTw S j = 0 then (if sWr S j = 0 then S else sNote S 2) else (if sWr S j = 0 then sNote S 1 else sNote (sNote S 1) 2)
def rNfs (S : CS) (j : Nat) : Int32 := if sTw S j = 0 then (if sWr S j = 0 then 0 else 1) else 1
def sPut (S : CS) (v : Int64) : CS := if sGo (cs_pts S) (cs_pc S) v = 0 then (if nI (cs_pc S) < nI 500 then cs_set_pc (cs_set_pts S (va_up (cs_pts S) (cs_pc S) v)) (cs_pc S + 1) else S) else cs_set_pts S (va_up (cs_pts S) (cs_pc S - 1) v)
