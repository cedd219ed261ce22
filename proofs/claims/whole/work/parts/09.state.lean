/-! the states: the class, the reference; and their worlds -/
abbrev CS : Type := Nat × Int32 × Nat × Nat × Nat × (Nat → Int64) × (Nat → Int32) × (Nat → Int32) × (Nat → Int64) × (Nat → Int64) × (Nat → Int64) × (Nat → Int64) × (Nat → UInt64) × (Nat → Int64) × (Nat → Int64) × (Nat → Int32) × (Nat → Int32)
def cs_st (S : CS) : Nat := S.1
def cs_set_st (S : CS) (v : Nat) : CS := (v, S.2)
def cs_pre (S : CS) : Int32 := S.2.1
def cs_set_pre (S : CS) (v : Int32) : CS := (S.1, v, S.2.2)
def cs_fc (S : CS) : Nat := S.2.2.1
def cs_set_fc (S : CS) (v : Nat) : CS := (S.1, S.2.1, v, S.2.2.2)
def cs_pc (S : CS) : Nat := S.2.2.2.1
def cs_set_pc (S : CS) (v : Nat) : CS := (S.1, S.2.1, S.2.2.1, v, S.2.2.2.2)
def cs_cyc (S : CS) : Nat := S.2.2.2.2.1
def cs_set_cyc (S : CS) (v : Nat) : CS := (S.1, S.2.1, S.2.2.1, S.2.2.2.1, v, S.2.2.2.2.2)
def cs_lim (S : CS) : Nat → Int64 := S.2.2.2.2.2.1
def cs_set_lim (S : CS) (v : Nat → Int64) : CS := (S.1, S.2.1, S.2.2.1, S.2.2.2.1, S.2.2.2.2.1, v, S.2.2.2.2.2.2)
def cs_stk (S : CS) : Nat → Int32 := S.2.2.2.2.2.2.1
def cs_set_stk (S : CS) (v : Nat → Int32) : CS := (S.1, S.2.1, S.2.2.1, S.2.2.2.1, S.2.2.2.2.1, S.2.2.2.2.2.1, v, S.2.2.2.2.2.2.2)
def cs_flt (S : CS) : Nat → Int32 := S.2.2.2.2.2.2.2.1
def cs_set_flt (S : CS) (v : Nat → Int32) : CS := (S.1, S.2.1, S.2.2.1, S.2.2.2.1, S.2.2.2.2.1, S.2.2.2.2.2.1, S.2.2.2.2.2.2.1, v, S.2.2.2.2.2.2.2.2)
def cs_pts (S : CS) : Nat → Int64 := S.2.2.2.2.2.2.2.2.1
def cs_set_pts (S : CS) (v : Nat → Int64) : CS := (S.1, S.2.1, S.2.2.1, S.2.2.2.1, S.2.2.2.2.1, S.2.2.2.2.2.1, S.2.2.2.2.2.2.1, S.2.2.2.2.2.2.2.1, v, S.2.2.2.2.2.2.2.2.2)
def cs_rng (S : CS) : Nat → Int64 := S.2.2.2.2.2.2.2.2.2.1
def cs_set_rng (S : CS) (v : Nat → Int64) : CS := (S.1, S.2.1, S.2.2.1, S.2.2.2.1, S.2.2.2.2.1, S.2.2.2.2.2.1, S.2.2.2.2.2.2.1, S.2.2.2.2.2.2.2.1, S.2.2.2.2.2.2.2.2.1, v, S.2.2.2.2.2.2.2.2.2.2)
def cs_low (S : CS) : Nat → Int64 := S.2.2.2.2.2.2.2.2.2.2.1
def cs_set_low (S : CS) (v : Nat → Int64) : CS := (S.1, S.2.1, S.2.2.1, S.2.2.2.1, S.2.2.2.2.1, S.2.2.2.2.2.1, S.2.2.2.2.2.2.1, S.2.2.2.2.2.2.2.1, S.2.2.2.2.2.2.2.2.1, S.2.2.2.2.2.2.2.2.2.1, v, S.2.2.2.2.2.2.2.2.2.2.2)
def cs_ch (S : CS) : Nat → Int64 := S.2.2.2.2.2.2.2.2.2.2.2.1
def cs_set_ch (S : CS) (v : Nat → Int64) : CS := (S.1, S.2.1, S.2.2.1, S.2.2.2.1, S.2.2.2.2.1, S.2.2.2.2.2.1, S.2.2.2.2.2.2.1, S.2.2.2.2.2.2.2.1, S.2.2.2.2.2.2.2.2.1, S.2.2.2.2.2.2.2.2.2.1, S.2.2.2.2.2.2.2.2.2.2.1, v, S.2.2.2.2.2.2.2.2.2.2.2.2)
def cs_es (S : CS) : Nat → UInt64 := S.2.2.2.2.2.2.2.2.2.2.2.2.1
def cs_set_es (S : CS) (v : Nat → UInt64) : CS := (S.1, S.2.1, S.2.2.1, S.2.2.2.1, S.2.2.2.2.1, S.2.2.2.2.2.1, S.2.2.2.2.2.2.1, S.2.2.2.2.2.2.2.1, S.2.2.2.2.2.2.2.2.1, S.2.2.2.2.2.2.2.2.2.1, S.2.2.2.2.2.2.2.2.2.2.1, S.2.2.2.2.2.2.2.2.2.2.2.1, v, S.2.2.2.2.2.2.2.2.2.2.2.2.2)
def cs_vo (S : CS) : Nat → Int64 := S.2.2.2.2.2.2.2.2.2.2.2.2.2.1
def cs_set_vo (S : CS) (v : Nat → Int64) : CS := (S.1, S.2.1, S.2.2.1, S.2.2.2.1, S.2.2.2.2.1, S.2.2.2.2.2.1, S.2.2.2.2.2.2.1, S.2.2.2.2.2.2.2.1, S.2.2.2.2.2.2.2.2.1, S.2.2.2.2.2.2.2.2.2.1, S.2.2.2.2.2.2.2.2.2.2.1, S.2.2.2.2.2.2.2.2.2.2.2.1, S.2.2.2.2.2.2.2.2.2.2.2.2.1, v, S.2.2.2.2.2.2.2.2.2.2.2.2.2.2)
def cs_wa (S : CS) : Nat → Int64 := S.2.2.2.2.2.2.2.2.2.2.2.2.2.2.1
def cs_set_wa (S : CS) (v : Nat → Int64) : CS := (S.1, S.2.1, S.2.2.1, S.2.2.2.1, S.2.2.2.2.1, S.2.2.2.2.2.1, S.2.2.2.2.2.2.1, S.2.2.2.2.2.2.2.1, S.2.2.2.2.2.2.2.2.1, S.2.2.2.2.2.2.2.2.2.1, S.2.2.2.2.2.2.2.2.2.2.1, S.2.2.2.2.2.2.2.2.2.2.2.1, S.2.2.2.2.2.2.2.2.2.2.2.2.1, S.2.2.2.2.2.2.2.2.2.2.2.2.2.1, v, S.2.2.2.2.2.2.2.2.2.2.2.2.2.2.2)
def cs_be (S : CS) : Nat → Int32 := S.2.2.2.2.2.2.2.2.2.2.2.2.2.2.2.1
def cs_set_be (S : CS) (v : Nat → Int32) : CS := (S.1, S.2.1, S.2.2.1, S.2.2.2.1, S.2.2.2.2.1, S.2.2.2.2.2.1, S.2.2.2.2.2.2.1, S.2.2.2.2.2.2.2.1, S.2.2.2.2.2.2.2.2.1, S.2.2.2.2.2.2.2.2.2.1, S.2.2.2.2.2.2.2.2.2.2.1, S.2.2.2.2.2.2.2.2.2.2.2.1, S.2.2.2.2.2.2.2.2.2.2.2.2.1, S.2.2.2.2.2.2.2.2.2.2.2.2.2.1, S.2.2.2.2.2.2.2.2.2.2.2.2.2.2.1, v, S.2.2.2.2.2.2.2.2.2.2.2.2.2.2.2.2)
def cs_bl (S : CS) : Nat → Int32 := S.2.2.2.2.2.2.2.2.2.2.2.2.2.2.2.2
def cs_set_bl (S : CS) (v : Nat → Int32) : CS := (S.1, S.2.1, S.2.2.1, S.2.2.2.1, S.2.2.2.2.1, S.2.2.2.2.2.1, S.2.2.2.2.2.2.1, S.2.2.2.2.2.2.2.1, S.2.2.2.2.2.2.2.2.1, S.2.2.2.2.2.2.2.2.2.1, S.2.2.2.2.2.2.2.2.2.2.1, S.2.2.2.2.2.2.2.2.2.2.2.1, S.2.2.2.2.2.2.2.2.2.2.2.2.1, S.2.2.2.2.2.2.2.2.2.2.2.2.2.1, S.2.2.2.2.2.2.2.2.2.2.2.2.2.2.1, S.2.2.2.2.2.2.2.2.2.2.2.2.2.2.2.1, v)
abbrev MS : Type := Int32 × Nat × Int32 × Int32 × Nat × Nat × Nat × (Nat → Int64) × (Nat → UInt64) × (Nat → Int64) × (Nat → Int64) × (Nat → Int32) × (Nat → Int32) × (Nat → Int64) × (Nat → Int32) × (Nat → Int32) × (Nat → Int64) × (Nat → Int32) × (Nat → Int32)
def cm_th (S : MS) : Int32 := S.1
def cm_set_th (S : MS) (v : Int32) : MS := (v, S.2)
def cm_st (S : MS) : Nat := S.2.1
def cm_set_st (S : MS) (v : Nat) : MS := (S.1, v, S.2.2)
def cm_steps (S : MS) : Int32 := S.2.2.1
def cm_set_steps (S : MS) (v : Int32) : MS := (S.1, S.2.1, v, S.2.2.2)
def cm_beg (S : MS) : Int32 := S.2.2.2.1
def cm_set_beg (S : MS) (v : Int32) : MS := (S.1, S.2.1, S.2.2.1, v, S.2.2.2.2)
def cm_fc (S : MS) : Nat := S.2.2.2.2.1
def cm_set_fc (S : MS) (v : Nat) : MS := (S.1, S.2.1, S.2.2.1, S.2.2.2.1, v, S.2.2.2.2.2)
def cm_many (S : MS) : Nat := S.2.2.2.2.2.1
def cm_set_many (S : MS) (v : Nat) : MS := (S.1, S.2.1, S.2.2.1, S.2.2.2.1, S.2.2.2.2.1, v, S.2.2.2.2.2.2)
def cm_cyc (S : MS) : Nat := S.2.2.2.2.2.2.1
def cm_set_cyc (S : MS) (v : Nat) : MS := (S.1, S.2.1, S.2.2.1, S.2.2.2.1, S.2.2.2.2.1, S.2.2.2.2.2.1, v, S.2.2.2.2.2.2.2)
def cm_ch (S : MS) : Nat → Int64 := S.2.2.2.2.2.2.2.1
def cm_set_ch (S : MS) (v : Nat → Int64) : MS := (S.1, S.2.1, S.2.2.1, S.2.2.2.1, S.2.2.2.2.1, S.2.2.2.2.2.1, S.2.2.2.2.2.2.1, v, S.2.2.2.2.2.2.2.2)
def cm_es (S : MS) : Nat → UInt64 := S.2.2.2.2.2.2.2.2.1
def cm_set_es (S : MS) (v : Nat → UInt64) : MS := (S.1, S.2.1, S.2.2.1, S.2.2.2.1, S.2.2.2.2.1, S.2.2.2.2.2.1, S.2.2.2.2.2.2.1, S.2.2.2.2.2.2.2.1, v, S.2.2.2.2.2.2.2.2.2)
def cm_vo (S : MS) : Nat → Int64 := S.2.2.2.2.2.2.2.2.2.1
def cm_set_vo (S : MS) (v : Nat → Int64) : MS := (S.1, S.2.1, S.2.2.1, S.2.2.2.1, S.2.2.2.2.1, S.2.2.2.2.2.1, S.2.2.2.2.2.2.1, S.2.2.2.2.2.2.2.1, S.2.2.2.2.2.2.2.2.1, v, S.2.2.2.2.2.2.2.2.2.2)
def cm_wa (S : MS) : Nat → Int64 := S.2.2.2.2.2.2.2.2.2.2.1
def cm_set_wa (S : MS) (v : Nat → Int64) : MS := (S.1, S.2.1, S.2.2.1, S.2.2.2.1, S.2.2.2.2.1, S.2.2.2.2.2.1, S.2.2.2.2.2.2.1, S.2.2.2.2.2.2.2.1, S.2.2.2.2.2.2.2.2.1, S.2.2.2.2.2.2.2.2.2.1, v, S.2.2.2.2.2.2.2.2.2.2.2)
def cm_be (S : MS) : Nat → Int32 := S.2.2.2.2.2.2.2.2.2.2.2.1
def cm_set_be (S : MS) (v : Nat → Int32) : MS := (S.1, S.2.1, S.2.2.1, S.2.2.2.1, S.2.2.2.2.1, S.2.2.2.2.2.1, S.2.2.2.2.2.2.1, S.2.2.2.2.2.2.2.1, S.2.2.2.2.2.2.2.2.1, S.2.2.2.2.2.2.2.2.2.1, S.2.2.2.2.2.2.2.2.2.2.1, v, S.2.2.2.2.2.2.2.2.2.2.2.2)
def cm_bl (S : MS) : Nat → Int32 := S.2.2.2.2.2.2.2.2.2.2.2.2.1
def cm_set_bl (S : MS) (v : Nat → Int32) : MS := (S.1, S.2.1, S.2.2.1, S.2.2.2.1, S.2.2.2.2.1, S.2.2.2.2.2.1, S.2.2.2.2.2.2.1, S.2.2.2.2.2.2.2.1, S.2.2.2.2.2.2.2.2.1, S.2.2.2.2.2.2.2.2.2.1, S.2.2.2.2.2.2.2.2.2.2.1, S.2.2.2.2.2.2.2.2.2.2.2.1, v, S.2.2.2.2.2.2.2.2.2.2.2.2.2)
def cm_lim (S : MS) : Nat → Int64 := S.2.2.2.2.2.2.2.2.2.2.2.2.2.1
def cm_set_lim (S : MS) (v : Nat → Int64) : MS := (S.1, S.2.1, S.2.2.1, S.2.2.2.1, S.2.2.2.2.1, S.2.2.2.2.2.1, S.2.2.2.2.2.2.1, S.2.2.2.2.2.2.2.1, S.2.2.2.2.2.2.2.2.1, S.2.2.2.2.2.2.2.2.2.1, S.2.2.2.2.2.2.2.2.2.2.1, S.2.2.2.2.2.2.2.2.2.2.2.1, S.2.2.2.2.2.2.2.2.2.2.2.2.1, v, S.2.2.2.2.2.2.2.2.2.2.2.2.2.2)
def cm_stk (S : MS) : Nat → Int32 := S.2.2.2.2.2.2.2.2.2.2.2.2.2.2.1
def cm_set_stk (S : MS) (v : Nat → Int32) : MS := (S.1, S.2.1, S.2.2.1, S.2.2.2.1, S.2.2.2.2.1, S.2.2.2.2.2.1, S.2.2.2.2.2.2.1, S.2.2.2.2.2.2.2.1, S.2.2.2.2.2.2.2.2.1, S.2.2.2.2.2.2.2.2.2.1, S.2.2.2.2.2.2.2.2.2.2.1, S.2.2.2.2.2.2.2.2.2.2.2.1, S.2.2.2.2.2.2.2.2.2.2.2.2.1, S.2.2.2.2.2.2.2.2.2.2.2.2.2.1, v, S.2.2.2.2.2.2.2.2.2.2.2.2.2.2.2)
def cm_flt (S : MS) : Nat → Int32 := S.2.2.2.2.2.2.2.2.2.2.2.2.2.2.2.1
def cm_set_flt (S : MS) (v : Nat → Int32) : MS := (S.1, S.2.1, S.2.2.1, S.2.2.2.1, S.2.2.2.2.1, S.2.2.2.2.2.1, S.2.2.2.2.2.2.1, S.2.2.2.2.2.2.2.1, S.2.2.2.2.2.2.2.2.1, S.2.2.2.2.2.2.2.2.2.1, S.2.2.2.2.2.2.2.2.2.2.1, S.2.2.2.2.2.2.2.2.2.2.2.1, S.2.2.2.2.2.2.2.2.2.2.2.2.1, S.2.2.2.2.2.2.2.2.2.2.2.2.2.1, S.2.2.2.2.2.2.2.2.2.2.2.2.2.2.1, v, S.2.2.2.2.2.2.2.2.2.2.2.2.2.2.2.2)
def cm_pts (S : MS) : Nat → Int64 := S.2.2.2.2.2.2.2.2.2.2.2.2.2.2.2.2.1
def cm_set_pts (S : MS) (v : Nat → Int64) : MS := (S.1, S.2.1, S.2.2.1, S.2.2.2.1, S.2.2.2.2.1, S.2.2.2.2.2.1, S.2.2.2.2.2.2.1, S.2.2.2.2.2.2.2.1, S.2.2.2.2.2.2.2.2.1, S.2.2.2.2.2.2.2.2.2.1, S.2.2.2.2.2.2.2.2.2.2.1, S.2.2.2.2.2.2.2.2.2.2.2.1, S.2.2.2.2.2.2.2.2.2.2.2.2.1, S.2.2.2.2.2.2.2.2.2.2.2.2.2.1, S.2.2.2.2.2.2.2.2.2.2.2.2.2.2.1, S.2.2.2.2.2.2.2.2.2.2.2.2.2.2.2.1, v, S.2.2.2.2.2.2.2.2.2.2.2.2.2.2.2.2.2)
def cm_rng (S : MS) : Nat → Int32 := S.2.2.2.2.2.2.2.2.2.2.2.2.2.2.2.2.2.1
def cm_set_rng (S : MS) (v : Nat → Int32) : MS := (S.1, S.2.1, S.2.2.1, S.2.2.2.1, S.2.2.2.2.1, S.2.2.2.2.2.1, S.2.2.2.2.2.2.1, S.2.2.2.2.2.2.2.1, S.2.2.2.2.2.2.2.2.1, S.2.2.2.2.2.2.2.2.2.1, S.2.2.2.2.2.2.2.2.2.2.1, S.2.2.2.2.2.2.2.2.2.2.2.1, S.2.2.2.2.2.2.2.2.2.2.2.2.1, S.2.2.2.2.2.2.2.2.2.2.2.2.2.1, S.2.2.2.2.2.2.2.2.2.2.2.2.2.2.1, S.2.2.2.2.2.2.2.2.2.2.2.2.2.2.2.1, S.2.2.2.2.2.2.2.2.2.2.2.2.2.2.2.2.1, v, S.2.2.2.2.2.2.2.2.2.2.2.2.2.2.2.2.2.2)
def cm_low (S : MS) : Nat → Int32 := S.2.2.2.2.2.2.2.2.2.2.2.2.2.2.2.2.2.2
def cm_set_low (S : MS) (v : Nat → Int32) : MS := (S.1, S.2.1, S.2.2.1, S.2.2.2.1, S.2.2.2.2.1, S.2.2.2.2.2.1, S.2.2.2.2.2.2.1, S.2.2.2.2.2.2.2.1, S.2.2.2.2.2.2.2.2.1, S.2.2.2.2.2.2.2.2.2.1, S.2.2.2.2.2.2.2.2.2.2.1, S.2.2.2.2.2.2.2.2.2.2.2.1, S.2.2.2.2.2.2.2.2.2.2.2.2.1, S.2.2.2.2.2.2.2.2.2.2.2.2.2.1, S.2.2.2.2.2.2.2.2.2.2.2.2.2.2.1, S.2.2.2.2.2.2.2.2.2.2.2.2.2.2.2.1, S.2.2.2.2.2.2.2.2.2.2.2.2.2.2.2.2.1, S.2.2.2.2.2.2.2.2.2.2.2.2.2.2.2.2.2.1, v)
def wXc (a : Nat → Nat) (S : CS) (j : Nat) : Nat × va_E := (a (9 + j), .inr (1, [.long (cs_ch S j), .double (cs_es S j), .long (cs_vo S j), .long (cs_wa S j), .int (cs_be S j), .int (cs_bl S j)]))
def wX9 (cy : Nat → ClassId) (a : Nat → Nat) (n : Nat) (S : CS) : va_W := [(a 0, .inr (3, [.ref (a 1), .ref (a 2), .ref (a 3), .ref (a 4), .ref (a 5), .int (nI (cs_st S)), .int (cs_pre S), .int (nI (cs_fc S))])), (a 1, .inl (cy 1, n, .inr (.inr (.inr (.inr (fun j => some (a (9 + j)))))))), (a 2, .inl (cy 2, 6, .inr (.inl (cs_lim S)))), (a 3, .inl (cy 3, 3, .inl (cs_stk S))), (a 4, .inl (cy 4, 1024, .inl (cs_flt S))), (a 5, .inr (2, [.ref (a 6), .ref (a 7), .ref (a 8), .int (nI (cs_pc S)), .int (nI (cs_cyc S))])), (a 6, .inl (cy 6, 500, .inr (.inl (cs_pts S)))), (a 7, .inl (cy 7, 256, .inr (.inl (cs_rng S)))), (a 8, .inl (cy 8, 256, .inr (.inl (cs_low S))))]
def wX (cy : Nat → ClassId) (a : Nat → Nat) (n : Nat) (S : CS) : va_W := wX9 cy a n S ++ (List.range n).map (wXc a S)
def tX (cy : Nat → ClassId) : List (ClassId × FieldType) := [(cy 1, .object "CellRows2$Cell"), (cy 2, .long), (cy 3, .boolean), (cy 4, .int), (cy 6, .long), (cy 7, .long), (cy 8, .long)]
def wM (cm : Nat → ClassId) (b : Nat → Nat) (n : Nat) (M : MS) : va_W := [(b 0, .inr (4, [.int (cm_th M), .int (nI n), .ref (b 1), .ref (b 2), .ref (b 3), .ref (b 4), .ref (b 5), .ref (b 6), .ref (b 7), .int (nI (cm_st M)), .int (cm_steps M), .int (cm_beg M), .ref (b 8), .ref (b 9), .int (nI (cm_fc M)), .ref (b 10), .int (nI (cm_many M)), .ref (b 11), .ref (b 12), .int (nI (cm_cyc M))])), (b 1, .inl (cm 1, 24, .inr (.inl (cm_ch M)))), (b 2, .inl (cm 2, 24, .inr (.inr (.inr (.inl (cm_es M)))))), (b 3, .inl (cm 3, 24, .inr (.inl (cm_vo M)))), (b 4, .inl (cm 4, 24, .inr (.inl (cm_wa M)))), (b 5, .inl (cm 5, 24, .inl (cm_be M))), (b 6, .inl (cm 6, 24, .inl (cm_bl M))), (b 7, .inl (cm 7, 6, .inr (.inl (cm_lim M)))), (b 8, .inl (cm 8, 3, .inl (cm_stk M))), (b 9, .inl (cm 9, 2048, .inl (cm_flt M))), (b 10, .inl (cm 10, 502, .inr (.inl (cm_pts M)))), (b 11, .inl (cm 11, 1024, .inl (cm_rng M))), (b 12, .inl (cm 12, 1024, .inl (cm_low M)))]
def tM (cm : Nat → ClassId) : List (ClassId × FieldType) := [(cm 1, .long), (cm 2, .double), (cm 3, .long), (cm 4, .long), (cm 5, .int), (cm 6, .boolean), (cm 7, .long), (cm 8, .boolean), (cm 9, .int), (cm 10, .long), (cm 11, .int), (cm 12, .int)]
/-! the links between the class and its nest mates -/
def nestL : List Cond := [.fieldLinkNest RX2 117 RX0 "bleeds" "Z" RX2, .fieldLinkNest RX2 139 RX1 "cycleCount" "I" RX2, .fieldLinkNest RX2 142 RX1 "cycleRanges" "[J" RX2, .fieldLinkNest RX2 145 RX1 "cycleLows" "[J" RX2, .fieldLinkNest RX2 161 RX0 "voltage" "J" RX2, .fieldLinkNest RX2 164 RX0 "warmth" "J" RX2, .fieldLinkNest RX2 82 RX0 "charge" "J" RX2, .fieldLinkNest RX2 90 RX0 "beyondInRow" "I" RX2, .fieldLinkNest RX2 97 RX0 "estimate" "D" RX2, .methodLinkNest RX2 15 yX0_init RX2, .methodLinkNest RX2 38 yX1_init RX2, .methodLinkNest RX2 45 yX1_follow RX2, .methodLinkNest RX2 74 yX0_take RX2]
def nwX (U : State) : Prop := ∀ w ∈ nestL, va_Nw w U
theorem nwX_warm {s U : State} (hW : s.WarmedH U.vm) (h : nwX s) : nwX U := by
  intro w hw
  have h1 := h w hw
  simp only [nestL, List.mem_cons, List.not_mem_nil, or_false] at hw
  rcases hw with rfl | rfl | rfl | rfl | rfl | rfl | rfl | rfl | rfl | rfl | rfl | rfl | rfl <;> first | exact va_Nw.warmF hW h1 | exact va_Nw.warmM hW h1
theorem nwX_same {u U : State} (he : u.vm = U.vm) (h : nwX u) : nwX U := by
  intro w hw
  have h1 := h w hw
  simp only [nestL, List.mem_cons, List.not_mem_nil, or_false] at hw
  rcases hw with rfl | rfl | rfl | rfl | rfl | rfl | rfl | rfl | rfl | rfl | rfl | rfl | rfl <;> exact va_Nw.same rfl he h1
theorem nwX_of {s : State} {args : Array Value} (h : ∀ w ∈ nestL, w.before args s = true) : nwX s := by
  intro w hw
  have h1 := h w hw
  simp only [nestL, List.mem_cons, List.not_mem_nil, or_false] at hw
  rcases hw with rfl | rfl | rfl | rfl | rfl | rfl | rfl | rfl | rfl | rfl | rfl | rfl | rfl <;> exact va_Nw.of rfl h1
/-! starts and ends -/
abbrev pX (D : va_G) (cy : Nat → ClassId) (a : Nat → Nat) (n : Nat) (S : CS) (sz : Nat) (U : State) : Prop := U.heap.size = sz ∧ va_P D vwCl (wX cy a n S) U.heap ∧ va_K D vwCl (tX cy) U ∧ va_D (fun _ => True) (wX cy a n S) ∧ nwX U
abbrev eX (D : va_G) (cy : Nat → ClassId) (a : Nat → Nat) (n : Nat) (A : Nat → Prop) (S : CS) (t : State) : Prop := va_P D vwCl (wX cy a n S) t.heap ∧ va_K D vwCl (tX cy) t ∧ va_D A (wX cy a n S)
abbrev pM (D : va_G) (cm : Nat → ClassId) (b : Nat → Nat) (n : Nat) (M : MS) (sz : Nat) (U : State) : Prop := U.heap.size = sz ∧ va_P D vwCl (wM cm b n M) U.heap ∧ va_K D vwCl (tM cm) U ∧ va_D (fun _ => True) (wM cm b n M)
abbrev eM (D : va_G) (cm : Nat → ClassId) (b : Nat → Nat) (n : Nat) (A : Nat → Prop) (M : MS) (t : State) : Prop := va_P D vwCl (wM cm b n M) t.heap ∧ va_K D vwCl (tM cm) t ∧ va_D A (wM cm b n M)
theorem pX_blind {av : List Value} {D : va_G} {cy : Nat → ClassId} {a : Nat → Nat} {n : Nat} {S : CS} {sz : Nat} : FrameBlind (va_Pc av (pX D cy a n S sz)) := fun v U g mk q => ⟨q.1, q.2.1, q.2.2.1, va_K.moved (u := U) (U := U.calling g mk v) (Vm.Alike.refl U.vm) q.2.2.2.1, q.2.2.2.2.1, nwX_same (u := U) (U := U.calling g mk v) rfl q.2.2.2.2.2⟩
theorem pM_blind {av : List Value} {D : va_G} {cm : Nat → ClassId} {b : Nat → Nat} {n : Nat} {M : MS} {sz : Nat} : FrameBlind (va_Pc av (pM D cm b n M sz)) := fun v U g mk q => ⟨q.1, q.2.1, q.2.2.1, va_K.moved (u := U) (U := U.calling g mk v) (Vm.Alike.refl U.vm) q.2.2.2.1, q.2.2.2.2⟩
theorem pX_mk {D : va_G} {cy : Nat → ClassId} {a : Nat → Nat} {n : Nat} {S : CS} {A : Nat → Prop} {s : State} {H : Heap} (hP : va_P D vwCl (wX cy a n S) H) (hK : va_K D vwCl (tX cy) s) (hD : va_D A (wX cy a n S)) (hN : nwX s) {U : State} (hU : U.heap = H) (hW : s.WarmedH U.vm) : pX D cy a n S H.size U := ⟨by rw [hU], by rw [hU]; exact hP, va_K.moved hW.alike hK, hD.weaken (fun _ _ _ _ => trivial), nwX_warm hW hN⟩
theorem pM_mk {D : va_G} {cm : Nat → ClassId} {b : Nat → Nat} {n : Nat} {M : MS} {A : Nat → Prop} {s : State} {H : Heap} (hP : va_P D vwCl (wM cm b n M) H) (hK : va_K D vwCl (tM cm) s) (hD : va_D A (wM cm b n M)) {U : State} (hU : U.heap = H) (hW : s.WarmedH U.vm) : pM D cm b n M H.size U := ⟨by rw [hU], by rw [hU]; exact hP, va_K.moved hW.alike hK, hD.weaken (fun _ _ _ _ => trivial)⟩
theorem freeAll {A0 : Nat → Prop} {ws : va_W} {H0 H : Heap} {locs : List Loc} (hD : va_D A0 ws) (hS : va_S A0 H0 H locs) (hA : ∀ q, H0.size ≤ q → A0 q) : ∀ q, va_A ws H.size q → A0 q := by
  intro q h
  rcases h with ⟨k, e, h⟩ | h
  · exact hD.2 k (q, e) h
  · exact hA q (Nat.le_trans hS.1 h)
theorem wX9_len (cy : Nat → ClassId) (a : Nat → Nat) (n : Nat) (S : CS) : (wX9 cy a n S).length = 9 := rfl
theorem wX_c {cy : Nat → ClassId} {a : Nat → Nat} {n : Nat} {S : CS} {j : Nat} (hj : j < n) : (wX cy a n S)[9 + j]? = some (wXc a S j) := by
  unfold wX
  rw [List.getElem?_append_right (by rw [wX9_len]; omega), wX9_len, Nat.add_sub_cancel_left, List.getElem?_map, List.getElem?_range hj]
  rfl
theorem wX_setc {cy : Nat → ClassId} {a : Nat → Nat} {n : Nat} {S S' : CS} {j : Nat} {x : Nat × va_E} (h9 : wX9 cy a n S' = wX9 cy a n S) (hx : wXc a S' j = x) (ho : ∀ i, i ≠ j → wXc a S' i = wXc a S i) : (wX cy a n S).set (9 + j) x = wX cy a n S' := by
  unfold wX
  rw [h9, List.set_append_right _ _ (by rw [wX9_len]; omega), wX9_len, Nat.add_sub_cancel_left]
  congr 1
  apply List.ext_getElem?
  intro i
  by_cases hi : i = j
  · subst hi
    by_cases hl : i < n
    · rw [List.getElem?_set_self (by simpa using hl), List.getElem?_map, List.getElem?_range hl, ← hx]
      rfl
    · rw [List.getElem?_eq_none (by simp; omega), List.getElem?_eq_none (by simp; omega)]
  · rw [List.getElem?_set_ne (Ne.symm hi), List.getElem?_map, List.getElem?_map]
    by_cases hl : i < n
    · rw [List.getElem?_range hl]
      exact congrArg some (ho i hi).symm
    · rw [List.getElem?_eq_none (by simpa using hl)]
      rfl
theorem wX_set_ch {cy : Nat → ClassId} {a : Nat → Nat} {n : Nat} (S : CS) (j : Nat) (v : Int64) : (wX cy a n S).set (9 + j) (a (9 + j), .inr (1, [.long v, .double (cs_es S j), .long (cs_vo S j), .long (cs_wa S j), .int (cs_be S j), .int (cs_bl S j)])) = wX cy a n (cs_set_ch S (va_up (cs_ch S) j v)) := wX_setc rfl (by show (_, _) = (_, _); simp [wXc, cs_set_ch, va_up, cs_ch, cs_es, cs_vo, cs_wa, cs_be, cs_bl]) (fun i hi => by simp [wXc, cs_set_ch, va_up, hi, cs_ch, cs_es, cs_vo, cs_wa, cs_be, cs_bl])
theorem wX_set_es {cy : Nat → ClassId} {a : Nat → Nat} {n : Nat} (S : CS) (j : Nat) (v : UInt64) : (wX cy a n S).set (9 + j) (a (9 + j), .inr (1, [.long (cs_ch S j), .double v, .long (cs_vo S j), .long (cs_wa S j), .int (cs_be S j), .int (cs_bl S j)])) = wX cy a n (cs_set_es S (va_up (cs_es S) j v)) := wX_setc rfl (by show (_, _) = (_, _); simp [wXc, cs_set_es, va_up, cs_ch, cs_es, cs_vo, cs_wa, cs_be, cs_bl]) (fun i hi => by simp [wXc, cs_set_es, va_up, hi, cs_ch, cs_es, cs_vo, cs_wa, cs_be, cs_bl])
theorem wX_set_vo {cy : Nat → ClassId} {a : Nat → Nat} {n : Nat} (S : CS) (j : Nat) (v : Int64) : (wX cy a n S).set (9 + j) (a (9 + j), .inr (1, [.long (cs_ch S j), .double (cs_es S j), .long v, .long (cs_wa S j), .int (cs_be S j), .int (cs_bl S j)])) = wX cy a n (cs_set_vo S (va_up (cs_vo S) j v)) := wX_setc rfl (by show (_, _) = (_, _); simp [wXc, cs_set_vo, va_up, cs_ch, cs_es, cs_vo, cs_wa, cs_be, cs_bl]) (fun i hi => by simp [wXc, cs_set_vo, va_up, hi, cs_ch, cs_es, cs_vo, cs_wa, cs_be, cs_bl])
theorem wX_set_wa {cy : Nat → ClassId} {a : Nat → Nat} {n : Nat} (S : CS) (j : Nat) (v : Int64) : (wX cy a n S).set (9 + j) (a (9 + j), .inr (1, [.long (cs_ch S j), .double (cs_es S j), .long (cs_vo S j), .long v, .int (cs_be S j), .int (cs_bl S j)])) = wX cy a n (cs_set_wa S (va_up (cs_wa S) j v)) := wX_setc rfl (by show (_, _) = (_, _); simp [wXc, cs_set_wa, va_up, cs_ch, cs_es, cs_vo, cs_wa, cs_be, cs_bl]) (fun i hi => by simp [wXc, cs_set_wa, va_up, hi, cs_ch, cs_es, cs_vo, cs_wa, cs_be, cs_bl])
theorem wX_set_be {cy : Nat → ClassId} {a : Nat → Nat} {n : Nat} (S : CS) (j : Nat) (v : Int32) : (wX cy a n S).set (9 + j) (a (9 + j), .inr (1, [.long (cs_ch S j), .double (cs_es S j), .long (cs_vo S j), .long (cs_wa S j), .int v, .int (cs_bl S j)])) = wX cy a n (cs_set_be S (va_up (cs_be S) j v)) := wX_setc rfl (by show (_, _) = (_, _); simp [wXc, cs_set_be, va_up, cs_ch, cs_es, cs_vo, cs_wa, cs_be, cs_bl]) (fun i hi => by simp [wXc, cs_set_be, va_up, hi, cs_ch, cs_es, cs_vo, cs_wa, cs_be, cs_bl])
theorem wX_set_bl {cy : Nat → ClassId} {a : Nat → Nat} {n : Nat} (S : CS) (j : Nat) (v : Int32) : (wX cy a n S).set (9 + j) (a (9 + j), .inr (1, [.long (cs_ch S j), .double (cs_es S j), .long (cs_vo S j), .long (cs_wa S j), .int (cs_be S j), .int v])) = wX cy a n (cs_set_bl S (va_up (cs_bl S) j v)) := wX_setc rfl (by show (_, _) = (_, _); simp [wXc, cs_set_bl, va_up, cs_ch, cs_es, cs_vo, cs_wa, cs_be, cs_bl]) (fun i hi => by simp [wXc, cs_set_bl, va_up, hi, cs_ch, cs_es, cs_vo, cs_wa, cs_be, cs_bl])
section RW2
variable {p : Program} {l : Launch} {e : Env} {R : Room} {s : State} {m : MethodId} {args : Array Value} {below : List Frame} {meth : Method} {c : Code} {H : Heap} {locs : List Loc} {cells slots : Nat} {Q : State → Prop}
variable {pc : Nat} {ls : Array Slot} {rest : List Value}
theorem W.eqi {x y : Int32} (h : x = y) (k : W p l e R s m args below meth c H locs cells slots Q (F0 m pc ls (.int y :: rest))) : W p l e R s m args below meth c H locs cells slots Q (F0 m pc ls (.int x :: rest)) := h ▸ k
theorem W.eqs {st1 st2 : List Value} (h : st1 = st2) (k : W p l e R s m args below meth c H locs cells slots Q (F0 m pc ls st2)) : W p l e R s m args below meth c H locs cells slots Q (F0 m pc ls st1) := h ▸ k
end RW2
theorem nz_b {x : Int32} (h : x = 0 ∨ x = 1) : narrow .boolean (.int x) = .int x ∧ fits .boolean (.int x) = true := by
  rcases h with rfl | rfl <;> exact ⟨rfl, rfl⟩
/-- an int as a place among n -/
def ix (n : Nat) (x : Int32) : Option Nat := if x < 0 then none else if x < nI n then some x.toNatClampNeg else none
theorem ix_neg {n : Nat} {x : Int32} (h : x < 0) : ix n x = none := if_pos h
theorem ix_big {n : Nat} {x : Int32} (h : ¬ x < nI n) : ix n x = none := by
  unfold ix
  by_cases h0 : x < 0
  · rw [if_pos h0]
  · rw [if_neg h0, if_neg h]
theorem ix_of {n : Nat} {x : Int32} (hn : n < 2147483648) (h0 : ¬ x < 0) (h : x < nI n) : ∃ j, j < n ∧ x = nI j := by
  obtain ⟨j, hj, rfl⟩ := nI_of h0
  exact ⟨j, (nI_ltI hj hn).mp h, rfl⟩
theorem ix_at {n j : Nat} (hn : n < 2147483648) (hj : j < n) : ix n (nI j) = some j := by
  have h1 : j < 2 ^ 31 := Nat.lt_trans hj hn
  unfold ix
  rw [if_neg (nI_pos h1), if_pos (nI_lt hj hn), nI_clamp h1]
theorem ix_some {n j : Nat} {x : Int32} (h : ix n x = some j) : j < n ∧ x = nI j := by
  unfold ix at h
  by_cases h0 : x < 0
  · rw [if_pos h0] at h; cases h
  · rw [if_neg h0] at h
    by_cases h1 : x < nI n
    · rw [if_pos h1] at h
      obtain ⟨k, hk, rfl⟩ := nI_of h0
      cases h
      rw [nI_clamp hk]
      refine ⟨?_, rfl⟩
      rw [Int32.lt_iff_toInt_lt, nI_toInt hk] at h1
      by_cases hn : n < 2 ^ 31
      · rw [nI_toInt hn] at h1; omega
      · omega
    · rw [if_neg h1] at h; cases h
/-- a long without its sign -/
def labs (x : Int64) : Int64 := if 0 < x then x else -x
