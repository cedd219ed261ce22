/-! doubles that are small: none of them is a NaN -/
def okD (K : Nat) (x : UInt64) : Prop := x.toNat % 2 ^ 63 < K * 2 ^ 52
theorem okD_n64 {K : Nat} {x : UInt64} (hK : K ≤ 2047) (h : okD K x) : vf_n64 x := by
  unfold okD at h
  show x &&& 0x7fffffffffffffff ≤ 0x7ff0000000000000
  rw [UInt64.le_iff_toNat_le, UInt64.toNat_and]
  have e : (0x7fffffffffffffff : UInt64).toNat = 2 ^ 63 - 1 := by decide
  have e2 : (0x7ff0000000000000 : UInt64).toNat = 2047 * 2 ^ 52 := by decide
  rw [e, e2, Nat.and_two_pow_sub_one_eq_mod]
  exact Nat.le_of_lt (Nat.lt_of_lt_of_le h (Nat.mul_le_mul_right _ hK))
theorem okD_mono {K L : Nat} {x : UInt64} (h : okD K x) (hKL : K ≤ L) : okD L x := by
  exact Nat.lt_of_lt_of_le h (Nat.mul_le_mul_right _ hKL)
theorem okD_ne {K : Nat} {x : UInt64} (hK : K ≤ 2047) (h : okD K x) : FP.Core.val64 x ≠ .nan := by
  rw [FP.Core.ne_nan]
  unfold okD at h
  omega
theorem okD_l2d (x : Int64) : okD 1088 (FP.l2d x) := FP.Core.l2d_mag x
theorem okD_quo {x y : Int64} (h : y ≠ 0) : okD 1089 (FP.ddiv (FP.l2d x) (FP.l2d y)) := by
  have h1 : y.toInt ≠ 0 := fun q => h (by rw [← Int64.toInt_inj]; exact q)
  have h2 := FP.Core.l2d_big h1
  have h3 := FP.Core.ddiv_mag (a := FP.l2d x) (b := FP.l2d y) (K := 1088) (L := 1023) (FP.Core.l2d_mag x) h2.1 h2.2 (by omega) (by omega)
  unfold okD
  exact Nat.lt_of_lt_of_le h3 (by omega)
theorem okD_quo2 (x : Int64) : okD 1079 (FP.ddiv (FP.l2d x) 4652992471259676672) := by
  have h3 := FP.Core.ddiv_mag (a := FP.l2d x) (b := 4652992471259676672) (K := 1088) (L := 1033) (FP.Core.l2d_mag x) (by decide) (by decide) (by omega) (by omega)
  unfold okD
  exact Nat.lt_of_lt_of_le h3 (by omega)
theorem okD_add {K : Nat} {x y : UInt64} (hK : K ≤ 2047) (hx : okD K x) (hy : okD K y) : okD (K + 2) (FP.dadd x y) := FP.Core.dadd_mag hx hy hK
theorem okD_sub {K : Nat} {x y : UInt64} (hK : K ≤ 2047) (hx : okD K x) (hy : okD K y) : okD (K + 2) (FP.dsub x y) := FP.Core.dsub_mag hx hy hK
theorem okD_mul {x : UInt64} (hx : okD 1026 x) : okD 1024 (FP.dmul 4589168020290535424 x) := by
  have h := FP.Core.dmul_mag (a := 4589168020290535424) (b := x) (Ka := 1020) (Kb := 1026) (by decide) hx (by omega) (by omega)
  unfold okD
  exact Nat.lt_of_lt_of_le h (by omega)
def sWin (x : UInt64) : UInt64 := if Op.cmpValue (FP.dcmp x FP.dconst0) .g < 0 then FP.dconst0 else if 0 < Op.cmpValue (FP.dcmp x FP.dconst1) .l then FP.dconst1 else x
theorem okD_win {x : UInt64} (h : okD 2047 x) : okD 1024 (sWin x) := by
  have hn := okD_ne (Nat.le_refl _) h
  unfold sWin
  by_cases h1 : Op.cmpValue (FP.dcmp x FP.dconst0) .g < 0
  · rw [if_pos h1]; unfold okD; decide
  · rw [if_neg h1]
    by_cases h2 : 0 < Op.cmpValue (FP.dcmp x FP.dconst1) .l
    · rw [if_pos h2]; unfold okD; decide
    · rw [if_neg h2]
      have e0 : FP.Core.val64 FP.dconst0 ≠ .nan := by decide +kernel
      have e1 : FP.Core.val64 FP.dconst1 ≠ .nan := by decide +kernel
      have k0 : ¬ FP.Core.dkey x < FP.Core.dkey FP.dconst0 := fun q => h1 (by
        have := (FP.Core.dcmp_lt_key hn e0).mpr q
        rw [show FP.dcmp x FP.dconst0 = some .lt from this]; decide)
      have k1 : ¬ FP.Core.dkey FP.dconst1 < FP.Core.dkey x := fun q => h2 (by
        have := (FP.Core.dcmp_gt_key hn e1).mpr q
        rw [show FP.dcmp x FP.dconst1 = some .gt from this]; decide)
      have d0 : FP.Core.dkey FP.dconst0 = 0 := by decide +kernel
      have d1 : FP.Core.dkey FP.dconst1 = 1023 * 2 ^ 52 := by decide +kernel
      rw [d0] at k0
      rw [d1] at k1
      have hx := x.toNat_lt
      unfold okD
      unfold FP.Core.dkey at k0 k1
      by_cases hs : 2 ^ 63 ≤ x.toNat
      · rw [if_pos hs] at k0; omega
      · rw [if_neg hs] at k1; omega
section RW3
variable {p : Program} {l : Launch} {e : Env} {R : Room} {s : State} {m : MethodId} {args : Array Value} {below : List Frame} {meth : Method} {c : Code} {H : Heap} {locs : List Loc} {cells slots : Nat} {Q : State → Prop}
theorem W.loop {α : Type} {g : α → JFrame} (P : Nat → α → Prop) (b0 : ∀ v, P 0 v → W p l e R s m args below meth c H locs cells slots Q (g v)) (st : ∀ k, (∀ v, P k v → W p l e R s m args below meth c H locs cells slots Q (g v)) → ∀ v, P (k + 1) v → W p l e R s m args below meth c H locs cells slots Q (g v)) (k : Nat) (v : α) (h : P k v) : W p l e R s m args below meth c H locs cells slots Q (g v) := by
  induction k generalizing v with
  | zero => exact b0 v h
  | succ k ih => exact st k ih v h
theorem W.loopH {α : Type} {g : α → JFrame} (P : Nat → α → Heap → List Loc → Prop) (b0 : ∀ v H' L', P 0 v H' L' → W p l e R s m args below meth c H' L' cells slots Q (g v)) (st : ∀ k, (∀ v H' L', P k v H' L' → W p l e R s m args below meth c H' L' cells slots Q (g v)) → ∀ v H' L', P (k + 1) v H' L' → W p l e R s m args below meth c H' L' cells slots Q (g v)) (k : Nat) (v : α) (h : P k v H locs) : W p l e R s m args below meth c H locs cells slots Q (g v) := by
  induction k generalizing v H locs with
  | zero => exact b0 v H locs h
  | succ k ih => exact st k (fun v H' L' hv => ih v hv) v H locs h
end RW3
