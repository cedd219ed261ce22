/-! the class's constructor -/
def cel0 : List Value := [.long 50000, .double 4602678819172646912, .long 3600, .long 250, .int 0, .int 0]
def wC (q : Nat) (fs : List Value) (q1 : Nat) (c1 : ClassId) (n : Nat) (a : Nat → Nat) (i : Nat) : va_W := (q, .inr (3, fs)) :: (q1, .inl (c1, n, .inr (.inr (.inr (.inr (fun j => if j < i then some (a j) else none)))))) :: (List.range i).map (fun j => (a j, .inr (1, cel0)))
theorem wC_step (q : Nat) (fs : List Value) (q1 : Nat) (c1 : ClassId) (n : Nat) (a : Nat → Nat) (i q5 : Nat) : (wC q fs q1 c1 n a i ++ [(q5, (Sum.inr (1, cel0) : va_E))] : va_W).set 1 (q1, (Sum.inl (c1, n, .inr (.inr (.inr (.inr (va_up (fun j => if j < i then some (a j) else none) i (some q5)))))) : va_E)) = wC q fs q1 c1 n (va_up a i q5) (i + 1) := by
  have e1 : va_up (fun j => if j < i then some (a j) else none) i (some q5) = fun j => if j < i + 1 then some (va_up a i q5 j) else none := by
    funext j
    unfold va_up
    by_cases h : j = i
    · subst h
      rw [if_pos rfl, if_pos (Nat.lt_succ_self j), if_pos rfl]
    · rw [if_neg h, if_neg h]
      by_cases h2 : j < i
      · show (if j < i then some (a j) else none) = _
        rw [if_pos h2, if_pos (Nat.lt_succ_of_lt h2)]
      · show (if j < i then some (a j) else none) = _
        rw [if_neg h2, if_neg (by omega)]
  have e2 : (List.range (i + 1)).map (fun j => (va_up a i q5 j, (Sum.inr (1, cel0) : va_E))) = (List.range i).map (fun j => (a j, .inr (1, cel0))) ++ [(q5, .inr (1, cel0))] := by
    rw [List.range_succ, List.map_append]
    congr 1
    · refine List.map_congr_left (fun j hj => ?_)
      have h := List.mem_range.mp hj
      show (va_up a i q5 j, _) = _
      unfold va_up
      rw [if_neg (by omega)]
    · show [(va_up a i q5 i, _)] = _
      unfold va_up
      rw [if_pos rfl]
  show (q, _) :: (q1, _) :: ((List.range i).map (fun j => (a j, (Sum.inr (1, cel0) : va_E))) ++ [(q5, .inr (1, cel0))]) = _
  rw [e1, ← e2]
  rfl
theorem wC_len (q : Nat) (fs : List Value) (q1 : Nat) (c1 : ClassId) (n : Nat) (a : Nat → Nat) (i : Nat) : (wC q fs q1 c1 n a i).length = i + 2 := by
  unfold wC
  simp
def S00 (lf : Nat → Int64) : CS := (0, 0, 0, 0, 0, lf, (fun _ => 0), (fun _ => 0), (fun _ => 0), (fun _ => 0), (fun _ => 0), (fun _ => 50000), (fun _ => 4602678819172646912), (fun _ => 3600), (fun _ => 250), (fun _ => 0), (fun _ => 0))
def obF (q1 q2 q3 q4 q5 : Nat) : List Value := [.ref q1, .ref q2, .ref q3, .ref q4, .ref q5, .int 0, .int 0, .int 0]
def aM (q q1 q2 q3 q4 q5 q6 q7 q8 : Nat) (ac : Nat → Nat) : Nat → Nat := fun k => match k with | 0 => q | 1 => q1 | 2 => q2 | 3 => q3 | 4 => q4 | 5 => q5 | 6 => q6 | 7 => q7 | 8 => q8 | j + 9 => ac j
def cM (c1 c2 c3 c4 c6 c7 c8 : ClassId) : Nat → ClassId := fun k => match k with | 1 => c1 | 2 => c2 | 3 => c3 | 4 => c4 | 6 => c6 | 7 => c7 | 8 => c8 | _ => c1
/-- what the constructor has laid, in the world's own order -/
theorem wX_of {D : va_G} {A : Nat → Prop} {H : Heap} {lf : Nat → Int64} {n q q1 q2 q3 q4 q5 q6 q7 q8 : Nat} {c1 c2 c3 c4 c6 c7 c8 : ClassId} {ac : Nat → Nat}
    (hP : va_P D vwCl (wC q (obF q1 q2 q3 q4 q5) q1 c1 n ac n ++ [(q2, .inl (c2, 6, .inr (.inl lf)))] ++ [(q3, .inl (c3, 3, .inl (fun _ => 0)))] ++ [(q4, .inl (c4, 1024, .inl (fun _ => 0)))] ++ [(q5, .inr (2, [.ref q6, .ref q7, .ref q8, .int 0, .int 0])), (q6, .inl (c6, 500, .inr (.inl (fun _ => 0)))), (q7, .inl (c7, 256, .inr (.inl (fun _ => 0)))), (q8, .inl (c8, 256, .inr (.inl (fun _ => 0))))]) H)
    (hD : va_D A (wC q (obF q1 q2 q3 q4 q5) q1 c1 n ac n ++ [(q2, .inl (c2, 6, .inr (.inl lf)))] ++ [(q3, .inl (c3, 3, .inl (fun _ => 0)))] ++ [(q4, .inl (c4, 1024, .inl (fun _ => 0)))] ++ [(q5, .inr (2, [.ref q6, .ref q7, .ref q8, .int 0, .int 0])), (q6, .inl (c6, 500, .inr (.inl (fun _ => 0)))), (q7, .inl (c7, 256, .inr (.inl (fun _ => 0)))), (q8, .inl (c8, 256, .inr (.inl (fun _ => 0))))])) :
    va_P D vwCl (wX (cM c1 c2 c3 c4 c6 c7 c8) (aM q q1 q2 q3 q4 q5 q6 q7 q8 ac) n (S00 lf)) H ∧ va_D A (wX (cM c1 c2 c3 c4 c6 c7 c8) (aM q q1 q2 q3 q4 q5 q6 q7 q8 ac) n (S00 lf)) := by
  have hP1 : va_P D vwCl (([(q, .inr (3, obF q1 q2 q3 q4 q5)), (q1, .inl (c1, n, .inr (.inr (.inr (.inr (fun j => if j < n then some (ac j) else none))))))] ++ (List.range n).map (fun j => (ac j, .inr (1, cel0)))) ++ [(q2, .inl (c2, 6, .inr (.inl lf))), (q3, .inl (c3, 3, .inl (fun _ => 0))), (q4, .inl (c4, 1024, .inl (fun _ => 0))), (q5, .inr (2, [.ref q6, .ref q7, .ref q8, .int 0, .int 0])), (q6, .inl (c6, 500, .inr (.inl (fun _ => 0)))), (q7, .inl (c7, 256, .inr (.inl (fun _ => 0)))), (q8, .inl (c8, 256, .inr (.inl (fun _ => 0))))]) H := by
    rw [List.append_assoc, List.append_assoc, List.append_assoc] at hP
    exact hP
  have hD1 : va_D A (([(q, .inr (3, obF q1 q2 q3 q4 q5)), (q1, .inl (c1, n, .inr (.inr (.inr (.inr (fun j => if j < n then some (ac j) else none))))))] ++ (List.range n).map (fun j => (ac j, .inr (1, cel0)))) ++ [(q2, .inl (c2, 6, .inr (.inl lf))), (q3, .inl (c3, 3, .inl (fun _ => 0))), (q4, .inl (c4, 1024, .inl (fun _ => 0))), (q5, .inr (2, [.ref q6, .ref q7, .ref q8, .int 0, .int 0])), (q6, .inl (c6, 500, .inr (.inl (fun _ => 0)))), (q7, .inl (c7, 256, .inr (.inl (fun _ => 0)))), (q8, .inl (c8, 256, .inr (.inl (fun _ => 0))))]) := by
    rw [List.append_assoc, List.append_assoc, List.append_assoc] at hD
    exact hD
  have hP2 := hP1.swap
  have hD2 := hD1.swap
  have hac : ∀ j, aM q q1 q2 q3 q4 q5 q6 q7 q8 ac (9 + j) = ac j := fun j => by rw [Nat.add_comm]; rfl
  have e2 : (List.range n).map (fun j => (ac j, (Sum.inr (1, cel0) : va_E))) = (List.range n).map (wXc (aM q q1 q2 q3 q4 q5 q6 q7 q8 ac) (S00 lf)) := List.map_congr_left (fun j _ => by
    unfold wXc
    rw [hac]
    rfl)
  have e1 : arrV c1 n (fun j => va_rf (if j < n then some (ac j) else none)) = arrV c1 n (fun j => va_rf (some (aM q q1 q2 q3 q4 q5 q6 q7 q8 ac (9 + j)))) := arrV_congr c1 (fun j hj => by rw [if_pos hj, hac])
  rw [e2] at hP2 hD2
  refine ⟨fun k y hy => ?_, va_D.addr ?_ hD2⟩
  · match k, hy with
    | 0, hy => exact hP2 0 y hy
    | 1, hy =>
      cases hy
      show H[q1]? = some (vp_cell c1 _)
      rw [vp_cell_q, ← e1, ← vp_cell_q]
      exact hP2 1 _ rfl
    | k + 2, hy => exact hP2 (k + 2) y hy
  · rfl
