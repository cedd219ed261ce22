/-! the throwing methods of the class -/
theorem hat_warm {L : List Cond} (hL : L.all (fun w => w.onTables && (w.keeps || w.faceAtom)) = true) {s U : State} {a a' : Array Value} (hW : s.WarmedH U.vm) (h : ∀ w ∈ L, w.before a s = true) : ∀ w ∈ L, w.before a' U = true := by
  intro w hw
  have h1 := List.all_eq_true.mp hL w hw
  simp only [Bool.and_eq_true, Bool.or_eq_true] at h1
  have h2 := h w hw
  rcases h1.2 with k | k
  · exact Cond.onTables_warm (T := U) hW h1.1 k h2
  · have h3 := Cond.faceAtom_setVm (vm' := U.vm) hW.alike w k h2
    rw [Cond.onTables_vm (A' := a') (U' := U) U.vm w h1.1] at h3
    exact h3
def xA : List Cond := vx_atS RX2 71 RJx00060 ["java/lang/IndexOutOfBoundsException", "java/lang/RuntimeException", "java/lang/Exception"]
def xD : List Cond := vx_atS RX2 105 "java/lang/ArithmeticException" ["java/lang/RuntimeException", "java/lang/Exception"]
theorem xA_ok : xA.all (fun w => w.onTables && (w.keeps || w.faceAtom)) = true := by decide +kernel
theorem xD_ok : xD.all (fun w => w.onTables && (w.keeps || w.faceAtom)) = true := by decide +kernel
abbrev pXx (D : va_G) (cy : Nat → ClassId) (a : Nat → Nat) (n : Nat) (S : CS) (sz : Nat) (L : List Cond) (is : Nat) (tx : String) (sa : Nat) (U : State) : Prop := pX D cy a n S sz U ∧ (∀ w ∈ L, w.before #[] U = true) ∧ vk_R RX2 is tx sa U ∧ vx_Zq Bundle.tN "UNASSIGNED_STACK" Bundle.steD (va_A (wX cy a n S) sz) U U.heap ∧ vx_Zq Bundle.tN "SUPPRESSED_SENTINEL" Bundle.listD (va_A (wX cy a n S) sz) U U.heap
theorem pXx_blind {av : List Value} {D : va_G} {cy : Nat → ClassId} {a : Nat → Nat} {n : Nat} {S : CS} {sz : Nat} {L : List Cond} (hL : L.all (fun w => w.onTables && (w.keeps || w.faceAtom)) = true) {is : Nat} {tx : String} {sa : Nat} : FrameBlind (va_Pc av (pXx D cy a n S sz L is tx sa)) := fun v U g mk q => ⟨q.1, (pX_blind v U g mk ⟨q.1, q.2.1⟩).2, hat_warm hL (s := U) (U := U.calling g mk v) (State.WarmedH.refl U) q.2.2.1, vk_R.same (u := U) (U := U.calling g mk v) rfl q.2.2.2.1, vx_Zq.moved (u := U) (U := U.calling g mk v) (Vm.Alike.refl U.vm) q.2.2.2.2.1, vx_Zq.moved (u := U) (U := U.calling g mk v) (Vm.Alike.refl U.vm) q.2.2.2.2.2⟩
theorem sTake_k (S : CS) (j : Nat) (cur vo wa cap : Int64) : cs_fc (sTake S j cur vo wa cap) = cs_fc S ∧ cs_pc (sTake S j cur vo wa cap) = cs_pc S ∧ cs_cyc (sTake S j cur vo wa cap) = cs_cyc S ∧ cs_pts (sTake S j cur vo wa cap) = cs_pts S ∧ cs_lim (sTake S j cur vo wa cap) = cs_lim S ∧ cs_be (sTake S j cur vo wa cap) = cs_be S ∧ cs_bl (sTake S j cur vo wa cap) = cs_bl S ∧ cs_st (sTake S j cur vo wa cap) = cs_st S ∧ cs_stk (sTake S j cur vo wa cap) = cs_stk S ∧ cs_pre (sTake S j cur vo wa cap) = cs_pre S := by
  unfold sTake
  simp only [cg_fc_es, cg_fc_ch, cg_fc_wa, cg_fc_vo, cg_pc_es, cg_pc_ch, cg_pc_wa, cg_pc_vo, cg_cyc_es, cg_cyc_ch, cg_cyc_wa, cg_cyc_vo, cg_pts_es, cg_pts_ch, cg_pts_wa, cg_pts_vo, cg_lim_es, cg_lim_ch, cg_lim_wa, cg_lim_vo, cg_be_es, cg_be_ch, cg_be_wa, cg_be_vo, cg_bl_es, cg_bl_ch, cg_bl_wa, cg_bl_vo, cg_st_es, cg_st_ch, cg_st_wa, cg_st_vo, cg_stk_es, cg_stk_ch, cg_stk_wa, cg_stk_vo, cg_pre_es, cg_pre_ch, cg_pre_wa, cg_pre_vo, and_self]
theorem sKeep_k (S : CS) (r w : Int64) : cs_pc (sKeep S r w) = cs_pc S ∧ cs_pts (sKeep S r w) = cs_pts S ∧ cs_fc (sKeep S r w) = cs_fc S ∧ cs_lim (sKeep S r w) = cs_lim S ∧ cs_be (sKeep S r w) = cs_be S ∧ cs_bl (sKeep S r w) = cs_bl S ∧ cs_st (sKeep S r w) = cs_st S ∧ cs_stk (sKeep S r w) = cs_stk S ∧ cs_pre (sKeep S r w) = cs_pre S ∧ cs_ch (sKeep S r w) = cs_ch S ∧ cs_es (sKeep S r w) = cs_es S ∧ cs_vo (sKeep S r w) = cs_vo S ∧ cs_wa (sKeep S r w) = cs_wa S := by
  unfold sKeep
  simp only [cg_pc_cyc, cg_pc_low, cg_pc_rng, cg_pts_cyc, cg_pts_low, cg_pts_rng, cg_fc_cyc, cg_fc_low, cg_fc_rng, cg_lim_cyc, cg_lim_low, cg_lim_rng, cg_be_cyc, cg_be_low, cg_be_rng, cg_bl_cyc, cg_bl_low, cg_bl_rng, cg_st_cyc, cg_st_low, cg_st_rng, cg_stk_cyc, cg_stk_low, cg_stk_rng, cg_pre_cyc, cg_pre_low, cg_pre_rng, cg_ch_cyc, cg_ch_low, cg_ch_rng, cg_es_cyc, cg_es_low, cg_es_rng, cg_vo_cyc, cg_vo_low, cg_vo_rng, cg_wa_cyc, cg_wa_low, cg_wa_rng, and_self]
theorem sTco1_k (S : CS) : cs_fc (sTco1 S) = cs_fc S ∧ cs_lim (sTco1 S) = cs_lim S ∧ cs_be (sTco1 S) = cs_be S ∧ cs_bl (sTco1 S) = cs_bl S ∧ cs_st (sTco1 S) = cs_st S ∧ cs_stk (sTco1 S) = cs_stk S ∧ cs_pre (sTco1 S) = cs_pre S ∧ cs_ch (sTco1 S) = cs_ch S ∧ cs_es (sTco1 S) = cs_es S ∧ cs_vo (sTco1 S) = cs_vo S ∧ cs_wa (sTco1 S) = cs_wa S := by
  unfold sTco1 sKeep
  simp only [cg_fc_pc, cg_fc_pts, cg_fc_cyc, cg_fc_low, cg_fc_rng, cg_lim_pc, cg_lim_pts, cg_lim_cyc, cg_lim_low, cg_lim_rng, cg_be_pc, cg_be_pts, cg_be_cyc, cg_be_low, cg_be_rng, cg_bl_pc, cg_bl_pts, cg_bl_cyc, cg_bl_low, cg_bl_rng, cg_st_pc, cg_st_pts, cg_st_cyc, cg_st_low, cg_st_rng, cg_stk_pc, cg_stk_pts, cg_stk_cyc, cg_stk_low, cg_stk_rng, cg_pre_pc, cg_pre_pts, cg_pre_cyc, cg_pre_low, cg_pre_rng, cg_ch_pc, cg_ch_pts, cg_ch_cyc, cg_ch_low, cg_ch_rng, cg_es_pc, cg_es_pts, cg_es_cyc, cg_es_low, cg_es_rng, cg_vo_pc, cg_vo_pts, cg_vo_cyc, cg_vo_low, cg_vo_rng, cg_wa_pc, cg_wa_pts, cg_wa_cyc, cg_wa_low, cg_wa_rng, and_self]
theorem sTco_k : ∀ (k : Nat) (S : CS), cs_fc (sTco k S) = cs_fc S ∧ cs_lim (sTco k S) = cs_lim S ∧ cs_be (sTco k S) = cs_be S ∧ cs_bl (sTco k S) = cs_bl S ∧ cs_st (sTco k S) = cs_st S ∧ cs_stk (sTco k S) = cs_stk S ∧ cs_pre (sTco k S) = cs_pre S ∧ cs_ch (sTco k S) = cs_ch S ∧ cs_es (sTco k S) = cs_es S ∧ cs_vo (sTco k S) = cs_vo S ∧ cs_wa (sTco k S) = cs_wa S
  | 0, S => ⟨rfl, rfl, rfl, rfl, rfl, rfl, rfl, rfl, rfl, rfl, rfl⟩
  | k + 1, S => by
    unfold sTco
    by_cases h1 : nI (cs_pc S) < 4
    · rw [if_pos h1]; exact ⟨rfl, rfl, rfl, rfl, rfl, rfl, rfl, rfl, rfl, rfl, rfl⟩
    · rw [if_neg h1]
      by_cases h2 : labs (cs_pts S (cs_pc S - 4) - cs_pts S (cs_pc S - 3)) < labs (cs_pts S (cs_pc S - 3) - cs_pts S (cs_pc S - 2))
      · rw [if_pos h2]; exact ⟨rfl, rfl, rfl, rfl, rfl, rfl, rfl, rfl, rfl, rfl, rfl⟩
      · rw [if_neg h2]
        by_cases h3 : labs (cs_pts S (cs_pc S - 2) - cs_pts S (cs_pc S - 1)) < labs (cs_pts S (cs_pc S - 3) - cs_pts S (cs_pc S - 2))
        · rw [if_pos h3]; exact ⟨rfl, rfl, rfl, rfl, rfl, rfl, rfl, rfl, rfl, rfl, rfl⟩
        · rw [if_neg h3]
          have a := sTco_k k (sTco1 S)
          have b := sTco1_k S
          exact ⟨a.1.trans b.1, a.2.1.trans b.2.1, a.2.2.1.trans b.2.2.1, a.2.2.2.1.trans b.2.2.2.1, a.2.2.2.2.1.trans b.2.2.2.2.1, a.2.2.2.2.2.1.trans b.2.2.2.2.2.1, a.2.2.2.2.2.2.1.trans b.2.2.2.2.2.2.1, a.2.2.2.2.2.2.2.1.trans b.2.2.2.2.2.2.2.1, a.2.2.2.2.2.2.2.2.1.trans b.2.2.2.2.2.2.2.2.1, a.2.2.2.2.2.2.2.2.2.1.trans b.2.2.2.2.2.2.2.2.2.1, a.2.2.2.2.2.2.2.2.2.2.trans b.2.2.2.2.2.2.2.2.2.2⟩
theorem sPut_k (S : CS) (v : Int64) : cs_fc (sPut S v) = cs_fc S ∧ cs_lim (sPut S v) = cs_lim S ∧ cs_be (sPut S v) = cs_be S ∧ cs_bl (sPut S v) = cs_bl S ∧ cs_st (sPut S v) = cs_st S ∧ cs_stk (sPut S v) = cs_stk S ∧ cs_pre (sPut S v) = cs_pre S ∧ cs_ch (sPut S v) = cs_ch S ∧ cs_es (sPut S v) = cs_es S ∧ cs_vo (sPut S v) = cs_vo S ∧ cs_wa (sPut S v) = cs_wa S := by
  unfold sPut
  by_cases h : sGo (cs_pts S) (cs_pc S) v = 0
  · rw [if_pos h]
    by_cases h2 : nI (cs_pc S) < nI 500
    · rw [if_pos h2]; exact ⟨rfl, rfl, rfl, rfl, rfl, rfl, rfl, rfl, rfl, rfl, rfl⟩
    · rw [if_neg h2]; exact ⟨rfl, rfl, rfl, rfl, rfl, rfl, rfl, rfl, rfl, rfl, rfl⟩
  · rw [if_neg h]; exact ⟨rfl, rfl, rfl, rfl, rfl, rfl, rfl, rfl, rfl, rfl, rfl⟩
theorem sFol_k (S : CS) (v : Int64) : cs_fc (sFol S v) = cs_fc S ∧ cs_lim (sFol S v) = cs_lim S ∧ cs_be (sFol S v) = cs_be S ∧ cs_bl (sFol S v) = cs_bl S ∧ cs_st (sFol S v) = cs_st S ∧ cs_stk (sFol S v) = cs_stk S ∧ cs_pre (sFol S v) = cs_pre S ∧ cs_ch (sFol S v) = cs_ch S ∧ cs_es (sFol S v) = cs_es S ∧ cs_vo (sFol S v) = cs_vo S ∧ cs_wa (sFol S v) = cs_wa S := by
  unfold sFol
  have a := sTco_k 250 (sPut S v)
  have b := sPut_k S v
  exact ⟨a.1.trans b.1, a.2.1.trans b.2.1, a.2.2.1.trans b.2.2.1, a.2.2.2.1.trans b.2.2.2.1, a.2.2.2.2.1.trans b.2.2.2.2.1, a.2.2.2.2.2.1.trans b.2.2.2.2.2.1, a.2.2.2.2.2.2.1.trans b.2.2.2.2.2.2.1, a.2.2.2.2.2.2.2.1.trans b.2.2.2.2.2.2.2.1, a.2.2.2.2.2.2.2.2.1.trans b.2.2.2.2.2.2.2.2.1, a.2.2.2.2.2.2.2.2.2.1.trans b.2.2.2.2.2.2.2.2.2.1, a.2.2.2.2.2.2.2.2.2.2.trans b.2.2.2.2.2.2.2.2.2.2⟩
def sOuts (cur vo wa : Int64) : Int32 := if sOut cur (-100000) 100000 = 0 then (if sOut vo 0 10000 = 0 then (if sOut wa (-1000) 2000 = 0 then 0 else 1) else 1) else 1
def sS1 (S : CS) (j : Nat) (cur vo wa : Int64) : CS := cs_set_pre (sTake S j cur vo wa (cs_lim S 5)) (cs_pre (sTake S j cur vo wa (cs_lim S 5)) + 1)
def sFo (S : CS) (j : Nat) : CS := if nI j = 0 then sFol S (cs_ch S j) else S
def sBe (S : CS) (j : Nat) (cur : Int64) : CS := cs_set_be S (va_up (cs_be S) j (if sBey S j cur = 0 then 0 else cs_be S j + 1))
def sS2 (S : CS) (j : Nat) (cur vo wa : Int64) : CS := sFo (sS1 S j cur vo wa) j
def sS3 (S : CS) (j : Nat) (cur vo wa : Int64) : CS := sBe (sS2 S j cur vo wa) j cur
def rSx (S : CS) (n : Nat) (p : Int32) (cur vo wa : Int64) : Int32 := if sOuts cur vo wa = 0 then (ix n p).elim 0 (fun j => if rNfs (sS3 S j cur vo wa) j = 0 then (if sBey (sS2 S j cur vo wa) j cur = 0 then 0 else 1) else 2) else (-2)
def gSx (S : CS) (n : Nat) (p : Int32) (cur vo wa : Int64) : CS := if sOuts cur vo wa = 0 then (ix n p).elim S (fun j => gNfs (sS3 S j cur vo wa) j) else S
def thSx (n : Nat) (p : Int32) (cur vo wa : Int64) : Prop := sOuts cur vo wa = 0 ∧ ix n p = none
theorem sFo_k (S : CS) (j : Nat) : cs_fc (sFo S j) = cs_fc S ∧ cs_lim (sFo S j) = cs_lim S ∧ cs_be (sFo S j) = cs_be S ∧ cs_bl (sFo S j) = cs_bl S ∧ cs_st (sFo S j) = cs_st S ∧ cs_stk (sFo S j) = cs_stk S ∧ cs_pre (sFo S j) = cs_pre S ∧ cs_ch (sFo S j) = cs_ch S ∧ cs_es (sFo S j) = cs_es S ∧ cs_vo (sFo S j) = cs_vo S ∧ cs_wa (sFo S j) = cs_wa S := by
  unfold sFo
  by_cases h : nI j = 0
  · rw [if_pos h]; exact sFol_k S _
  · rw [if_neg h]; exact ⟨rfl, rfl, rfl, rfl, rfl, rfl, rfl, rfl, rfl, rfl, rfl⟩
def sGc (S : CS) (j : Nat) : Int64 := labs (gcdF 1000 (cs_ch S j) (cs_lim S 5))
def rWx (S : CS) (n : Nat) (p w : Int32) : Int64 := (ix n p).elim 0 (fun j => if sGc S j = 0 then 0 else if w = 0 then cs_ch S j / sGc S j else cs_lim S 5 / sGc S j)
def thWx (S : CS) (n : Nat) (p : Int32) : Prop := (ix n p).isSome = true ∧ cs_lim S 5 = 0
