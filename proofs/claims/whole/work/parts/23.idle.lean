/-! THOSE THAT GIVE NOTHING -/
def sgB (mi : Nat → Nat → Int32) (ml : Nat → Nat → Int64) : Nat → Bool
  | 0 => false
  | i + 1 => sgB mi ml i || (cF mi i && decide (0 < ml 38 i))
def frN (mi : Nat → Nat → Int32) : Nat → Option Nat
  | 0 => none
  | i + 1 => if cF mi i = true then (match frN mi i with
    | none => some i
    | some f => if mi 35 f ≤ mi 35 i then some f else some i) else frN mi i
theorem frN_lt {mi : Nat → Nat → Int32} : ∀ {i f : Nat}, frN mi i = some f → f < i := by
  intro i
  induction i with
  | zero => intro f h; cases h
  | succ i ih =>
    intro f h
    rw [frN] at h
    split at h
    · split at h
      · cases h; omega
      · rename_i g hg
        have := ih hg
        split at h <;> cases h <;> omega
    · have := ih h; omega
def loi (mi : Nat → Nat → Int32) (ml : Nat → Nat → Int64) (m i : Nat) : Nat → Nat → Int32 := fun a b => if a = 37 ∧ b < i ∧ ml 38 b = 0 ∧ (sgB mi ml m = true ∨ ¬ frN mi m = some b) then 0 else mi a b
theorem lt_nN : ((-1 : Int32) < 0) = True := by decide +kernel
theorem lt_sN {p : Nat} (h : p < 5) : (nI p < (0 : Int32)) = False := eq_false (nI_pos (by omega))
theorem oI_eq {o : Option Nat} {i : Nat} (hi : i < 5) (ho : ∀ f, o = some f → f < 5) : (nI i = oI o) = (o = some i) := by
  cases o with
  | none =>
    refine propext ⟨fun h => ?_, fun h => by cases h⟩
    exfalso
    have := congrArg Int32.toInt h
    rw [nI_toInt (by omega)] at this
    have h1 : (oI none).toInt = -1 := rfl
    omega
  | some f =>
    have hf := ho f rfl
    rw [oI_s]
    refine propext ⟨fun h => ?_, fun h => by cases h; rfl⟩
    have := (nI_eq (by omega) (by omega)).mp h
    rw [this]
section Cl6
variable {E : aE} {mi : Nat → Nat → Int32} {ml : Nat → Nat → Int64}
theorem ct_Circuit_leaveOutIdle {m : Nat} (hm : mi 34 5 = nI m) (hm5 : m ≤ 5) : ev E 52 (am_B 52 0) [.ref 34, am_dm, am_dm, am_dm] [] (HH mi ml) = some (none, HH (loi mi ml m m) ml) := by
  simp only [b_52_e, b_52_38, b_52_42, b_52_43, b_52_63, b_52_65, b_52_71, b_52_101, b_52_108, b_52_114, k_m1, e_istore_1, e_kpi, e_kpr, e_kpl, e_kpd, k_0, e_istore_2, e_istore_3, e_jsr, e_iload_3, e_aloadr_0, g_5_34, e_icmp_ge, g_2_34, il_37, il_40, e_if_eq, e_iload_2, e_if_ne, g_3_34, il_38, il_39, kl_0, e_lcmp, e_if_le, k_1, e_goto, e_iload_1, e_if_lt, g_0_34, il_2, il_5, il_33, il_35, il_36, il_41, il_42, il_tp, il_ta, il_sc, il_po, ik_2_0, ik_2_1, ik_2_2, ik_2_3, ik_2_4, e_iinc_3, e_icmp_eq, is_37, is_40, e_ret, eq_self]
  have hl := loop_up (fun i => ev E 52 (am_B 52 (Int.toNat 6)) [.ref 34, .int (oI (frN mi i)), .int (if sgB mi ml i = true then 1 else 0), .int (nI i)] [] (HH mi ml)) 0 m (fun i _ hi => by
    refine hd b_52_6 ?_
    have hi5 : i < 5 := by omega
    by_cases h1 : mi 37 i = 0
    · have hc : cF mi i = false := by simp [cF, h1]
      have e1 : frN mi (i + 1) = frN mi i := by rw [frN, if_neg (by simp [hc])]
      have e2 : sgB mi ml (i + 1) = sgB mi ml i := by rw [sgB]; simp [hc]
      rw [e1, e2]
      simp only [b_52_e, b_52_38, b_52_42, b_52_43, b_52_63, b_52_65, b_52_71, b_52_101, b_52_108, b_52_114, k_m1, e_istore_1, e_kpi, e_kpr, e_kpl, e_kpd, k_0, e_istore_2, e_istore_3, e_jsr, e_iload_3, e_aloadr_0, g_5_34, e_icmp_ge, g_2_34, il_37, il_40, e_if_eq, e_iload_2, e_if_ne, g_3_34, il_38, il_39, kl_0, e_lcmp, e_if_le, k_1, e_goto, e_iload_1, e_if_lt, g_0_34, il_2, il_5, il_33, il_35, il_36, il_41, il_42, il_tp, il_ta, il_sc, il_po, ik_2_0, ik_2_1, ik_2_2, ik_2_3, ik_2_4, e_iinc_3, e_icmp_eq, is_37, is_40, e_ret, eq_self, hm, lec (show m < 1000 by omega) hi, hi5, h1, not_true_eq_false, not_false_eq_true, if_true, if_false, true_or, or_true, false_or, or_false, true_and, and_true, false_and, and_false, and_self, or_self, reduceIte, Bool.false_eq_true, i10, i01, e_inc1]
    · have hc : cF mi i = true := by simp [cF, h1]
      have e2 : (if sgB mi ml i = true then (1 : Int32) else if ml 38 i ≤ 0 then 0 else 1) = (if sgB mi ml (i + 1) = true then (1 : Int32) else 0) := by
        rw [sgB]
        by_cases hs : sgB mi ml i = true
        · simp [hs]
        · by_cases h2 : ml 38 i ≤ 0
          · simp [hs, hc, h2, Int64.not_lt.mpr h2]
          · simp [hs, hc, h2, Int64.not_le.mp h2]
      have e1 : frN mi (i + 1) = (match frN mi i with
        | none => some i
        | some f => if mi 35 f ≤ mi 35 i then some f else some i) := by rw [frN, if_pos hc]
      rw [← e2, e1]
      cases hf : frN mi i with
      | none =>
        by_cases hs : sgB mi ml i = true
        · simp only [b_52_e, b_52_38, b_52_42, b_52_43, b_52_63, b_52_65, b_52_71, b_52_101, b_52_108, b_52_114, k_m1, e_istore_1, e_kpi, e_kpr, e_kpl, e_kpd, k_0, e_istore_2, e_istore_3, e_jsr, e_iload_3, e_aloadr_0, g_5_34, e_icmp_ge, g_2_34, il_37, il_40, e_if_eq, e_iload_2, e_if_ne, g_3_34, il_38, il_39, kl_0, e_lcmp, e_if_le, k_1, e_goto, e_iload_1, e_if_lt, g_0_34, il_2, il_5, il_33, il_35, il_36, il_41, il_42, il_tp, il_ta, il_sc, il_po, ik_2_0, ik_2_1, ik_2_2, ik_2_3, ik_2_4, e_iinc_3, e_icmp_eq, is_37, is_40, e_ret, eq_self, hm, lec (show m < 1000 by omega) hi, hi5, h1, hs, bz1, not_true_eq_false, not_false_eq_true, if_true, if_false, true_or, or_true, false_or, or_false, true_and, and_true, false_and, and_false, and_self, or_self, reduceIte, Bool.false_eq_true, i10, i01, e_inc1, oI_n, oI_s, lt_nN]
        · by_cases h2 : ml 38 i ≤ 0
          · simp only [b_52_e, b_52_38, b_52_42, b_52_43, b_52_63, b_52_65, b_52_71, b_52_101, b_52_108, b_52_114, k_m1, e_istore_1, e_kpi, e_kpr, e_kpl, e_kpd, k_0, e_istore_2, e_istore_3, e_jsr, e_iload_3, e_aloadr_0, g_5_34, e_icmp_ge, g_2_34, il_37, il_40, e_if_eq, e_iload_2, e_if_ne, g_3_34, il_38, il_39, kl_0, e_lcmp, e_if_le, k_1, e_goto, e_iload_1, e_if_lt, g_0_34, il_2, il_5, il_33, il_35, il_36, il_41, il_42, il_tp, il_ta, il_sc, il_po, ik_2_0, ik_2_1, ik_2_2, ik_2_3, ik_2_4, e_iinc_3, e_icmp_eq, is_37, is_40, e_ret, eq_self, hm, lec (show m < 1000 by omega) hi, hi5, h1, hs, bz1, not_true_eq_false, not_false_eq_true, if_true, if_false, true_or, or_true, false_or, or_false, true_and, and_true, false_and, and_false, and_self, or_self, reduceIte, Bool.false_eq_true, i10, i01, e_inc1, oI_n, oI_s, lt_nN, lg_cmp_le, h2]
          · simp only [b_52_e, b_52_38, b_52_42, b_52_43, b_52_63, b_52_65, b_52_71, b_52_101, b_52_108, b_52_114, k_m1, e_istore_1, e_kpi, e_kpr, e_kpl, e_kpd, k_0, e_istore_2, e_istore_3, e_jsr, e_iload_3, e_aloadr_0, g_5_34, e_icmp_ge, g_2_34, il_37, il_40, e_if_eq, e_iload_2, e_if_ne, g_3_34, il_38, il_39, kl_0, e_lcmp, e_if_le, k_1, e_goto, e_iload_1, e_if_lt, g_0_34, il_2, il_5, il_33, il_35, il_36, il_41, il_42, il_tp, il_ta, il_sc, il_po, ik_2_0, ik_2_1, ik_2_2, ik_2_3, ik_2_4, e_iinc_3, e_icmp_eq, is_37, is_40, e_ret, eq_self, hm, lec (show m < 1000 by omega) hi, hi5, h1, hs, bz1, not_true_eq_false, not_false_eq_true, if_true, if_false, true_or, or_true, false_or, or_false, true_and, and_true, false_and, and_false, and_self, or_self, reduceIte, Bool.false_eq_true, i10, i01, e_inc1, oI_n, oI_s, lt_nN, lg_cmp_le, h2]
      | some f =>
        have hf5 : f < 5 := by have := frN_lt hf; omega
        by_cases h3 : mi 35 f ≤ mi 35 i
        · by_cases hs : sgB mi ml i = true
          · simp only [b_52_e, b_52_38, b_52_42, b_52_43, b_52_63, b_52_65, b_52_71, b_52_101, b_52_108, b_52_114, k_m1, e_istore_1, e_kpi, e_kpr, e_kpl, e_kpd, k_0, e_istore_2, e_istore_3, e_jsr, e_iload_3, e_aloadr_0, g_5_34, e_icmp_ge, g_2_34, il_37, il_40, e_if_eq, e_iload_2, e_if_ne, g_3_34, il_38, il_39, kl_0, e_lcmp, e_if_le, k_1, e_goto, e_iload_1, e_if_lt, g_0_34, il_2, il_5, il_33, il_35, il_36, il_41, il_42, il_tp, il_ta, il_sc, il_po, ik_2_0, ik_2_1, ik_2_2, ik_2_3, ik_2_4, e_iinc_3, e_icmp_eq, is_37, is_40, e_ret, eq_self, hm, lec (show m < 1000 by omega) hi, hi5, hf5, h1, h3, hs, bz1, not_true_eq_false, not_false_eq_true, if_true, if_false, true_or, or_true, false_or, or_false, true_and, and_true, false_and, and_false, and_self, or_self, reduceIte, Bool.false_eq_true, i10, i01, e_inc1, oI_n, oI_s, lt_sN hf5]
          · by_cases h2 : ml 38 i ≤ 0
            · simp only [b_52_e, b_52_38, b_52_42, b_52_43, b_52_63, b_52_65, b_52_71, b_52_101, b_52_108, b_52_114, k_m1, e_istore_1, e_kpi, e_kpr, e_kpl, e_kpd, k_0, e_istore_2, e_istore_3, e_jsr, e_iload_3, e_aloadr_0, g_5_34, e_icmp_ge, g_2_34, il_37, il_40, e_if_eq, e_iload_2, e_if_ne, g_3_34, il_38, il_39, kl_0, e_lcmp, e_if_le, k_1, e_goto, e_iload_1, e_if_lt, g_0_34, il_2, il_5, il_33, il_35, il_36, il_41, il_42, il_tp, il_ta, il_sc, il_po, ik_2_0, ik_2_1, ik_2_2, ik_2_3, ik_2_4, e_iinc_3, e_icmp_eq, is_37, is_40, e_ret, eq_self, hm, lec (show m < 1000 by omega) hi, hi5, hf5, h1, h3, hs, bz1, not_true_eq_false, not_false_eq_true, if_true, if_false, true_or, or_true, false_or, or_false, true_and, and_true, false_and, and_false, and_self, or_self, reduceIte, Bool.false_eq_true, i10, i01, e_inc1, oI_n, oI_s, lt_sN hf5, lg_cmp_le, h2]
            · simp only [b_52_e, b_52_38, b_52_42, b_52_43, b_52_63, b_52_65, b_52_71, b_52_101, b_52_108, b_52_114, k_m1, e_istore_1, e_kpi, e_kpr, e_kpl, e_kpd, k_0, e_istore_2, e_istore_3, e_jsr, e_iload_3, e_aloadr_0, g_5_34, e_icmp_ge, g_2_34, il_37, il_40, e_if_eq, e_iload_2, e_if_ne, g_3_34, il_38, il_39, kl_0, e_lcmp, e_if_le, k_1, e_goto, e_iload_1, e_if_lt, g_0_34, il_2, il_5, il_33, il_35, il_36, il_41, il_42, il_tp, il_ta, il_sc, il_po, ik_2_0, ik_2_1, ik_2_2, ik_2_3, ik_2_4, e_iinc_3, e_icmp_eq, is_37, is_40, e_ret, eq_self, hm, lec (show m < 1000 by omega) hi, hi5, hf5, h1, h3, hs, bz1, not_true_eq_false, not_false_eq_true, if_true, if_false, true_or, or_true, false_or, or_false, true_and, and_true, false_and, and_false, and_self, or_self, reduceIte, Bool.false_eq_true, i10, i01, e_inc1, oI_n, oI_s, lt_sN hf5, lg_cmp_le, h2]
        · by_cases hs : sgB mi ml i = true
          · simp only [b_52_e, b_52_38, b_52_42, b_52_43, b_52_63, b_52_65, b_52_71, b_52_101, b_52_108, b_52_114, k_m1, e_istore_1, e_kpi, e_kpr, e_kpl, e_kpd, k_0, e_istore_2, e_istore_3, e_jsr, e_iload_3, e_aloadr_0, g_5_34, e_icmp_ge, g_2_34, il_37, il_40, e_if_eq, e_iload_2, e_if_ne, g_3_34, il_38, il_39, kl_0, e_lcmp, e_if_le, k_1, e_goto, e_iload_1, e_if_lt, g_0_34, il_2, il_5, il_33, il_35, il_36, il_41, il_42, il_tp, il_ta, il_sc, il_po, ik_2_0, ik_2_1, ik_2_2, ik_2_3, ik_2_4, e_iinc_3, e_icmp_eq, is_37, is_40, e_ret, eq_self, hm, lec (show m < 1000 by omega) hi, hi5, hf5, h1, h3, hs, bz1, not_true_eq_false, not_false_eq_true, if_true, if_false, true_or, or_true, false_or, or_false, true_and, and_true, false_and, and_false, and_self, or_self, reduceIte, Bool.false_eq_true, i10, i01, e_inc1, oI_n, oI_s, lt_sN hf5]
          · by_cases h2 : ml 38 i ≤ 0
            · simp only [b_52_e, b_52_38, b_52_42, b_52_43, b_52_63, b_52_65, b_52_71, b_52_101, b_52_108, b_52_114, k_m1, e_istore_1, e_kpi, e_kpr, e_kpl, e_kpd, k_0, e_istore_2, e_istore_3, e_jsr, e_iload_3, e_aloadr_0, g_5_34, e_icmp_ge, g_2_34, il_37, il_40, e_if_eq, e_iload_2, e_if_ne, g_3_34, il_38, il_39, kl_0, e_lcmp, e_if_le, k_1, e_goto, e_iload_1, e_if_lt, g_0_34, il_2, il_5, il_33, il_35, il_36, il_41, il_42, il_tp, il_ta, il_sc, il_po, ik_2_0, ik_2_1, ik_2_2, ik_2_3, ik_2_4, e_iinc_3, e_icmp_eq, is_37, is_40, e_ret, eq_self, hm, lec (show m < 1000 by omega) hi, hi5, hf5, h1, h3, hs, bz1, not_true_eq_false, not_false_eq_true, if_true, if_false, true_or, or_true, false_or, or_false, true_and, and_true, false_and, and_false, and_self, or_self, reduceIte, Bool.false_eq_true, i10, i01, e_inc1, oI_n, oI_s, lt_sN hf5, lg_cmp_le, h2]
            · simp only [b_52_e, b_52_38, b_52_42, b_52_43, b_52_63, b_52_65, b_52_71, b_52_101, b_52_108, b_52_114, k_m1, e_istore_1, e_kpi, e_kpr, e_kpl, e_kpd, k_0, e_istore_2, e_istore_3, e_jsr, e_iload_3, e_aloadr_0, g_5_34, e_icmp_ge, g_2_34, il_37, il_40, e_if_eq, e_iload_2, e_if_ne, g_3_34, il_38, il_39, kl_0, e_lcmp, e_if_le, k_1, e_goto, e_iload_1, e_if_lt, g_0_34, il_2, il_5, il_33, il_35, il_36, il_41, il_42, il_tp, il_ta, il_sc, il_po, ik_2_0, ik_2_1, ik_2_2, ik_2_3, ik_2_4, e_iinc_3, e_icmp_eq, is_37, is_40, e_ret, eq_self, hm, lec (show m < 1000 by omega) hi, hi5, hf5, h1, h3, hs, bz1, not_true_eq_false, not_false_eq_true, if_true, if_false, true_or, or_true, false_or, or_false, true_and, and_true, false_and, and_false, and_self, or_self, reduceIte, Bool.false_eq_true, i10, i01, e_inc1, oI_n, oI_s, lt_sN hf5, lg_cmp_le, h2]) (by omega)
  refine Eq.trans (show _ = _ from hl) ?_
  simp only [b_52_6, b_52_e, b_52_38, b_52_42, b_52_43, b_52_63, b_52_65, b_52_71, b_52_101, b_52_108, b_52_114, k_m1, e_istore_1, e_kpi, e_kpr, e_kpl, e_kpd, k_0, e_istore_2, e_istore_3, e_jsr, e_iload_3, e_aloadr_0, g_5_34, e_icmp_ge, g_2_34, il_37, il_40, e_if_eq, e_iload_2, e_if_ne, g_3_34, il_38, il_39, kl_0, e_lcmp, e_if_le, k_1, e_goto, e_iload_1, e_if_lt, g_0_34, il_2, il_5, il_33, il_35, il_36, il_41, il_42, il_tp, il_ta, il_sc, il_po, ik_2_0, ik_2_1, ik_2_2, ik_2_3, ik_2_4, e_iinc_3, e_icmp_eq, is_37, is_40, e_ret, eq_self, hm, lecc, not_true_eq_false, not_false_eq_true, if_true, if_false, true_or, or_true, false_or, or_false, true_and, and_true, false_and, and_false, and_self, or_self, reduceIte, Bool.false_eq_true, i10, i01]
  have hfr : ∀ f, frN mi m = some f → f < 5 := fun f q => by have := frN_lt q; omega
  have hl2 := loop_up (fun i => ev E 52 (am_B 52 (Int.toNat 73)) [.ref 34, .int (oI (frN mi m)), .int (if sgB mi ml m = true then 1 else 0), .int (nI i)] [] (HH (loi mi ml m i) ml)) 0 m (fun i _ hi => by
    refine hd b_52_73 ?_
    have hi5 : i < 5 := by omega
    have hm' : loi mi ml m i 34 5 = nI m := by rw [← hm]; simp [loi]
    have eno : ¬ (ml 38 i = 0 ∧ (sgB mi ml m = true ∨ ¬ frN mi m = some i)) → loi mi ml m (i + 1) = loi mi ml m i := by
      intro hq
      funext a b
      unfold loi
      by_cases hb : b = i
      · subst hb
        rw [if_neg (fun q => hq ⟨q.2.2.1, q.2.2.2⟩), if_neg (fun q => by omega)]
      · have : (b < i + 1) = (b < i) := propext ⟨fun q => by omega, fun q => by omega⟩
        simp only [this]
    have eyes : (ml 38 i = 0 ∧ (sgB mi ml m = true ∨ ¬ frN mi m = some i)) → loi mi ml m (i + 1) = am_up (loi mi ml m i) 37 i 0 := by
      intro hq
      funext a b
      simp only [am_upa, loi]
      by_cases hb : b = i
      · subst hb
        by_cases ha : a = 37
        · rw [if_pos ⟨ha, by omega, hq.1, hq.2⟩, if_pos ⟨ha, rfl⟩]
        · rw [if_neg (fun q => ha q.1), if_neg (fun q => ha q.1), if_neg (fun q => ha q.1)]
      · have : (b < i + 1) = (b < i) := propext ⟨fun q => by omega, fun q => by omega⟩
        simp only [this, hb, and_false, if_false]
    by_cases h1 : ml 38 i = 0
    · by_cases hs : sgB mi ml m = true
      · rw [eyes ⟨h1, Or.inl hs⟩]
        simp only [b_52_e, b_52_38, b_52_42, b_52_43, b_52_63, b_52_65, b_52_71, b_52_101, b_52_108, b_52_114, k_m1, e_istore_1, e_kpi, e_kpr, e_kpl, e_kpd, k_0, e_istore_2, e_istore_3, e_jsr, e_iload_3, e_aloadr_0, g_5_34, e_icmp_ge, g_2_34, il_37, il_40, e_if_eq, e_iload_2, e_if_ne, g_3_34, il_38, il_39, kl_0, e_lcmp, e_if_le, k_1, e_goto, e_iload_1, e_if_lt, g_0_34, il_2, il_5, il_33, il_35, il_36, il_41, il_42, il_tp, il_ta, il_sc, il_po, ik_2_0, ik_2_1, ik_2_2, ik_2_3, ik_2_4, e_iinc_3, e_icmp_eq, is_37, is_40, e_ret, eq_self, hm', lec (show m < 1000 by omega) hi, hi5, h1, hs, bz1, lg_cmp_eq, not_true_eq_false, not_false_eq_true, if_true, if_false, true_or, or_true, false_or, or_false, true_and, and_true, false_and, and_false, and_self, or_self, reduceIte, Bool.false_eq_true, i10, i01, e_inc1]
      · by_cases hf : frN mi m = some i
        · rw [eno (by simp [hs, hf])]
          simp only [b_52_e, b_52_38, b_52_42, b_52_43, b_52_63, b_52_65, b_52_71, b_52_101, b_52_108, b_52_114, k_m1, e_istore_1, e_kpi, e_kpr, e_kpl, e_kpd, k_0, e_istore_2, e_istore_3, e_jsr, e_iload_3, e_aloadr_0, g_5_34, e_icmp_ge, g_2_34, il_37, il_40, e_if_eq, e_iload_2, e_if_ne, g_3_34, il_38, il_39, kl_0, e_lcmp, e_if_le, k_1, e_goto, e_iload_1, e_if_lt, g_0_34, il_2, il_5, il_33, il_35, il_36, il_41, il_42, il_tp, il_ta, il_sc, il_po, ik_2_0, ik_2_1, ik_2_2, ik_2_3, ik_2_4, e_iinc_3, e_icmp_eq, is_37, is_40, e_ret, eq_self, hm', lec (show m < 1000 by omega) hi, hi5, h1, hs, bz1, lg_cmp_eq, not_true_eq_false, not_false_eq_true, if_true, if_false, true_or, or_true, false_or, or_false, true_and, and_true, false_and, and_false, and_self, or_self, reduceIte, Bool.false_eq_true, i10, i01, e_inc1, oI_eq hi5 hfr, hf, oI_s]
        · rw [eyes ⟨h1, Or.inr hf⟩]
          simp only [b_52_e, b_52_38, b_52_42, b_52_43, b_52_63, b_52_65, b_52_71, b_52_101, b_52_108, b_52_114, k_m1, e_istore_1, e_kpi, e_kpr, e_kpl, e_kpd, k_0, e_istore_2, e_istore_3, e_jsr, e_iload_3, e_aloadr_0, g_5_34, e_icmp_ge, g_2_34, il_37, il_40, e_if_eq, e_iload_2, e_if_ne, g_3_34, il_38, il_39, kl_0, e_lcmp, e_if_le, k_1, e_goto, e_iload_1, e_if_lt, g_0_34, il_2, il_5, il_33, il_35, il_36, il_41, il_42, il_tp, il_ta, il_sc, il_po, ik_2_0, ik_2_1, ik_2_2, ik_2_3, ik_2_4, e_iinc_3, e_icmp_eq, is_37, is_40, e_ret, eq_self, hm', lec (show m < 1000 by omega) hi, hi5, h1, hs, bz1, lg_cmp_eq, not_true_eq_false, not_false_eq_true, if_true, if_false, true_or, or_true, false_or, or_false, true_and, and_true, false_and, and_false, and_self, or_self, reduceIte, Bool.false_eq_true, i10, i01, e_inc1, oI_eq hi5 hfr, hf]
    · rw [eno (fun q => h1 q.1)]
      simp only [b_52_e, b_52_38, b_52_42, b_52_43, b_52_63, b_52_65, b_52_71, b_52_101, b_52_108, b_52_114, k_m1, e_istore_1, e_kpi, e_kpr, e_kpl, e_kpd, k_0, e_istore_2, e_istore_3, e_jsr, e_iload_3, e_aloadr_0, g_5_34, e_icmp_ge, g_2_34, il_37, il_40, e_if_eq, e_iload_2, e_if_ne, g_3_34, il_38, il_39, kl_0, e_lcmp, e_if_le, k_1, e_goto, e_iload_1, e_if_lt, g_0_34, il_2, il_5, il_33, il_35, il_36, il_41, il_42, il_tp, il_ta, il_sc, il_po, ik_2_0, ik_2_1, ik_2_2, ik_2_3, ik_2_4, e_iinc_3, e_icmp_eq, is_37, is_40, e_ret, eq_self, hm', lec (show m < 1000 by omega) hi, hi5, h1, lg_cmp_eq, not_true_eq_false, not_false_eq_true, if_true, if_false, true_or, or_true, false_or, or_false, true_and, and_true, false_and, and_false, and_self, or_self, reduceIte, Bool.false_eq_true, i10, i01, e_inc1]) (by omega)
  have h0 : loi mi ml m 0 = mi := by funext a b; simp [loi]
  rw [h0] at hl2
  refine Eq.trans (show _ = _ from hl2) ?_
  have hm' : loi mi ml m m 34 5 = nI m := by rw [← hm]; simp [loi]
  simp only [b_52_73, b_52_e, b_52_38, b_52_42, b_52_43, b_52_63, b_52_65, b_52_71, b_52_101, b_52_108, b_52_114, k_m1, e_istore_1, e_kpi, e_kpr, e_kpl, e_kpd, k_0, e_istore_2, e_istore_3, e_jsr, e_iload_3, e_aloadr_0, g_5_34, e_icmp_ge, g_2_34, il_37, il_40, e_if_eq, e_iload_2, e_if_ne, g_3_34, il_38, il_39, kl_0, e_lcmp, e_if_le, k_1, e_goto, e_iload_1, e_if_lt, g_0_34, il_2, il_5, il_33, il_35, il_36, il_41, il_42, il_tp, il_ta, il_sc, il_po, ik_2_0, ik_2_1, ik_2_2, ik_2_3, ik_2_4, e_iinc_3, e_icmp_eq, is_37, is_40, e_ret, eq_self, hm', lecc, not_true_eq_false, not_false_eq_true, if_true, if_false, true_or, or_true, false_or, or_false, true_and, and_true, false_and, and_false, and_self, or_self, reduceIte, Bool.false_eq_true, i10, i01]
theorem cc_Circuit_leaveOutIdle_0 {M : Nat} {c : List Instr} {L : List Value} {m : Nat} (hm : mi 34 5 = nI m) (hm5 : m ≤ 5) : ev E M (.invokevirtual 52 :: c) L (.ref 34 :: []) (HH mi ml) = ev E M c L [] (HH (loi mi ml m m) ml) := e_inv (as := [.ref 34]) (S := []) rfl rfl (Nat.le_of_ble_eq_true rfl) (rfl) (ct_Circuit_leaveOutIdle hm hm5)
theorem cc_Circuit_leaveOutIdle_1 {M : Nat} {c : List Instr} {L : List Value} {s0 : Value} {m : Nat} (hm : mi 34 5 = nI m) (hm5 : m ≤ 5) : ev E M (.invokevirtual 52 :: c) L (.ref 34 :: [s0]) (HH mi ml) = ev E M c L [s0] (HH (loi mi ml m m) ml) := e_inv (as := [.ref 34]) (S := [s0]) rfl rfl (Nat.le_of_ble_eq_true rfl) (rfl) (ct_Circuit_leaveOutIdle hm hm5)
theorem cc_Circuit_leaveOutIdle_2 {M : Nat} {c : List Instr} {L : List Value} {s0 s1 : Value} {m : Nat} (hm : mi 34 5 = nI m) (hm5 : m ≤ 5) : ev E M (.invokevirtual 52 :: c) L (.ref 34 :: [s0, s1]) (HH mi ml) = ev E M c L [s0, s1] (HH (loi mi ml m m) ml) := e_inv (as := [.ref 34]) (S := [s0, s1]) rfl rfl (Nat.le_of_ble_eq_true rfl) (rfl) (ct_Circuit_leaveOutIdle hm hm5)
theorem cc_Circuit_leaveOutIdle_3 {M : Nat} {c : List Instr} {L : List Value} {s0 s1 s2 : Value} {m : Nat} (hm : mi 34 5 = nI m) (hm5 : m ≤ 5) : ev E M (.invokevirtual 52 :: c) L (.ref 34 :: [s0, s1, s2]) (HH mi ml) = ev E M c L [s0, s1, s2] (HH (loi mi ml m m) ml) := e_inv (as := [.ref 34]) (S := [s0, s1, s2]) rfl rfl (Nat.le_of_ble_eq_true rfl) (rfl) (ct_Circuit_leaveOutIdle hm hm5)
end Cl6
