/-! SETTLE -/
/-- the train that gives back less now, and the cells ahead of that -/
def stB (mi : Nat → Nat → Int32) (ml : Nat → Nat → Int64) (m : Nat) : Option Nat := if 0 ≤ sumI (cA mi) 5 then (if gbm (ffI mi ml m) 5 = none then none else if thB (ffI mi ml m) m 5 = true then hiA (ffI mi ml m) m 5 else none) else gbm mi 5
def stI (mi : Nat → Nat → Int32) (ml : Nat → Nat → Int64) (m : Nat) : Nat → Nat → Int32 := if 0 ≤ sumI (cA mi) 5 then ffI mi ml m else mi
def stJ (mi : Nat → Nat → Int32) (ml : Nat → Nat → Int64) (m : Nat) : Nat → Nat → Int64 := if 0 ≤ sumI (cA mi) 5 then (if gbm (ffI mi ml m) 5 = none then ffJ mi ml m else hiM (ffI mi ml m) (ffJ mi ml m) m 5) else ml
def stL (m : Nat) : Nat → (Nat → Nat → Int32) → (Nat → Nat → Int64) → (Nat → Nat → Int32) × (Nat → Nat → Int64)
  | 0, mi, ml => (mi, ml)
  | k + 1, mi, ml => match stB mi ml m with
    | none => (stI mi ml m, stJ mi ml m)
    | some n => stL m k (am_up (stI mi ml m) 42 n (stI mi ml m 42 n / 2)) (stJ mi ml m)
theorem stI_ne {mi : Nat → Nat → Int32} {ml : Nat → Nat → Int64} {m a b : Nat} (h : ¬ a = 37) : stI mi ml m a b = mi a b := by
  unfold stI
  split
  · exact ffI_ne h
  · rfl
theorem CB_of {mi mj : Nat → Nat → Int32} {m : Nat} (h : CB mi m) (hA : ∀ n, n < 5 → (mj 42 n).toInt.natAbs ≤ 100000) (he : ∀ a b, ¬ a = 37 → ¬ a = 42 → mj a b = mi a b) : CB mj m := by
  obtain ⟨h1, h2, h3, h4, h5, h6, h7, h8, h9⟩ := h
  have eP : ∀ n, mj 36 n = mi 36 n := fun n => he 36 n (by decide) (by decide)
  refine ⟨by rw [he 34 5 (by decide) (by decide)]; exact h1, h2, fun n hn => by rw [eP]; exact h3 n hn, fun i j hi hj => ?_, fun n hn hc => ?_, hA, by rw [he 2 2 (by decide) (by decide)]; exact h7, by rw [he 2 1 (by decide) (by decide)]; exact h8, by rw [he 2 3 (by decide) (by decide)]; exact h9⟩
  · unfold cP
    rw [eP, eP]
    exact h4 i j hi hj
  · rw [he 41 n (by decide) (by decide)]
    refine h5 n hn ?_
    unfold cTh at hc ⊢
    rwa [he 40 n (by decide) (by decide)] at hc
theorem half_bd {x : Int32} {B : Nat} (h : x.toInt.natAbs ≤ B) : (x / 2).toInt.natAbs ≤ B := by
  have h2 : (2 : Int32).toInt = 2 := rfl
  rw [Int32.toInt_div_of_ne_right _ _ (by decide), h2]
  have := Int.natAbs_tdiv x.toInt 2
  rw [this]
  exact Nat.le_trans (Nat.div_le_self _ _) h
theorem CB_ff {mi : Nat → Nat → Int32} {ml : Nat → Nat → Int64} {m : Nat} (h : CB mi m) : CB (ffI mi ml m) m := CB_of h (fun n hn => by rw [ffI_ne (by decide)]; exact h.2.2.2.2.2.1 n hn) (fun a b h1 _ => ffI_ne h1)
theorem CB_st {mi : Nat → Nat → Int32} {ml : Nat → Nat → Int64} {m n : Nat} (h : CB mi m) (hn : n < 5) : CB (am_up (stI mi ml m) 42 n (stI mi ml m 42 n / 2)) m := by
  refine CB_of h (fun k hk => ?_) (fun a b h1 h2 => by rw [am_upa, if_neg (fun q => h2 q.1), stI_ne h1])
  rw [am_upa]
  split
  · rw [stI_ne (by decide)]
    exact half_bd (h.2.2.2.2.2.1 n hn)
  · rw [stI_ne (by decide)]
    exact h.2.2.2.2.2.1 k hk
theorem CB_sum {mi : Nat → Nat → Int32} {m : Nat} (h : CB mi m) : -4611686018427387904 ≤ sumI (cA mi) 5 ∧ sumI (cA mi) 5 ≤ 4611686018427387904 := by
  have := sumI_bd (f := cA mi) (k := 5) h.2.2.2.2.2.1
  omega
theorem stB_lt {mi : Nat → Nat → Int32} {ml : Nat → Nat → Int64} {m n : Nat} (h : stB mi ml m = some n) : n < 5 := by
  unfold stB at h
  split at h
  · split at h
    · cases h
    · split at h
      · exact (hiA_lt h).1
      · cases h
  · exact gbm_lt h
theorem gt45 {i : Nat} (h : i ≤ 45) : ((45 : Int32) < nI i) = False := eq_false (fun q => by
  have := (nI_ltI (a := 45) (b := i) (by decide) (by omega)).mp q
  omega)
theorem gt46 : ((45 : Int32) < nI 46) = True := by decide +kernel
section Cl11
variable {E : aE}
theorem st_loop {m : Nat} : ∀ (k i : Nat) (mi : Nat → Nat → Int32) (ml : Nat → Nat → Int64) (v : Value), i + k = 46 → CB mi m → ev E 45 (am_B 45 (Int.toNat 2)) [.ref 34, .int (nI i), v] [] (HH mi ml) = some (none, HH (stL m k mi ml).1 (stL m k mi ml).2) := by
  intro k
  induction k with
  | zero =>
    intro i mi ml v hk hB
    have hi : i = 46 := by omega
    subst hi
    refine hd b_45_2 ?_
    simp only [b_45_e, b_45_22, b_45_26, b_45_32, b_45_48, k_0, e_istore_1, e_kpi, e_kpr, e_kpl, e_kpd, e_jsr, e_iload_1, k_45, e_icmp_gt, e_aloadr_0, cc_Circuit_findFeeding_0, cc_Circuit_findFeeding_1, cc_Circuit_findFeeding_2, cc_Circuit_findFeeding_3, Option.toList_some, Option.toList_none, List.cons_append, List.nil_append, e_if_eq, cc_Circuit_highestIfAnyTooHigh_0, cc_Circuit_highestIfAnyTooHigh_1, cc_Circuit_highestIfAnyTooHigh_2, cc_Circuit_highestIfAnyTooHigh_3, e_goto, cc_Circuit_givingBackMost_0, cc_Circuit_givingBackMost_1, cc_Circuit_givingBackMost_2, cc_Circuit_givingBackMost_3, e_istore_2, e_iload_2, e_if_ge, e_ret, g_8_34, e_dup2, il_2, il_5, il_33, il_35, il_36, il_41, il_42, il_tp, il_ta, il_sc, il_po, ik_2_0, ik_2_1, ik_2_2, ik_2_3, ik_2_4, k_2, e_idiv, is_2, is_5, is_33, is_35, is_36, is_41, is_42, is_tp, is_ta, is_sc, is_po, e_iinc_1, eq_self, gt46, not_true_eq_false, not_false_eq_true, if_true, if_false, true_or, or_true, false_or, or_false, true_and, and_true, false_and, and_false, and_self, or_self, reduceIte, Bool.false_eq_true, i10, i01, stL]
  | succ k ih =>
    intro i mi ml v hk hB
    refine hd b_45_2 ?_
    have hB2 : CB (ffI mi ml m) m := CB_ff hB
    have hbk : ∀ n, stB mi ml m = some n → ev E 45 (am_B 45 (Int.toNat 2)) [.ref 34, .int (nI (i + 1)), .int (nI n)] [] (HH (am_up (stI mi ml m) 42 n (stI mi ml m 42 n / 2)) (stJ mi ml m)) = some (none, HH (stL m (k + 1) mi ml).1 (stL m (k + 1) mi ml).2) := by
      intro n hn
      rw [ih (i + 1) _ _ _ (by omega) (CB_st hB (stB_lt hn)), stL, hn]
    have hbn : stB mi ml m = none → (stL m (k + 1) mi ml) = (stI mi ml m, stJ mi ml m) := by
      intro hn
      rw [stL, hn]
    obtain ⟨hm, hm5, hp, hso, hy, hA, hV, hR, hT⟩ := id hB
    by_cases h0 : 0 ≤ sumI (cA mi) 5
    · have eI : stI mi ml m = ffI mi ml m := by unfold stI; rw [if_pos h0]
      cases hg : gbm (ffI mi ml m) 5 with
      | none =>
        have eb : stB mi ml m = none := by unfold stB; rw [if_pos h0, if_pos hg]
        have eJ : stJ mi ml m = ffJ mi ml m := by unfold stJ; rw [if_pos h0, if_pos hg]
        rw [hbn eb, eI, eJ]
        simp only [b_45_e, b_45_22, b_45_26, b_45_32, b_45_48, k_0, e_istore_1, e_kpi, e_kpr, e_kpl, e_kpd, e_jsr, e_iload_1, k_45, e_icmp_gt, e_aloadr_0, cc_Circuit_findFeeding_0, cc_Circuit_findFeeding_1, cc_Circuit_findFeeding_2, cc_Circuit_findFeeding_3, Option.toList_some, Option.toList_none, List.cons_append, List.nil_append, e_if_eq, cc_Circuit_highestIfAnyTooHigh_0, cc_Circuit_highestIfAnyTooHigh_1, cc_Circuit_highestIfAnyTooHigh_2, cc_Circuit_highestIfAnyTooHigh_3, e_goto, cc_Circuit_givingBackMost_0, cc_Circuit_givingBackMost_1, cc_Circuit_givingBackMost_2, cc_Circuit_givingBackMost_3, e_istore_2, e_iload_2, e_if_ge, e_ret, g_8_34, e_dup2, il_2, il_5, il_33, il_35, il_36, il_41, il_42, il_tp, il_ta, il_sc, il_po, ik_2_0, ik_2_1, ik_2_2, ik_2_3, ik_2_4, k_2, e_idiv, is_2, is_5, is_33, is_35, is_36, is_41, is_42, is_tp, is_ta, is_sc, is_po, e_iinc_1, eq_self, gt45 (show i ≤ 45 by omega), cc_Circuit_findFeeding_0 hm hm5 hp hy (CB_sum hB), h0, cc_Circuit_highestIfAnyTooHigh_0 hB2, hg, ge_n, not_true_eq_false, not_false_eq_true, if_true, if_false, true_or, or_true, false_or, or_false, true_and, and_true, false_and, and_false, and_self, or_self, reduceIte, Bool.false_eq_true, i10, i01]
      | some f0 =>
        have hng : ¬ gbm (ffI mi ml m) 5 = none := by rw [hg]; simp
        have eJ : stJ mi ml m = hiM (ffI mi ml m) (ffJ mi ml m) m 5 := by unfold stJ; rw [if_pos h0, if_neg hng]
        by_cases hs : thB (ffI mi ml m) m 5 = true
        · cases hh : hiA (ffI mi ml m) m 5 with
          | none =>
            have eb : stB mi ml m = none := by unfold stB; rw [if_pos h0, if_neg hng, if_pos hs, hh]
            rw [hbn eb, eI, eJ]
            simp only [b_45_e, b_45_22, b_45_26, b_45_32, b_45_48, k_0, e_istore_1, e_kpi, e_kpr, e_kpl, e_kpd, e_jsr, e_iload_1, k_45, e_icmp_gt, e_aloadr_0, cc_Circuit_findFeeding_0, cc_Circuit_findFeeding_1, cc_Circuit_findFeeding_2, cc_Circuit_findFeeding_3, Option.toList_some, Option.toList_none, List.cons_append, List.nil_append, e_if_eq, cc_Circuit_highestIfAnyTooHigh_0, cc_Circuit_highestIfAnyTooHigh_1, cc_Circuit_highestIfAnyTooHigh_2, cc_Circuit_highestIfAnyTooHigh_3, e_goto, cc_Circuit_givingBackMost_0, cc_Circuit_givingBackMost_1, cc_Circuit_givingBackMost_2, cc_Circuit_givingBackMost_3, e_istore_2, e_iload_2, e_if_ge, e_ret, g_8_34, e_dup2, il_2, il_5, il_33, il_35, il_36, il_41, il_42, il_tp, il_ta, il_sc, il_po, ik_2_0, ik_2_1, ik_2_2, ik_2_3, ik_2_4, k_2, e_idiv, is_2, is_5, is_33, is_35, is_36, is_41, is_42, is_tp, is_ta, is_sc, is_po, e_iinc_1, eq_self, gt45 (show i ≤ 45 by omega), cc_Circuit_findFeeding_0 hm hm5 hp hy (CB_sum hB), h0, cc_Circuit_highestIfAnyTooHigh_0 hB2, hng, hs, hh, oI_n, ge_n, not_true_eq_false, not_false_eq_true, if_true, if_false, true_or, or_true, false_or, or_false, true_and, and_true, false_and, and_false, and_self, or_self, reduceIte, Bool.false_eq_true, i10, i01]
          | some n =>
            have eb : stB mi ml m = some n := by unfold stB; rw [if_pos h0, if_neg hng, if_pos hs, hh]
            have hn5 := stB_lt eb
            rw [← hbk n eb, eI, eJ]
            simp only [b_45_e, b_45_22, b_45_26, b_45_32, b_45_48, k_0, e_istore_1, e_kpi, e_kpr, e_kpl, e_kpd, e_jsr, e_iload_1, k_45, e_icmp_gt, e_aloadr_0, cc_Circuit_findFeeding_0, cc_Circuit_findFeeding_1, cc_Circuit_findFeeding_2, cc_Circuit_findFeeding_3, Option.toList_some, Option.toList_none, List.cons_append, List.nil_append, e_if_eq, cc_Circuit_highestIfAnyTooHigh_0, cc_Circuit_highestIfAnyTooHigh_1, cc_Circuit_highestIfAnyTooHigh_2, cc_Circuit_highestIfAnyTooHigh_3, e_goto, cc_Circuit_givingBackMost_0, cc_Circuit_givingBackMost_1, cc_Circuit_givingBackMost_2, cc_Circuit_givingBackMost_3, e_istore_2, e_iload_2, e_if_ge, e_ret, g_8_34, e_dup2, il_2, il_5, il_33, il_35, il_36, il_41, il_42, il_tp, il_ta, il_sc, il_po, ik_2_0, ik_2_1, ik_2_2, ik_2_3, ik_2_4, k_2, e_idiv, is_2, is_5, is_33, is_35, is_36, is_41, is_42, is_tp, is_ta, is_sc, is_po, e_iinc_1, eq_self, gt45 (show i ≤ 45 by omega), cc_Circuit_findFeeding_0 hm hm5 hp hy (CB_sum hB), h0, cc_Circuit_highestIfAnyTooHigh_0 hB2, hng, hs, hh, oI_s, ge_s hn5, hn5, e_idiv (show ¬ (2 : Int32) = 0 by decide), e_inc1, not_true_eq_false, not_false_eq_true, if_true, if_false, true_or, or_true, false_or, or_false, true_and, and_true, false_and, and_false, and_self, or_self, reduceIte, Bool.false_eq_true, i10, i01]
        · have eb : stB mi ml m = none := by unfold stB; rw [if_pos h0, if_neg hng, if_neg hs]
          rw [hbn eb, eI, eJ]
          simp only [b_45_e, b_45_22, b_45_26, b_45_32, b_45_48, k_0, e_istore_1, e_kpi, e_kpr, e_kpl, e_kpd, e_jsr, e_iload_1, k_45, e_icmp_gt, e_aloadr_0, cc_Circuit_findFeeding_0, cc_Circuit_findFeeding_1, cc_Circuit_findFeeding_2, cc_Circuit_findFeeding_3, Option.toList_some, Option.toList_none, List.cons_append, List.nil_append, e_if_eq, cc_Circuit_highestIfAnyTooHigh_0, cc_Circuit_highestIfAnyTooHigh_1, cc_Circuit_highestIfAnyTooHigh_2, cc_Circuit_highestIfAnyTooHigh_3, e_goto, cc_Circuit_givingBackMost_0, cc_Circuit_givingBackMost_1, cc_Circuit_givingBackMost_2, cc_Circuit_givingBackMost_3, e_istore_2, e_iload_2, e_if_ge, e_ret, g_8_34, e_dup2, il_2, il_5, il_33, il_35, il_36, il_41, il_42, il_tp, il_ta, il_sc, il_po, ik_2_0, ik_2_1, ik_2_2, ik_2_3, ik_2_4, k_2, e_idiv, is_2, is_5, is_33, is_35, is_36, is_41, is_42, is_tp, is_ta, is_sc, is_po, e_iinc_1, eq_self, gt45 (show i ≤ 45 by omega), cc_Circuit_findFeeding_0 hm hm5 hp hy (CB_sum hB), h0, cc_Circuit_highestIfAnyTooHigh_0 hB2, hng, hs, ge_n, not_true_eq_false, not_false_eq_true, if_true, if_false, true_or, or_true, false_or, or_false, true_and, and_true, false_and, and_false, and_self, or_self, reduceIte, Bool.false_eq_true, i10, i01]
    · have eI : stI mi ml m = mi := by unfold stI; rw [if_neg h0]
      have eJ : stJ mi ml m = ml := by unfold stJ; rw [if_neg h0]
      cases hg : gbm mi 5 with
      | none =>
        have eb : stB mi ml m = none := by unfold stB; rw [if_neg h0, hg]
        rw [hbn eb, eI, eJ]
        simp only [b_45_e, b_45_22, b_45_26, b_45_32, b_45_48, k_0, e_istore_1, e_kpi, e_kpr, e_kpl, e_kpd, e_jsr, e_iload_1, k_45, e_icmp_gt, e_aloadr_0, cc_Circuit_findFeeding_0, cc_Circuit_findFeeding_1, cc_Circuit_findFeeding_2, cc_Circuit_findFeeding_3, Option.toList_some, Option.toList_none, List.cons_append, List.nil_append, e_if_eq, cc_Circuit_highestIfAnyTooHigh_0, cc_Circuit_highestIfAnyTooHigh_1, cc_Circuit_highestIfAnyTooHigh_2, cc_Circuit_highestIfAnyTooHigh_3, e_goto, cc_Circuit_givingBackMost_0, cc_Circuit_givingBackMost_1, cc_Circuit_givingBackMost_2, cc_Circuit_givingBackMost_3, e_istore_2, e_iload_2, e_if_ge, e_ret, g_8_34, e_dup2, il_2, il_5, il_33, il_35, il_36, il_41, il_42, il_tp, il_ta, il_sc, il_po, ik_2_0, ik_2_1, ik_2_2, ik_2_3, ik_2_4, k_2, e_idiv, is_2, is_5, is_33, is_35, is_36, is_41, is_42, is_tp, is_ta, is_sc, is_po, e_iinc_1, eq_self, gt45 (show i ≤ 45 by omega), cc_Circuit_findFeeding_0 hm hm5 hp hy (CB_sum hB), h0, hg, oI_n, ge_n, not_true_eq_false, not_false_eq_true, if_true, if_false, true_or, or_true, false_or, or_false, true_and, and_true, false_and, and_false, and_self, or_self, reduceIte, Bool.false_eq_true, i10, i01]
      | some n =>
        have eb : stB mi ml m = some n := by unfold stB; rw [if_neg h0, hg]
        have hn5 := stB_lt eb
        rw [← hbk n eb, eI, eJ]
        simp only [b_45_e, b_45_22, b_45_26, b_45_32, b_45_48, k_0, e_istore_1, e_kpi, e_kpr, e_kpl, e_kpd, e_jsr, e_iload_1, k_45, e_icmp_gt, e_aloadr_0, cc_Circuit_findFeeding_0, cc_Circuit_findFeeding_1, cc_Circuit_findFeeding_2, cc_Circuit_findFeeding_3, Option.toList_some, Option.toList_none, List.cons_append, List.nil_append, e_if_eq, cc_Circuit_highestIfAnyTooHigh_0, cc_Circuit_highestIfAnyTooHigh_1, cc_Circuit_highestIfAnyTooHigh_2, cc_Circuit_highestIfAnyTooHigh_3, e_goto, cc_Circuit_givingBackMost_0, cc_Circuit_givingBackMost_1, cc_Circuit_givingBackMost_2, cc_Circuit_givingBackMost_3, e_istore_2, e_iload_2, e_if_ge, e_ret, g_8_34, e_dup2, il_2, il_5, il_33, il_35, il_36, il_41, il_42, il_tp, il_ta, il_sc, il_po, ik_2_0, ik_2_1, ik_2_2, ik_2_3, ik_2_4, k_2, e_idiv, is_2, is_5, is_33, is_35, is_36, is_41, is_42, is_tp, is_ta, is_sc, is_po, e_iinc_1, eq_self, gt45 (show i ≤ 45 by omega), cc_Circuit_findFeeding_0 hm hm5 hp hy (CB_sum hB), h0, hg, oI_s, ge_s hn5, hn5, e_idiv (show ¬ (2 : Int32) = 0 by decide), e_inc1, not_true_eq_false, not_false_eq_true, if_true, if_false, true_or, or_true, false_or, or_false, true_and, and_true, false_and, and_false, and_self, or_self, reduceIte, Bool.false_eq_true, i10, i01]
variable {mi : Nat → Nat → Int32} {ml : Nat → Nat → Int64}
theorem ct_Circuit_settle {m : Nat} (hB : CB mi m) : ev E 45 (am_B 45 0) [.ref 34, am_dm, am_dm] [] (HH mi ml) = some (none, HH (stL m 46 mi ml).1 (stL m 46 mi ml).2) := by
  simp only [b_45_e, b_45_22, b_45_26, b_45_32, b_45_48, k_0, e_istore_1, e_kpi, e_kpr, e_kpl, e_kpd, e_jsr, e_iload_1, k_45, e_icmp_gt, e_aloadr_0, cc_Circuit_findFeeding_0, cc_Circuit_findFeeding_1, cc_Circuit_findFeeding_2, cc_Circuit_findFeeding_3, Option.toList_some, Option.toList_none, List.cons_append, List.nil_append, e_if_eq, cc_Circuit_highestIfAnyTooHigh_0, cc_Circuit_highestIfAnyTooHigh_1, cc_Circuit_highestIfAnyTooHigh_2, cc_Circuit_highestIfAnyTooHigh_3, e_goto, cc_Circuit_givingBackMost_0, cc_Circuit_givingBackMost_1, cc_Circuit_givingBackMost_2, cc_Circuit_givingBackMost_3, e_istore_2, e_iload_2, e_if_ge, e_ret, g_8_34, e_dup2, il_2, il_5, il_33, il_35, il_36, il_41, il_42, il_tp, il_ta, il_sc, il_po, ik_2_0, ik_2_1, ik_2_2, ik_2_3, ik_2_4, k_2, e_idiv, is_2, is_5, is_33, is_35, is_36, is_41, is_42, is_tp, is_ta, is_sc, is_po, e_iinc_1, eq_self]
  exact st_loop 46 0 mi ml am_dm rfl hB
theorem cc_Circuit_settle_0 {M : Nat} {c : List Instr} {L : List Value} {m : Nat} (hB : CB mi m) : ev E M (.invokevirtual 45 :: c) L (.ref 34 :: []) (HH mi ml) = ev E M c L [] (HH (stL m 46 mi ml).1 (stL m 46 mi ml).2) := e_inv (as := [.ref 34]) (S := []) rfl rfl (Nat.le_of_ble_eq_true rfl) (rfl) (ct_Circuit_settle hB)
theorem cc_Circuit_settle_1 {M : Nat} {c : List Instr} {L : List Value} {s0 : Value} {m : Nat} (hB : CB mi m) : ev E M (.invokevirtual 45 :: c) L (.ref 34 :: [s0]) (HH mi ml) = ev E M c L [s0] (HH (stL m 46 mi ml).1 (stL m 46 mi ml).2) := e_inv (as := [.ref 34]) (S := [s0]) rfl rfl (Nat.le_of_ble_eq_true rfl) (rfl) (ct_Circuit_settle hB)
theorem cc_Circuit_settle_2 {M : Nat} {c : List Instr} {L : List Value} {s0 s1 : Value} {m : Nat} (hB : CB mi m) : ev E M (.invokevirtual 45 :: c) L (.ref 34 :: [s0, s1]) (HH mi ml) = ev E M c L [s0, s1] (HH (stL m 46 mi ml).1 (stL m 46 mi ml).2) := e_inv (as := [.ref 34]) (S := [s0, s1]) rfl rfl (Nat.le_of_ble_eq_true rfl) (rfl) (ct_Circuit_settle hB)
theorem cc_Circuit_settle_3 {M : Nat} {c : List Instr} {L : List Value} {s0 s1 s2 : Value} {m : Nat} (hB : CB mi m) : ev E M (.invokevirtual 45 :: c) L (.ref 34 :: [s0, s1, s2]) (HH mi ml) = ev E M c L [s0, s1, s2] (HH (stL m 46 mi ml).1 (stL m 46 mi ml).2) := e_inv (as := [.ref 34]) (S := [s0, s1, s2]) rfl rfl (Nat.le_of_ble_eq_true rfl) (rfl) (ct_Circuit_settle hB)
end Cl11
