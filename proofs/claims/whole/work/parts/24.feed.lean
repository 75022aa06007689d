/-! WHO FEEDS -/
theorem lot_ne {mi : Nat → Nat → Int32} {ml : Nat → Nat → Int64} {i a b : Nat} (h : ¬ a = 37) : lot mi ml i a b = mi a b := by simp [lot, h]
theorem loi_ne {mi : Nat → Nat → Int32} {ml : Nat → Nat → Int64} {m i a b : Nat} (h : ¬ a = 37) : loi mi ml m i a b = mi a b := by simp [loi, h]
def saF (mi : Nat → Nat → Int32) (i : Nat) : Nat → Nat → Int32 := fun a b => if a = 37 ∧ b < i then 1 else mi a b
theorem saF_ne {mi : Nat → Nat → Int32} {i a b : Nat} (h : ¬ a = 37) : saF mi i a b = mi a b := by simp [saF, h]
/-- the rounds -/
def ffL (m : Nat) : Nat → (Nat → Nat → Int32) → (Nat → Nat → Int64) → (Nat → Nat → Int32) × (Nat → Nat → Int64)
  | 0, mi, ml => (mi, ml)
  | k + 1, mi, ml => if lotB mi (wgh mi ml m m) m = true then ffL m k (lot mi (wgh mi ml m m) m) (wgh mi ml m m) else (lot mi (wgh mi ml m m) m, wgh mi ml m m)
theorem ffL_ne {m : Nat} : ∀ {k : Nat} {mi : Nat → Nat → Int32} {ml : Nat → Nat → Int64} {a b : Nat}, ¬ a = 37 → (ffL m k mi ml).1 a b = mi a b := by
  intro k
  induction k with
  | zero => intro mi ml a b h; rfl
  | succ k ih =>
    intro mi ml a b h
    rw [ffL]
    split
    · rw [ih h, lot_ne h]
    · exact lot_ne h
/-- cells behind findFeeding where it answers true -/
def ffI (mi : Nat → Nat → Int32) (ml : Nat → Nat → Int64) (m : Nat) : Nat → Nat → Int32 := loi (ffL m m (saF mi m) ml).1 (ffL m m (saF mi m) ml).2 m m
def ffJ (mi : Nat → Nat → Int32) (ml : Nat → Nat → Int64) (m : Nat) : Nat → Nat → Int64 := (ffL m m (saF mi m) ml).2
theorem ffI_ne {mi : Nat → Nat → Int32} {ml : Nat → Nat → Int64} {m a b : Nat} (h : ¬ a = 37) : ffI mi ml m a b = mi a b := by
  unfold ffI
  rw [loi_ne h, ffL_ne h, saF_ne h]
theorem i64_le {a b : Int} (ha : -4611686018427387904 ≤ a ∧ a ≤ 4611686018427387904) (hb : -4611686018427387904 ≤ b ∧ b ≤ 4611686018427387904) : Int64.ofInt a ≤ Int64.ofInt b ↔ a ≤ b := by
  rw [Int64.le_iff_toInt_le, Int64.toInt_ofInt_of_le (by omega) (by omega), Int64.toInt_ofInt_of_le (by omega) (by omega)]
theorem i64_lt {a b : Int} (ha : -4611686018427387904 ≤ a ∧ a ≤ 4611686018427387904) (hb : -4611686018427387904 ≤ b ∧ b ≤ 4611686018427387904) : Int64.ofInt a < Int64.ofInt b ↔ a < b := by
  rw [Int64.lt_iff_toInt_lt, Int64.toInt_ofInt_of_le (by omega) (by omega), Int64.toInt_ofInt_of_le (by omega) (by omega)]
theorem i64_eq {a b : Int} (ha : -4611686018427387904 ≤ a ∧ a ≤ 4611686018427387904) (hb : -4611686018427387904 ≤ b ∧ b ≤ 4611686018427387904) : Int64.ofInt a = Int64.ofInt b ↔ a = b := by
  rw [← Int64.toInt_inj, Int64.toInt_ofInt_of_le (by omega) (by omega), Int64.toInt_ofInt_of_le (by omega) (by omega)]
theorem k0i64 : (0 : Int64) = Int64.ofInt 0 := rfl
section Cl7
variable {E : aE} {mi : Nat → Nat → Int32} {ml : Nat → Nat → Int64}
theorem ff_rounds {m : Nat} (hm5 : m ≤ 5) : ∀ (k i : Nat) (mi : Nat → Nat → Int32) (ml : Nat → Nat → Int64), i + k = m → mi 34 5 = nI m → (∀ n, n < m → bd (mi 36 n)) → (∀ n, n < 5 → cTh mi n = true → bd (mi 41 n)) → ev E 46 (am_B 46 (Int.toNat 36)) [.ref 34, .int (nI i)] [] (HH mi ml) = some (some (.int 1), HH (loi (ffL m k mi ml).1 (ffL m k mi ml).2 m m) (ffL m k mi ml).2) := by
  intro k
  induction k with
  | zero =>
    intro i mi ml hk hm hp hy
    have hi : i = m := by omega
    subst hi
    refine hd b_46_36 ?_
    simp only [b_46_e, b_46_11, b_46_34, b_46_58, b_46_64, e_aloadr_0, cc_Circuit_pulledTogether_0, cc_Circuit_pulledTogether_1, cc_Circuit_pulledTogether_2, cc_Circuit_pulledTogether_3, Option.toList_some, Option.toList_none, List.cons_append, List.nil_append, kl_0, e_lcmp, e_if_ge, k_0, e_zret0, e_zret1, e_istore_1, e_kpi, e_kpr, e_kpl, e_kpd, e_jsr, e_iload_1, g_5_34, e_icmp_ge, g_2_34, k_1, is_37, is_40, e_iinc_1, e_goto, cc_Circuit_weigh_0, cc_Circuit_weigh_1, cc_Circuit_weigh_2, cc_Circuit_weigh_3, cc_Circuit_leaveOutTaking_0, cc_Circuit_leaveOutTaking_1, cc_Circuit_leaveOutTaking_2, cc_Circuit_leaveOutTaking_3, e_if_ne, cc_Circuit_leaveOutIdle_0, cc_Circuit_leaveOutIdle_1, cc_Circuit_leaveOutIdle_2, cc_Circuit_leaveOutIdle_3, eq_self, hm, lecc, not_true_eq_false, not_false_eq_true, if_true, if_false, true_or, or_true, false_or, or_false, true_and, and_true, false_and, and_false, and_self, or_self, reduceIte, Bool.false_eq_true, i10, i01, cc_Circuit_leaveOutIdle_0 hm hm5]
    rfl
  | succ k ih =>
    intro i mi ml hk hm hp hy
    have hi : i < m := by omega
    refine hd b_46_36 ?_
    have hml : lot mi (wgh mi ml m m) m 34 5 = nI m := by rw [lot_ne (by decide), hm]
    rw [ffL]
    by_cases hb : lotB mi (wgh mi ml m m) m = true
    · simp only [b_46_e, b_46_11, b_46_34, b_46_58, b_46_64, e_aloadr_0, cc_Circuit_pulledTogether_0, cc_Circuit_pulledTogether_1, cc_Circuit_pulledTogether_2, cc_Circuit_pulledTogether_3, Option.toList_some, Option.toList_none, List.cons_append, List.nil_append, kl_0, e_lcmp, e_if_ge, k_0, e_zret0, e_zret1, e_istore_1, e_kpi, e_kpr, e_kpl, e_kpd, e_jsr, e_iload_1, g_5_34, e_icmp_ge, g_2_34, k_1, is_37, is_40, e_iinc_1, e_goto, cc_Circuit_weigh_0, cc_Circuit_weigh_1, cc_Circuit_weigh_2, cc_Circuit_weigh_3, cc_Circuit_leaveOutTaking_0, cc_Circuit_leaveOutTaking_1, cc_Circuit_leaveOutTaking_2, cc_Circuit_leaveOutTaking_3, e_if_ne, cc_Circuit_leaveOutIdle_0, cc_Circuit_leaveOutIdle_1, cc_Circuit_leaveOutIdle_2, cc_Circuit_leaveOutIdle_3, eq_self, hm, lec (show m < 1000 by omega) hi, not_true_eq_false, not_false_eq_true, if_true, if_false, true_or, or_true, false_or, or_false, true_and, and_true, false_and, and_false, and_self, or_self, reduceIte, Bool.false_eq_true, i10, i01, cc_Circuit_weigh_0 hm hm5 hp hy, cc_Circuit_leaveOutTaking_0 hm hm5, hb, e_inc1]
      exact ih (i + 1) _ _ (by omega) hml (fun n hn => by rw [lot_ne (by decide)]; exact hp n hn) (fun n hn hc => by
        rw [lot_ne (by decide)]
        refine hy n hn ?_
        unfold cTh at hc ⊢
        rwa [lot_ne (by decide)] at hc)
    · simp only [b_46_e, b_46_11, b_46_34, b_46_58, b_46_64, e_aloadr_0, cc_Circuit_pulledTogether_0, cc_Circuit_pulledTogether_1, cc_Circuit_pulledTogether_2, cc_Circuit_pulledTogether_3, Option.toList_some, Option.toList_none, List.cons_append, List.nil_append, kl_0, e_lcmp, e_if_ge, k_0, e_zret0, e_zret1, e_istore_1, e_kpi, e_kpr, e_kpl, e_kpd, e_jsr, e_iload_1, g_5_34, e_icmp_ge, g_2_34, k_1, is_37, is_40, e_iinc_1, e_goto, cc_Circuit_weigh_0, cc_Circuit_weigh_1, cc_Circuit_weigh_2, cc_Circuit_weigh_3, cc_Circuit_leaveOutTaking_0, cc_Circuit_leaveOutTaking_1, cc_Circuit_leaveOutTaking_2, cc_Circuit_leaveOutTaking_3, e_if_ne, cc_Circuit_leaveOutIdle_0, cc_Circuit_leaveOutIdle_1, cc_Circuit_leaveOutIdle_2, cc_Circuit_leaveOutIdle_3, eq_self, hm, lec (show m < 1000 by omega) hi, not_true_eq_false, not_false_eq_true, if_true, if_false, true_or, or_true, false_or, or_false, true_and, and_true, false_and, and_false, and_self, or_self, reduceIte, Bool.false_eq_true, i10, i01, cc_Circuit_weigh_0 hm hm5 hp hy, cc_Circuit_leaveOutTaking_0 hm hm5, hb, cc_Circuit_leaveOutIdle_0 hml hm5]
theorem ct_Circuit_findFeeding {m : Nat} (hm : mi 34 5 = nI m) (hm5 : m ≤ 5) (hp : ∀ n, n < m → bd (mi 36 n)) (hy : ∀ n, n < 5 → cTh mi n = true → bd (mi 41 n)) (hA : -4611686018427387904 ≤ sumI (cA mi) 5 ∧ sumI (cA mi) 5 ≤ 4611686018427387904) : ev E 46 (am_B 46 0) [.ref 34, am_dm] [] (HH mi ml) = some (some (.int (if 0 ≤ sumI (cA mi) 5 then 1 else 0)), HH (if 0 ≤ sumI (cA mi) 5 then ffI mi ml m else mi) (if 0 ≤ sumI (cA mi) 5 then ffJ mi ml m else ml)) := by
  have hs : sumI (fun n => (mi 42 n).toInt) 5 = sumI (cA mi) 5 := rfl
  have hq : ((0 : Int64) ≤ Int64.ofInt (sumI (cA mi) 5)) = (0 ≤ sumI (cA mi) 5) := propext (i64_le (a := 0) (by decide) hA)
  simp only [b_46_e, b_46_11, b_46_34, b_46_58, b_46_64, e_aloadr_0, cc_Circuit_pulledTogether_0, cc_Circuit_pulledTogether_1, cc_Circuit_pulledTogether_2, cc_Circuit_pulledTogether_3, Option.toList_some, Option.toList_none, List.cons_append, List.nil_append, kl_0, e_lcmp, e_if_ge, k_0, e_zret0, e_zret1, e_istore_1, e_kpi, e_kpr, e_kpl, e_kpd, e_jsr, e_iload_1, g_5_34, e_icmp_ge, g_2_34, k_1, is_37, is_40, e_iinc_1, e_goto, cc_Circuit_weigh_0, cc_Circuit_weigh_1, cc_Circuit_weigh_2, cc_Circuit_weigh_3, cc_Circuit_leaveOutTaking_0, cc_Circuit_leaveOutTaking_1, cc_Circuit_leaveOutTaking_2, cc_Circuit_leaveOutTaking_3, e_if_ne, cc_Circuit_leaveOutIdle_0, cc_Circuit_leaveOutIdle_1, cc_Circuit_leaveOutIdle_2, cc_Circuit_leaveOutIdle_3, eq_self, lg_cmp_ge, hs, hq]
  by_cases h0 : 0 ≤ sumI (cA mi) 5
  · simp only [h0, not_true_eq_false, not_false_eq_true, if_true, if_false, true_or, or_true, false_or, or_false, true_and, and_true, false_and, and_false, and_self, or_self, reduceIte, Bool.false_eq_true, i10, i01]
    have hl := loop_up (fun i => ev E 46 (am_B 46 (Int.toNat 13)) [.ref 34, .int (nI i)] [] (HH (saF mi i) ml)) 0 m (fun i _ hi => by
      refine hd b_46_13 ?_
      have hi5 : i < 5 := by omega
      have hm' : saF mi i 34 5 = nI m := by rw [saF_ne (by decide), hm]
      have e1 : saF mi (i + 1) = am_up (saF mi i) 37 i 1 := by
        funext a b
        simp only [am_upa, saF]
        by_cases hb : b = i
        · subst hb
          by_cases ha : a = 37 <;> simp [ha]
        · have : (b < i + 1) = (b < i) := propext ⟨fun q => by omega, fun q => by omega⟩
          simp only [this, hb, and_false, if_false]
      rw [e1]
      simp only [b_46_e, b_46_11, b_46_34, b_46_58, b_46_64, e_aloadr_0, cc_Circuit_pulledTogether_0, cc_Circuit_pulledTogether_1, cc_Circuit_pulledTogether_2, cc_Circuit_pulledTogether_3, Option.toList_some, Option.toList_none, List.cons_append, List.nil_append, kl_0, e_lcmp, e_if_ge, k_0, e_zret0, e_zret1, e_istore_1, e_kpi, e_kpr, e_kpl, e_kpd, e_jsr, e_iload_1, g_5_34, e_icmp_ge, g_2_34, k_1, is_37, is_40, e_iinc_1, e_goto, cc_Circuit_weigh_0, cc_Circuit_weigh_1, cc_Circuit_weigh_2, cc_Circuit_weigh_3, cc_Circuit_leaveOutTaking_0, cc_Circuit_leaveOutTaking_1, cc_Circuit_leaveOutTaking_2, cc_Circuit_leaveOutTaking_3, e_if_ne, cc_Circuit_leaveOutIdle_0, cc_Circuit_leaveOutIdle_1, cc_Circuit_leaveOutIdle_2, cc_Circuit_leaveOutIdle_3, eq_self, hm', lec (show m < 1000 by omega) hi, hi5, not_true_eq_false, not_false_eq_true, if_true, if_false, true_or, or_true, false_or, or_false, true_and, and_true, false_and, and_false, and_self, or_self, reduceIte, Bool.false_eq_true, i10, i01, e_inc1]) (by omega)
    have h00 : saF mi 0 = mi := by funext a b; simp [saF]
    rw [h00] at hl
    refine Eq.trans (show _ = _ from hl) ?_
    have hm' : saF mi m 34 5 = nI m := by rw [saF_ne (by decide), hm]
    simp only [b_46_13, b_46_e, b_46_11, b_46_34, b_46_58, b_46_64, e_aloadr_0, cc_Circuit_pulledTogether_0, cc_Circuit_pulledTogether_1, cc_Circuit_pulledTogether_2, cc_Circuit_pulledTogether_3, Option.toList_some, Option.toList_none, List.cons_append, List.nil_append, kl_0, e_lcmp, e_if_ge, k_0, e_zret0, e_zret1, e_istore_1, e_kpi, e_kpr, e_kpl, e_kpd, e_jsr, e_iload_1, g_5_34, e_icmp_ge, g_2_34, k_1, is_37, is_40, e_iinc_1, e_goto, cc_Circuit_weigh_0, cc_Circuit_weigh_1, cc_Circuit_weigh_2, cc_Circuit_weigh_3, cc_Circuit_leaveOutTaking_0, cc_Circuit_leaveOutTaking_1, cc_Circuit_leaveOutTaking_2, cc_Circuit_leaveOutTaking_3, e_if_ne, cc_Circuit_leaveOutIdle_0, cc_Circuit_leaveOutIdle_1, cc_Circuit_leaveOutIdle_2, cc_Circuit_leaveOutIdle_3, eq_self, hm', lecc, not_true_eq_false, not_false_eq_true, if_true, if_false, true_or, or_true, false_or, or_false, true_and, and_true, false_and, and_false, and_self, or_self, reduceIte, Bool.false_eq_true, i10, i01]
    exact ff_rounds hm5 m 0 _ _ (by omega) hm' (fun n hn => by rw [saF_ne (by decide)]; exact hp n hn) (fun n hn hc => by
        rw [saF_ne (by decide)]
        refine hy n hn ?_
        unfold cTh at hc ⊢
        rwa [saF_ne (by decide)] at hc)
  · simp only [h0, not_true_eq_false, not_false_eq_true, if_true, if_false, true_or, or_true, false_or, or_false, true_and, and_true, false_and, and_false, and_self, or_self, reduceIte, Bool.false_eq_true, i10, i01]
theorem cc_Circuit_findFeeding_0 {M : Nat} {c : List Instr} {L : List Value} {m : Nat} (hm : mi 34 5 = nI m) (hm5 : m ≤ 5) (hp : ∀ n, n < m → bd (mi 36 n)) (hy : ∀ n, n < 5 → cTh mi n = true → bd (mi 41 n)) (hA : -4611686018427387904 ≤ sumI (cA mi) 5 ∧ sumI (cA mi) 5 ≤ 4611686018427387904) : ev E M (.invokevirtual 46 :: c) L (.ref 34 :: []) (HH mi ml) = ev E M c L (.int (if 0 ≤ sumI (cA mi) 5 then 1 else 0) :: []) (HH (if 0 ≤ sumI (cA mi) 5 then ffI mi ml m else mi) (if 0 ≤ sumI (cA mi) 5 then ffJ mi ml m else ml)) := e_inv (as := [.ref 34]) (S := []) rfl rfl (Nat.le_of_ble_eq_true rfl) (rfl) (ct_Circuit_findFeeding hm hm5 hp hy hA)
theorem cc_Circuit_findFeeding_1 {M : Nat} {c : List Instr} {L : List Value} {s0 : Value} {m : Nat} (hm : mi 34 5 = nI m) (hm5 : m ≤ 5) (hp : ∀ n, n < m → bd (mi 36 n)) (hy : ∀ n, n < 5 → cTh mi n = true → bd (mi 41 n)) (hA : -4611686018427387904 ≤ sumI (cA mi) 5 ∧ sumI (cA mi) 5 ≤ 4611686018427387904) : ev E M (.invokevirtual 46 :: c) L (.ref 34 :: [s0]) (HH mi ml) = ev E M c L (.int (if 0 ≤ sumI (cA mi) 5 then 1 else 0) :: [s0]) (HH (if 0 ≤ sumI (cA mi) 5 then ffI mi ml m else mi) (if 0 ≤ sumI (cA mi) 5 then ffJ mi ml m else ml)) := e_inv (as := [.ref 34]) (S := [s0]) rfl rfl (Nat.le_of_ble_eq_true rfl) (rfl) (ct_Circuit_findFeeding hm hm5 hp hy hA)
theorem cc_Circuit_findFeeding_2 {M : Nat} {c : List Instr} {L : List Value} {s0 s1 : Value} {m : Nat} (hm : mi 34 5 = nI m) (hm5 : m ≤ 5) (hp : ∀ n, n < m → bd (mi 36 n)) (hy : ∀ n, n < 5 → cTh mi n = true → bd (mi 41 n)) (hA : -4611686018427387904 ≤ sumI (cA mi) 5 ∧ sumI (cA mi) 5 ≤ 4611686018427387904) : ev E M (.invokevirtual 46 :: c) L (.ref 34 :: [s0, s1]) (HH mi ml) = ev E M c L (.int (if 0 ≤ sumI (cA mi) 5 then 1 else 0) :: [s0, s1]) (HH (if 0 ≤ sumI (cA mi) 5 then ffI mi ml m else mi) (if 0 ≤ sumI (cA mi) 5 then ffJ mi ml m else ml)) := e_inv (as := [.ref 34]) (S := [s0, s1]) rfl rfl (Nat.le_of_ble_eq_true rfl) (rfl) (ct_Circuit_findFeeding hm hm5 hp hy hA)
theorem cc_Circuit_findFeeding_3 {M : Nat} {c : List Instr} {L : List Value} {s0 s1 s2 : Value} {m : Nat} (hm : mi 34 5 = nI m) (hm5 : m ≤ 5) (hp : ∀ n, n < m → bd (mi 36 n)) (hy : ∀ n, n < 5 → cTh mi n = true → bd (mi 41 n)) (hA : -4611686018427387904 ≤ sumI (cA mi) 5 ∧ sumI (cA mi) 5 ≤ 4611686018427387904) : ev E M (.invokevirtual 46 :: c) L (.ref 34 :: [s0, s1, s2]) (HH mi ml) = ev E M c L (.int (if 0 ≤ sumI (cA mi) 5 then 1 else 0) :: [s0, s1, s2]) (HH (if 0 ≤ sumI (cA mi) 5 then ffI mi ml m else mi) (if 0 ≤ sumI (cA mi) 5 then ffJ mi ml m else ml)) := e_inv (as := [.ref 34]) (S := [s0, s1, s2]) rfl rfl (Nat.le_of_ble_eq_true rfl) (rfl) (ct_Circuit_findFeeding hm hm5 hp hy hA)
/-- of those that give back the one that gives back most -/
def gbm (mi : Nat → Nat → Int32) : Nat → Option Nat
  | 0 => none
  | i + 1 => if 0 ≤ mi 42 i then gbm mi i else (match gbm mi i with
    | none => some i
    | some f => if mi 42 f ≤ mi 42 i then some f else some i)
theorem gbm_lt {mi : Nat → Nat → Int32} : ∀ {i f : Nat}, gbm mi i = some f → f < i := by
  intro i
  induction i with
  | zero => intro f h; cases h
  | succ i ih =>
    intro f h
    rw [gbm] at h
    split at h
    · have := ih h; omega
    · split at h
      · cases h; omega
      · rename_i g hg
        have := ih hg
        split at h <;> cases h <;> omega
theorem ct_Circuit_givingBackMost   : ev E 54 (am_B 54 0) [.ref 34, am_dm, am_dm] [] (HH mi ml) = some (some (.int (oI (gbm mi 5))), HH mi ml) := by
  simp only [b_54_e, b_54_37, b_54_39, b_54_45, k_m1, e_istore_1, e_kpi, e_kpr, e_kpl, e_kpd, k_0, e_istore_2, e_jsr, e_iload_2, k_5, e_icmp_ge, e_aloadr_0, g_8_34, il_2, il_5, il_33, il_35, il_36, il_41, il_42, il_tp, il_ta, il_sc, il_po, ik_2_0, ik_2_1, ik_2_2, ik_2_3, ik_2_4, e_if_ge, e_iload_1, e_if_lt, e_iinc_2, e_goto, e_iret, eq_self]
  have hl := loop_up (fun i => ev E 54 (am_B 54 (Int.toNat 4)) [.ref 34, .int (oI (gbm mi i)), .int (nI i)] [] (HH mi ml)) 0 5 (fun i _ hi => by
    refine hd b_54_4 ?_
    rw [gbm]
    by_cases h1 : 0 ≤ mi 42 i
    · simp only [b_54_e, b_54_37, b_54_39, b_54_45, k_m1, e_istore_1, e_kpi, e_kpr, e_kpl, e_kpd, k_0, e_istore_2, e_jsr, e_iload_2, k_5, e_icmp_ge, e_aloadr_0, g_8_34, il_2, il_5, il_33, il_35, il_36, il_41, il_42, il_tp, il_ta, il_sc, il_po, ik_2_0, ik_2_1, ik_2_2, ik_2_3, ik_2_4, e_if_ge, e_iload_1, e_if_lt, e_iinc_2, e_goto, e_iret, eq_self, le5 hi, hi, h1, not_true_eq_false, not_false_eq_true, if_true, if_false, true_or, or_true, false_or, or_false, true_and, and_true, false_and, and_false, and_self, or_self, reduceIte, Bool.false_eq_true, i10, i01, e_inc1]
    · cases hf : gbm mi i with
      | none => simp only [b_54_e, b_54_37, b_54_39, b_54_45, k_m1, e_istore_1, e_kpi, e_kpr, e_kpl, e_kpd, k_0, e_istore_2, e_jsr, e_iload_2, k_5, e_icmp_ge, e_aloadr_0, g_8_34, il_2, il_5, il_33, il_35, il_36, il_41, il_42, il_tp, il_ta, il_sc, il_po, ik_2_0, ik_2_1, ik_2_2, ik_2_3, ik_2_4, e_if_ge, e_iload_1, e_if_lt, e_iinc_2, e_goto, e_iret, eq_self, le5 hi, hi, h1, not_true_eq_false, not_false_eq_true, if_true, if_false, true_or, or_true, false_or, or_false, true_and, and_true, false_and, and_false, and_self, or_self, reduceIte, Bool.false_eq_true, i10, i01, e_inc1, oI_n, oI_s, lt_nN]
      | some f =>
        have hf5 : f < 5 := by have := gbm_lt hf; omega
        by_cases h2 : mi 42 f ≤ mi 42 i
        · simp only [b_54_e, b_54_37, b_54_39, b_54_45, k_m1, e_istore_1, e_kpi, e_kpr, e_kpl, e_kpd, k_0, e_istore_2, e_jsr, e_iload_2, k_5, e_icmp_ge, e_aloadr_0, g_8_34, il_2, il_5, il_33, il_35, il_36, il_41, il_42, il_tp, il_ta, il_sc, il_po, ik_2_0, ik_2_1, ik_2_2, ik_2_3, ik_2_4, e_if_ge, e_iload_1, e_if_lt, e_iinc_2, e_goto, e_iret, eq_self, le5 hi, hi, hf5, h1, h2, not_true_eq_false, not_false_eq_true, if_true, if_false, true_or, or_true, false_or, or_false, true_and, and_true, false_and, and_false, and_self, or_self, reduceIte, Bool.false_eq_true, i10, i01, e_inc1, oI_n, oI_s, lt_sN hf5]
        · simp only [b_54_e, b_54_37, b_54_39, b_54_45, k_m1, e_istore_1, e_kpi, e_kpr, e_kpl, e_kpd, k_0, e_istore_2, e_jsr, e_iload_2, k_5, e_icmp_ge, e_aloadr_0, g_8_34, il_2, il_5, il_33, il_35, il_36, il_41, il_42, il_tp, il_ta, il_sc, il_po, ik_2_0, ik_2_1, ik_2_2, ik_2_3, ik_2_4, e_if_ge, e_iload_1, e_if_lt, e_iinc_2, e_goto, e_iret, eq_self, le5 hi, hi, hf5, h1, h2, not_true_eq_false, not_false_eq_true, if_true, if_false, true_or, or_true, false_or, or_false, true_and, and_true, false_and, and_false, and_self, or_self, reduceIte, Bool.false_eq_true, i10, i01, e_inc1, oI_n, oI_s, lt_sN hf5]) (by decide)
  refine Eq.trans (show _ = _ from hl) ?_
  simp only [b_54_4, b_54_e, b_54_37, b_54_39, b_54_45, k_m1, e_istore_1, e_kpi, e_kpr, e_kpl, e_kpd, k_0, e_istore_2, e_jsr, e_iload_2, k_5, e_icmp_ge, e_aloadr_0, g_8_34, il_2, il_5, il_33, il_35, il_36, il_41, il_42, il_tp, il_ta, il_sc, il_po, ik_2_0, ik_2_1, ik_2_2, ik_2_3, ik_2_4, e_if_ge, e_iload_1, e_if_lt, e_iinc_2, e_goto, e_iret, eq_self, le55, not_true_eq_false, not_false_eq_true, if_true, if_false, true_or, or_true, false_or, or_false, true_and, and_true, false_and, and_false, and_self, or_self, reduceIte, Bool.false_eq_true, i10, i01]
theorem cc_Circuit_givingBackMost_0 {M : Nat} {c : List Instr} {L : List Value}   : ev E M (.invokevirtual 54 :: c) L (.ref 34 :: []) (HH mi ml) = ev E M c L (.int (oI (gbm mi 5)) :: []) (HH mi ml) := e_inv (as := [.ref 34]) (S := []) rfl rfl (Nat.le_of_ble_eq_true rfl) (rfl) (ct_Circuit_givingBackMost )
theorem cc_Circuit_givingBackMost_1 {M : Nat} {c : List Instr} {L : List Value} {s0 : Value}   : ev E M (.invokevirtual 54 :: c) L (.ref 34 :: [s0]) (HH mi ml) = ev E M c L (.int (oI (gbm mi 5)) :: [s0]) (HH mi ml) := e_inv (as := [.ref 34]) (S := [s0]) rfl rfl (Nat.le_of_ble_eq_true rfl) (rfl) (ct_Circuit_givingBackMost )
theorem cc_Circuit_givingBackMost_2 {M : Nat} {c : List Instr} {L : List Value} {s0 s1 : Value}   : ev E M (.invokevirtual 54 :: c) L (.ref 34 :: [s0, s1]) (HH mi ml) = ev E M c L (.int (oI (gbm mi 5)) :: [s0, s1]) (HH mi ml) := e_inv (as := [.ref 34]) (S := [s0, s1]) rfl rfl (Nat.le_of_ble_eq_true rfl) (rfl) (ct_Circuit_givingBackMost )
theorem cc_Circuit_givingBackMost_3 {M : Nat} {c : List Instr} {L : List Value} {s0 s1 s2 : Value}   : ev E M (.invokevirtual 54 :: c) L (.ref 34 :: [s0, s1, s2]) (HH mi ml) = ev E M c L (.int (oI (gbm mi 5)) :: [s0, s1, s2]) (HH mi ml) := e_inv (as := [.ref 34]) (S := [s0, s1, s2]) rfl rfl (Nat.le_of_ble_eq_true rfl) (rfl) (ct_Circuit_givingBackMost )
end Cl7
