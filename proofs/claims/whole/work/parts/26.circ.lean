/-! THE REST OF THE CIRCUIT -/
def bitsF (mi : Nat → Nat → Int32) : Nat → Int32
  | 0 => 0
  | i + 1 => if cF mi i = true then bitsF mi i ||| (1 <<< (mi 35 i &&& 31)) else bitsF mi i
/-- a share becomes what two longs are -/
def shr (ml : Nat → Nat → Int64) (k : Nat) (u l : Int64) : Nat → Nat → Int64 := am_up (am_up ml k 0 u) k 1 l
theorem shr_a {ml : Nat → Nat → Int64} {k a b : Nat} {u l : Int64} : shr ml k u l a b = if a = k ∧ b = 1 then l else if a = k ∧ b = 0 then u else ml a b := by
  unfold shr
  rw [am_upa, am_upa]
theorem shr_0 {ml : Nat → Nat → Int64} {k : Nat} {u l : Int64} : shr ml k u l k 0 = u := by simp [shr_a]
theorem shr_1 {ml : Nat → Nat → Int64} {k : Nat} {u l : Int64} : shr ml k u l k 1 = l := by simp [shr_a]
theorem shr_ne {ml : Nat → Nat → Int64} {k a b : Nat} {u l : Int64} (h : ¬ a = k) : shr ml k u l a b = ml a b := by simp [shr_a, h]
theorem share_ne {k : Nat} (hk : am_LAY[k]? = some (.inl 4)) : ¬ 38 = k ∧ ¬ 39 = k := by
  constructor
  · intro h; subst h; cases hk
  · intro h; subst h; cases hk
def gbF (mi : Nat → Nat → Int32) (ml : Nat → Nat → Int64) (s : Int32) (k : Nat) : Nat → Nat → Nat → Int64
  | 0 => shr ml k 0 1
  | i + 1 => if cF mi i = true ∧ mi 35 i = s then shr (gbF mi ml s k i) k (ml 38 i) (ml 39 i) else gbF mi ml s k i
theorem gbF_ne {mi : Nat → Nat → Int32} {ml : Nat → Nat → Int64} {s : Int32} {k a b : Nat} (h : ¬ a = k) : ∀ i, gbF mi ml s k i a b = ml a b := by
  intro i
  induction i with
  | zero => exact shr_ne h
  | succ i ih =>
    rw [gbF]
    split
    · rw [shr_ne h, ih]
    · exact ih
def rtmF (mi : Nat → Nat → Int32) (ml : Nat → Nat → Int64) (k : Nat) : Nat → Nat → Nat → Int64
  | 0 => ml
  | i + 1 => if cF mi i = true then (if rtmF mi ml k i k 0 * ml 39 i < ml 38 i * rtmF mi ml k i k 1 then shr (shr (rtmF mi ml k i) 43 (ml 38 i) (ml 39 i)) k (ml 38 i) (ml 39 i) else shr (rtmF mi ml k i) 43 (ml 38 i) (ml 39 i)) else rtmF mi ml k i
theorem rtmF_ne {mi : Nat → Nat → Int32} {ml : Nat → Nat → Int64} {k a b : Nat} (h : ¬ a = k) (h2 : ¬ a = 43) : ∀ i, rtmF mi ml k i a b = ml a b := by
  intro i
  induction i with
  | zero => rfl
  | succ i ih =>
    rw [rtmF]
    split
    · split
      · rw [shr_ne h, shr_ne h2, ih]
      · rw [shr_ne h2, ih]
    · exact ih
section Cl9
variable {E : aE} {mi : Nat → Nat → Int32} {ml : Nat → Nat → Int64}
theorem ct_Circuit_bits {m : Nat} (hm : mi 34 5 = nI m) (hm5 : m ≤ 5) : ev E 61 (am_B 61 0) [.ref 34, am_dm, am_dm] [] (HH mi ml) = some (some (.int (bitsF mi m)), HH mi ml) := by
  simp only [b_61_e, b_61_32, b_61_38, k_0, e_istore_1, e_kpi, e_kpr, e_kpl, e_kpd, e_istore_2, e_jsr, e_iload_2, e_aloadr_0, g_5_34, e_icmp_ge, g_2_34, il_37, il_40, e_if_eq, e_iload_1, k_1, g_0_34, il_2, il_5, il_33, il_35, il_36, il_41, il_42, il_tp, il_ta, il_sc, il_po, ik_2_0, ik_2_1, ik_2_2, ik_2_3, ik_2_4, e_ishl, e_ior, e_iinc_2, e_goto, e_iret, eq_self]
  have hl := loop_up (fun i => ev E 61 (am_B 61 (Int.toNat 4)) [.ref 34, .int (bitsF mi i), .int (nI i)] [] (HH mi ml)) 0 m (fun i _ hi => by
    refine hd b_61_4 ?_
    have hi5 : i < 5 := by omega
    rw [bitsF]
    by_cases h1 : mi 37 i = 0
    · have hc : cF mi i = false := by simp [cF, h1]
      simp only [b_61_e, b_61_32, b_61_38, k_0, e_istore_1, e_kpi, e_kpr, e_kpl, e_kpd, e_istore_2, e_jsr, e_iload_2, e_aloadr_0, g_5_34, e_icmp_ge, g_2_34, il_37, il_40, e_if_eq, e_iload_1, k_1, g_0_34, il_2, il_5, il_33, il_35, il_36, il_41, il_42, il_tp, il_ta, il_sc, il_po, ik_2_0, ik_2_1, ik_2_2, ik_2_3, ik_2_4, e_ishl, e_ior, e_iinc_2, e_goto, e_iret, eq_self, hm, lec (show m < 1000 by omega) hi, hi5, h1, hc, not_true_eq_false, not_false_eq_true, if_true, if_false, true_or, or_true, false_or, or_false, true_and, and_true, false_and, and_false, and_self, or_self, reduceIte, Bool.false_eq_true, i10, i01, e_inc1]
    · have hc : cF mi i = true := by simp [cF, h1]
      simp only [b_61_e, b_61_32, b_61_38, k_0, e_istore_1, e_kpi, e_kpr, e_kpl, e_kpd, e_istore_2, e_jsr, e_iload_2, e_aloadr_0, g_5_34, e_icmp_ge, g_2_34, il_37, il_40, e_if_eq, e_iload_1, k_1, g_0_34, il_2, il_5, il_33, il_35, il_36, il_41, il_42, il_tp, il_ta, il_sc, il_po, ik_2_0, ik_2_1, ik_2_2, ik_2_3, ik_2_4, e_ishl, e_ior, e_iinc_2, e_goto, e_iret, eq_self, hm, lec (show m < 1000 by omega) hi, hi5, h1, hc, not_true_eq_false, not_false_eq_true, if_true, if_false, true_or, or_true, false_or, or_false, true_and, and_true, false_and, and_false, and_self, or_self, reduceIte, Bool.false_eq_true, i10, i01, e_inc1]) (by omega)
  refine Eq.trans (show _ = _ from hl) ?_
  simp only [b_61_4, b_61_e, b_61_32, b_61_38, k_0, e_istore_1, e_kpi, e_kpr, e_kpl, e_kpd, e_istore_2, e_jsr, e_iload_2, e_aloadr_0, g_5_34, e_icmp_ge, g_2_34, il_37, il_40, e_if_eq, e_iload_1, k_1, g_0_34, il_2, il_5, il_33, il_35, il_36, il_41, il_42, il_tp, il_ta, il_sc, il_po, ik_2_0, ik_2_1, ik_2_2, ik_2_3, ik_2_4, e_ishl, e_ior, e_iinc_2, e_goto, e_iret, eq_self, hm, lecc, not_true_eq_false, not_false_eq_true, if_true, if_false, true_or, or_true, false_or, or_false, true_and, and_true, false_and, and_false, and_self, or_self, reduceIte, Bool.false_eq_true, i10, i01]
theorem cc_Circuit_bits_0 {M : Nat} {c : List Instr} {L : List Value} {m : Nat} (hm : mi 34 5 = nI m) (hm5 : m ≤ 5) : ev E M (.invokevirtual 61 :: c) L (.ref 34 :: []) (HH mi ml) = ev E M c L (.int (bitsF mi m) :: []) (HH mi ml) := e_inv (as := [.ref 34]) (S := []) rfl rfl (Nat.le_of_ble_eq_true rfl) (rfl) (ct_Circuit_bits hm hm5)
theorem cc_Circuit_bits_1 {M : Nat} {c : List Instr} {L : List Value} {s0 : Value} {m : Nat} (hm : mi 34 5 = nI m) (hm5 : m ≤ 5) : ev E M (.invokevirtual 61 :: c) L (.ref 34 :: [s0]) (HH mi ml) = ev E M c L (.int (bitsF mi m) :: [s0]) (HH mi ml) := e_inv (as := [.ref 34]) (S := [s0]) rfl rfl (Nat.le_of_ble_eq_true rfl) (rfl) (ct_Circuit_bits hm hm5)
theorem cc_Circuit_bits_2 {M : Nat} {c : List Instr} {L : List Value} {s0 s1 : Value} {m : Nat} (hm : mi 34 5 = nI m) (hm5 : m ≤ 5) : ev E M (.invokevirtual 61 :: c) L (.ref 34 :: [s0, s1]) (HH mi ml) = ev E M c L (.int (bitsF mi m) :: [s0, s1]) (HH mi ml) := e_inv (as := [.ref 34]) (S := [s0, s1]) rfl rfl (Nat.le_of_ble_eq_true rfl) (rfl) (ct_Circuit_bits hm hm5)
theorem cc_Circuit_bits_3 {M : Nat} {c : List Instr} {L : List Value} {s0 s1 s2 : Value} {m : Nat} (hm : mi 34 5 = nI m) (hm5 : m ≤ 5) : ev E M (.invokevirtual 61 :: c) L (.ref 34 :: [s0, s1, s2]) (HH mi ml) = ev E M c L (.int (bitsF mi m) :: [s0, s1, s2]) (HH mi ml) := e_inv (as := [.ref 34]) (S := [s0, s1, s2]) rfl rfl (Nat.le_of_ble_eq_true rfl) (rfl) (ct_Circuit_bits hm hm5)
theorem ct_Circuit_givenBy {m k : Nat} {s : Int32} (hk : am_LAY[k]? = some (.inl 4)) (hm : mi 34 5 = nI m) (hm5 : m ≤ 5) : ev E 67 (am_B 67 0) [.ref 34, .int s, .ref k, am_dm] [] (HH mi ml) = some (none, HH mi (gbF mi ml s k m)) := by
  obtain ⟨n38, n39⟩ := share_ne hk
  simp only [b_67_e, b_67_51, b_67_57, e_aloadr_2, kl_0, kl_1, cc_Share_become_0, cc_Share_become_1, cc_Share_become_2, cc_Share_become_3, lay_27, lay_28, lay_30, lay_31, lay_32, lay_43, lay_44, lay_46, lay_49, lay_60, Option.toList_some, Option.toList_none, List.cons_append, List.nil_append, k_0, e_istore_3, e_kpi, e_kpr, e_kpl, e_kpd, e_jsr, e_iload_3, e_aloadr_0, g_5_34, e_icmp_ge, g_2_34, il_37, il_40, e_if_eq, g_0_34, il_2, il_5, il_33, il_35, il_36, il_41, il_42, il_tp, il_ta, il_sc, il_po, ik_2_0, ik_2_1, ik_2_2, ik_2_3, ik_2_4, e_iload_1, e_icmp_ne, g_3_34, il_38, il_39, g_4_34, e_iinc_3, e_goto, e_ret, eq_self, hk]
  have hl := loop_up (fun i => ev E 67 (am_B 67 (Int.toNat 8)) [.ref 34, .int s, .ref k, .int (nI i)] [] (HH mi (gbF mi ml s k i))) 0 m (fun i _ hi => by
    refine hd b_67_8 ?_
    have hi5 : i < 5 := by omega
    have a1 : gbF mi ml s k i 38 i = ml 38 i := gbF_ne n38 i
    have a2 : gbF mi ml s k i 39 i = ml 39 i := gbF_ne n39 i
    rw [gbF]
    by_cases h1 : mi 37 i = 0
    · have hc : cF mi i = false := by simp [cF, h1]
      simp only [b_67_e, b_67_51, b_67_57, e_aloadr_2, kl_0, kl_1, cc_Share_become_0, cc_Share_become_1, cc_Share_become_2, cc_Share_become_3, lay_27, lay_28, lay_30, lay_31, lay_32, lay_43, lay_44, lay_46, lay_49, lay_60, Option.toList_some, Option.toList_none, List.cons_append, List.nil_append, k_0, e_istore_3, e_kpi, e_kpr, e_kpl, e_kpd, e_jsr, e_iload_3, e_aloadr_0, g_5_34, e_icmp_ge, g_2_34, il_37, il_40, e_if_eq, g_0_34, il_2, il_5, il_33, il_35, il_36, il_41, il_42, il_tp, il_ta, il_sc, il_po, ik_2_0, ik_2_1, ik_2_2, ik_2_3, ik_2_4, e_iload_1, e_icmp_ne, g_3_34, il_38, il_39, g_4_34, e_iinc_3, e_goto, e_ret, eq_self, hm, lec (show m < 1000 by omega) hi, hi5, h1, hc, not_true_eq_false, not_false_eq_true, if_true, if_false, true_or, or_true, false_or, or_false, true_and, and_true, false_and, and_false, and_self, or_self, reduceIte, Bool.false_eq_true, i10, i01, e_inc1]
    · have hc : cF mi i = true := by simp [cF, h1]
      by_cases h2 : mi 35 i = s
      · simp only [b_67_e, b_67_51, b_67_57, e_aloadr_2, kl_0, kl_1, cc_Share_become_0, cc_Share_become_1, cc_Share_become_2, cc_Share_become_3, lay_27, lay_28, lay_30, lay_31, lay_32, lay_43, lay_44, lay_46, lay_49, lay_60, Option.toList_some, Option.toList_none, List.cons_append, List.nil_append, k_0, e_istore_3, e_kpi, e_kpr, e_kpl, e_kpd, e_jsr, e_iload_3, e_aloadr_0, g_5_34, e_icmp_ge, g_2_34, il_37, il_40, e_if_eq, g_0_34, il_2, il_5, il_33, il_35, il_36, il_41, il_42, il_tp, il_ta, il_sc, il_po, ik_2_0, ik_2_1, ik_2_2, ik_2_3, ik_2_4, e_iload_1, e_icmp_ne, g_3_34, il_38, il_39, g_4_34, e_iinc_3, e_goto, e_ret, eq_self, hm, lec (show m < 1000 by omega) hi, hi5, h1, hc, h2, hk, a1, a2, not_true_eq_false, not_false_eq_true, if_true, if_false, true_or, or_true, false_or, or_false, true_and, and_true, false_and, and_false, and_self, or_self, reduceIte, Bool.false_eq_true, i10, i01, e_inc1]
        rfl
      · simp only [b_67_e, b_67_51, b_67_57, e_aloadr_2, kl_0, kl_1, cc_Share_become_0, cc_Share_become_1, cc_Share_become_2, cc_Share_become_3, lay_27, lay_28, lay_30, lay_31, lay_32, lay_43, lay_44, lay_46, lay_49, lay_60, Option.toList_some, Option.toList_none, List.cons_append, List.nil_append, k_0, e_istore_3, e_kpi, e_kpr, e_kpl, e_kpd, e_jsr, e_iload_3, e_aloadr_0, g_5_34, e_icmp_ge, g_2_34, il_37, il_40, e_if_eq, g_0_34, il_2, il_5, il_33, il_35, il_36, il_41, il_42, il_tp, il_ta, il_sc, il_po, ik_2_0, ik_2_1, ik_2_2, ik_2_3, ik_2_4, e_iload_1, e_icmp_ne, g_3_34, il_38, il_39, g_4_34, e_iinc_3, e_goto, e_ret, eq_self, hm, lec (show m < 1000 by omega) hi, hi5, h1, hc, h2, not_true_eq_false, not_false_eq_true, if_true, if_false, true_or, or_true, false_or, or_false, true_and, and_true, false_and, and_false, and_self, or_self, reduceIte, Bool.false_eq_true, i10, i01, e_inc1]) (by omega)
  refine Eq.trans (show _ = _ from hl) ?_
  simp only [b_67_8, b_67_e, b_67_51, b_67_57, e_aloadr_2, kl_0, kl_1, cc_Share_become_0, cc_Share_become_1, cc_Share_become_2, cc_Share_become_3, lay_27, lay_28, lay_30, lay_31, lay_32, lay_43, lay_44, lay_46, lay_49, lay_60, Option.toList_some, Option.toList_none, List.cons_append, List.nil_append, k_0, e_istore_3, e_kpi, e_kpr, e_kpl, e_kpd, e_jsr, e_iload_3, e_aloadr_0, g_5_34, e_icmp_ge, g_2_34, il_37, il_40, e_if_eq, g_0_34, il_2, il_5, il_33, il_35, il_36, il_41, il_42, il_tp, il_ta, il_sc, il_po, ik_2_0, ik_2_1, ik_2_2, ik_2_3, ik_2_4, e_iload_1, e_icmp_ne, g_3_34, il_38, il_39, g_4_34, e_iinc_3, e_goto, e_ret, eq_self, hm, lecc, not_true_eq_false, not_false_eq_true, if_true, if_false, true_or, or_true, false_or, or_false, true_and, and_true, false_and, and_false, and_self, or_self, reduceIte, Bool.false_eq_true, i10, i01]
theorem cc_Circuit_givenBy_0 {M : Nat} {c : List Instr} {L : List Value} {m k : Nat} {s : Int32} (hk : am_LAY[k]? = some (.inl 4)) (hm : mi 34 5 = nI m) (hm5 : m ≤ 5) : ev E M (.invokevirtual 67 :: c) L (.ref k :: .int s :: .ref 34 :: []) (HH mi ml) = ev E M c L [] (HH mi (gbF mi ml s k m)) := e_inv (as := [.ref 34, .int s, .ref k]) (S := []) rfl rfl (Nat.le_of_ble_eq_true rfl) (rfl) (ct_Circuit_givenBy hk hm hm5)
theorem cc_Circuit_givenBy_1 {M : Nat} {c : List Instr} {L : List Value} {s0 : Value} {m k : Nat} {s : Int32} (hk : am_LAY[k]? = some (.inl 4)) (hm : mi 34 5 = nI m) (hm5 : m ≤ 5) : ev E M (.invokevirtual 67 :: c) L (.ref k :: .int s :: .ref 34 :: [s0]) (HH mi ml) = ev E M c L [s0] (HH mi (gbF mi ml s k m)) := e_inv (as := [.ref 34, .int s, .ref k]) (S := [s0]) rfl rfl (Nat.le_of_ble_eq_true rfl) (rfl) (ct_Circuit_givenBy hk hm hm5)
theorem cc_Circuit_givenBy_2 {M : Nat} {c : List Instr} {L : List Value} {s0 s1 : Value} {m k : Nat} {s : Int32} (hk : am_LAY[k]? = some (.inl 4)) (hm : mi 34 5 = nI m) (hm5 : m ≤ 5) : ev E M (.invokevirtual 67 :: c) L (.ref k :: .int s :: .ref 34 :: [s0, s1]) (HH mi ml) = ev E M c L [s0, s1] (HH mi (gbF mi ml s k m)) := e_inv (as := [.ref 34, .int s, .ref k]) (S := [s0, s1]) rfl rfl (Nat.le_of_ble_eq_true rfl) (rfl) (ct_Circuit_givenBy hk hm hm5)
theorem cc_Circuit_givenBy_3 {M : Nat} {c : List Instr} {L : List Value} {s0 s1 s2 : Value} {m k : Nat} {s : Int32} (hk : am_LAY[k]? = some (.inl 4)) (hm : mi 34 5 = nI m) (hm5 : m ≤ 5) : ev E M (.invokevirtual 67 :: c) L (.ref k :: .int s :: .ref 34 :: [s0, s1, s2]) (HH mi ml) = ev E M c L [s0, s1, s2] (HH mi (gbF mi ml s k m)) := e_inv (as := [.ref 34, .int s, .ref k]) (S := [s0, s1, s2]) rfl rfl (Nat.le_of_ble_eq_true rfl) (rfl) (ct_Circuit_givenBy hk hm hm5)
theorem ct_Circuit_raiseToMost {m k : Nat} (hk : am_LAY[k]? = some (.inl 4)) (hk3 : ¬ k = 43) (hm : mi 34 5 = nI m) (hm5 : m ≤ 5) : ev E 76 (am_B 76 0) [.ref 34, .ref k, am_dm] [] (HH mi ml) = some (none, HH mi (rtmF mi ml k m)) := by
  obtain ⟨n38, n39⟩ := share_ne hk
  simp only [b_76_e, b_76_65, b_76_71, k_0, e_istore_2, e_kpi, e_kpr, e_kpl, e_kpd, e_jsr, e_iload_2, e_aloadr_0, g_5_34, e_icmp_ge, g_2_34, il_37, il_40, e_if_eq, g_10_34, g_3_34, il_38, il_39, g_4_34, cc_Share_become_0, cc_Share_become_1, cc_Share_become_2, cc_Share_become_3, lay_27, lay_28, lay_30, lay_31, lay_32, lay_43, lay_44, lay_46, lay_49, lay_60, Option.toList_some, Option.toList_none, List.cons_append, List.nil_append, e_aloadr_1, cc_Share_isBelow_0, cc_Share_isBelow_1, cc_Share_isBelow_2, cc_Share_isBelow_3, e_iinc_2, e_goto, e_ret, eq_self]
  have hl := loop_up (fun i => ev E 76 (am_B 76 (Int.toNat 2)) [.ref 34, .ref k, .int (nI i)] [] (HH mi (rtmF mi ml k i))) 0 m (fun i _ hi => by
    refine hd b_76_2 ?_
    have hi5 : i < 5 := by omega
    have a1 : rtmF mi ml k i 38 i = ml 38 i := rtmF_ne n38 (by decide) i
    have a2 : rtmF mi ml k i 39 i = ml 39 i := rtmF_ne n39 (by decide) i
    rw [rtmF]
    generalize rtmF mi ml k i = mq at a1 a2 ⊢
    by_cases h1 : mi 37 i = 0
    · have hc : cF mi i = false := by simp [cF, h1]
      simp only [b_76_e, b_76_65, b_76_71, k_0, e_istore_2, e_kpi, e_kpr, e_kpl, e_kpd, e_jsr, e_iload_2, e_aloadr_0, g_5_34, e_icmp_ge, g_2_34, il_37, il_40, e_if_eq, g_10_34, g_3_34, il_38, il_39, g_4_34, cc_Share_become_0, cc_Share_become_1, cc_Share_become_2, cc_Share_become_3, lay_27, lay_28, lay_30, lay_31, lay_32, lay_43, lay_44, lay_46, lay_49, lay_60, Option.toList_some, Option.toList_none, List.cons_append, List.nil_append, e_aloadr_1, cc_Share_isBelow_0, cc_Share_isBelow_1, cc_Share_isBelow_2, cc_Share_isBelow_3, e_iinc_2, e_goto, e_ret, eq_self, hm, lec (show m < 1000 by omega) hi, hi5, h1, hc, not_true_eq_false, not_false_eq_true, if_true, if_false, true_or, or_true, false_or, or_false, true_and, and_true, false_and, and_false, and_self, or_self, reduceIte, Bool.false_eq_true, i10, i01, e_inc1]
    · have hc : cF mi i = true := by simp [cF, h1]
      have b0 : ∀ u l, am_up (am_up mq 43 0 u) 43 1 l = shr mq 43 u l := fun _ _ => rfl
      have b1 : ∀ u l, am_up (am_up (shr mq 43 u l) k 0 u) k 1 l = shr (shr mq 43 u l) k u l := fun _ _ => rfl
      by_cases h2 : mq k 0 * ml 39 i < ml 38 i * mq k 1
      · simp only [b_76_e, b_76_65, b_76_71, k_0, e_istore_2, e_kpi, e_kpr, e_kpl, e_kpd, e_jsr, e_iload_2, e_aloadr_0, g_5_34, e_icmp_ge, g_2_34, il_37, il_40, e_if_eq, g_10_34, g_3_34, il_38, il_39, g_4_34, cc_Share_become_0, cc_Share_become_1, cc_Share_become_2, cc_Share_become_3, lay_27, lay_28, lay_30, lay_31, lay_32, lay_43, lay_44, lay_46, lay_49, lay_60, Option.toList_some, Option.toList_none, List.cons_append, List.nil_append, e_aloadr_1, cc_Share_isBelow_0, cc_Share_isBelow_1, cc_Share_isBelow_2, cc_Share_isBelow_3, e_iinc_2, e_goto, e_ret, eq_self, hm, lec (show m < 1000 by omega) hi, hi5, h1, hc, cc_Share_become_0 lay_43, cc_Share_isBelow_0 hk lay_43, cc_Share_become_0 hk, a1, a2, b0, b1, shr_ne hk3, shr_ne (show ¬ 38 = 43 by decide), shr_ne (show ¬ 39 = 43 by decide), shr_0, shr_1, bz0, h2, not_true_eq_false, not_false_eq_true, if_true, if_false, true_or, or_true, false_or, or_false, true_and, and_true, false_and, and_false, and_self, or_self, reduceIte, Bool.false_eq_true, i10, i01, e_inc1]
      · simp only [b_76_e, b_76_65, b_76_71, k_0, e_istore_2, e_kpi, e_kpr, e_kpl, e_kpd, e_jsr, e_iload_2, e_aloadr_0, g_5_34, e_icmp_ge, g_2_34, il_37, il_40, e_if_eq, g_10_34, g_3_34, il_38, il_39, g_4_34, cc_Share_become_0, cc_Share_become_1, cc_Share_become_2, cc_Share_become_3, lay_27, lay_28, lay_30, lay_31, lay_32, lay_43, lay_44, lay_46, lay_49, lay_60, Option.toList_some, Option.toList_none, List.cons_append, List.nil_append, e_aloadr_1, cc_Share_isBelow_0, cc_Share_isBelow_1, cc_Share_isBelow_2, cc_Share_isBelow_3, e_iinc_2, e_goto, e_ret, eq_self, hm, lec (show m < 1000 by omega) hi, hi5, h1, hc, cc_Share_become_0 lay_43, cc_Share_isBelow_0 hk lay_43, cc_Share_become_0 hk, a1, a2, b0, b1, shr_ne hk3, shr_ne (show ¬ 38 = 43 by decide), shr_ne (show ¬ 39 = 43 by decide), shr_0, shr_1, bz0, h2, not_true_eq_false, not_false_eq_true, if_true, if_false, true_or, or_true, false_or, or_false, true_and, and_true, false_and, and_false, and_self, or_self, reduceIte, Bool.false_eq_true, i10, i01, e_inc1]) (by omega)
  refine Eq.trans (show _ = _ from hl) ?_
  simp only [b_76_2, b_76_e, b_76_65, b_76_71, k_0, e_istore_2, e_kpi, e_kpr, e_kpl, e_kpd, e_jsr, e_iload_2, e_aloadr_0, g_5_34, e_icmp_ge, g_2_34, il_37, il_40, e_if_eq, g_10_34, g_3_34, il_38, il_39, g_4_34, cc_Share_become_0, cc_Share_become_1, cc_Share_become_2, cc_Share_become_3, lay_27, lay_28, lay_30, lay_31, lay_32, lay_43, lay_44, lay_46, lay_49, lay_60, Option.toList_some, Option.toList_none, List.cons_append, List.nil_append, e_aloadr_1, cc_Share_isBelow_0, cc_Share_isBelow_1, cc_Share_isBelow_2, cc_Share_isBelow_3, e_iinc_2, e_goto, e_ret, eq_self, hm, lecc, not_true_eq_false, not_false_eq_true, if_true, if_false, true_or, or_true, false_or, or_false, true_and, and_true, false_and, and_false, and_self, or_self, reduceIte, Bool.false_eq_true, i10, i01]
theorem cc_Circuit_raiseToMost_0 {M : Nat} {c : List Instr} {L : List Value} {m k : Nat} (hk : am_LAY[k]? = some (.inl 4)) (hk3 : ¬ k = 43) (hm : mi 34 5 = nI m) (hm5 : m ≤ 5) : ev E M (.invokevirtual 76 :: c) L (.ref k :: .ref 34 :: []) (HH mi ml) = ev E M c L [] (HH mi (rtmF mi ml k m)) := e_inv (as := [.ref 34, .ref k]) (S := []) rfl rfl (Nat.le_of_ble_eq_true rfl) (rfl) (ct_Circuit_raiseToMost hk hk3 hm hm5)
theorem cc_Circuit_raiseToMost_1 {M : Nat} {c : List Instr} {L : List Value} {s0 : Value} {m k : Nat} (hk : am_LAY[k]? = some (.inl 4)) (hk3 : ¬ k = 43) (hm : mi 34 5 = nI m) (hm5 : m ≤ 5) : ev E M (.invokevirtual 76 :: c) L (.ref k :: .ref 34 :: [s0]) (HH mi ml) = ev E M c L [s0] (HH mi (rtmF mi ml k m)) := e_inv (as := [.ref 34, .ref k]) (S := [s0]) rfl rfl (Nat.le_of_ble_eq_true rfl) (rfl) (ct_Circuit_raiseToMost hk hk3 hm hm5)
theorem cc_Circuit_raiseToMost_2 {M : Nat} {c : List Instr} {L : List Value} {s0 s1 : Value} {m k : Nat} (hk : am_LAY[k]? = some (.inl 4)) (hk3 : ¬ k = 43) (hm : mi 34 5 = nI m) (hm5 : m ≤ 5) : ev E M (.invokevirtual 76 :: c) L (.ref k :: .ref 34 :: [s0, s1]) (HH mi ml) = ev E M c L [s0, s1] (HH mi (rtmF mi ml k m)) := e_inv (as := [.ref 34, .ref k]) (S := [s0, s1]) rfl rfl (Nat.le_of_ble_eq_true rfl) (rfl) (ct_Circuit_raiseToMost hk hk3 hm hm5)
theorem cc_Circuit_raiseToMost_3 {M : Nat} {c : List Instr} {L : List Value} {s0 s1 s2 : Value} {m k : Nat} (hk : am_LAY[k]? = some (.inl 4)) (hk3 : ¬ k = 43) (hm : mi 34 5 = nI m) (hm5 : m ≤ 5) : ev E M (.invokevirtual 76 :: c) L (.ref k :: .ref 34 :: [s0, s1, s2]) (HH mi ml) = ev E M c L [s0, s1, s2] (HH mi (rtmF mi ml k m)) := e_inv (as := [.ref 34, .ref k]) (S := [s0, s1, s2]) rfl rfl (Nat.le_of_ble_eq_true rfl) (rfl) (ct_Circuit_raiseToMost hk hk3 hm hm5)
end Cl9
