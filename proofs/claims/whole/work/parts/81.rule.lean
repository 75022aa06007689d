/-! rule -/
def loN (w : Nat) : Int32 := if w = 2 ∨ w = 3 then 100 else 1
def hiN (w : Nat) : Int32 := if w = 0 then 200 else if w = 1 then 20 else if w = 3 then 3000 else 2000
theorem k24' {k : Nat} (h : k ≤ 5) : (24 : Int32) * nI k = nI (24 * k) := by
  have : ∀ k, k < 6 → (24 : Int32) * nI k = nI (24 * k) := by decide +kernel
  exact this k (by omega)
theorem five {w : Nat} (h : w < 5) : w = 0 ∨ w = 1 ∨ w = 2 ∨ w = 3 ∨ w = 4 := by omega
theorem mo_0 : am_tsw 43 0 3 #[32, 36, 43, 39] (nI 0) = Int.toNat 32 := by decide +kernel
theorem mo_1 : am_tsw 43 0 3 #[32, 36, 43, 39] (nI 1) = Int.toNat 36 := by decide +kernel
theorem mo_2 : am_tsw 43 0 3 #[32, 36, 43, 39] (nI 2) = Int.toNat 43 := by decide +kernel
theorem mo_3 : am_tsw 43 0 3 #[32, 36, 43, 39] (nI 3) = Int.toNat 39 := by decide +kernel
theorem mo_4 : am_tsw 43 0 3 #[32, 36, 43, 39] (nI 4) = Int.toNat 43 := by decide +kernel
theorem ag_0 : am_tsw 100 0 4 #[36, 100, 42, 68, 84] (nI 0) = Int.toNat 36 := by decide +kernel
theorem ag_1 : am_tsw 100 0 4 #[36, 100, 42, 68, 84] (nI 1) = Int.toNat 100 := by decide +kernel
theorem ag_2 : am_tsw 100 0 4 #[36, 100, 42, 68, 84] (nI 2) = Int.toNat 42 := by decide +kernel
theorem ag_3 : am_tsw 100 0 4 #[36, 100, 42, 68, 84] (nI 3) = Int.toNat 68 := by decide +kernel
theorem ag_4 : am_tsw 100 0 4 #[36, 100, 42, 68, 84] (nI 4) = Int.toNat 84 := by decide +kernel
theorem q2_0 : (nI 0 = 2) = False := by decide +kernel
theorem q2_1 : (nI 1 = 2) = False := by decide +kernel
theorem q2_2 : (nI 2 = 2) = True := by decide +kernel
theorem q2_3 : (nI 3 = 2) = False := by decide +kernel
theorem q2_4 : (nI 4 = 2) = False := by decide +kernel
theorem q3_0 : (nI 0 = 3) = False := by decide +kernel
theorem q3_1 : (nI 1 = 3) = False := by decide +kernel
theorem q3_3 : (nI 3 = 3) = True := by decide +kernel
theorem q3_4 : (nI 4 = 3) = False := by decide +kernel
section Ru
variable {E : aE} {mi : Nat → Nat → Int32} {ml : Nat → Nat → Int64}
theorem ct_M_leastOf {w : Nat} (hw : w < 5) : ev E 115 (am_B 115 0) [.int (nI w)] [] (HH mi ml) = some (some (.int (loN w)), HH mi ml) := by
  rcases five hw with rfl | rfl | rfl | rfl | rfl
  · simp only [b_115_e, b_115_10, b_115_15, b_115_16, e_iload_0, k_2, e_icmp_eq, k_3, e_icmp_ne, e_jsr, k_100, e_goto, k_1, e_iret, eq_self, q2_0, q3_0, loN, show ((0 : Nat) = 2 ∨ (0 : Nat) = 3) = False by decide, not_true_eq_false, not_false_eq_true, if_true, if_false, true_or, or_true, false_or, or_false, true_and, and_true, false_and, and_false, and_self, or_self, reduceIte, Bool.false_eq_true, i10, i01]
  · simp only [b_115_e, b_115_10, b_115_15, b_115_16, e_iload_0, k_2, e_icmp_eq, k_3, e_icmp_ne, e_jsr, k_100, e_goto, k_1, e_iret, eq_self, q2_1, q3_1, loN, show ((1 : Nat) = 2 ∨ (1 : Nat) = 3) = False by decide, not_true_eq_false, not_false_eq_true, if_true, if_false, true_or, or_true, false_or, or_false, true_and, and_true, false_and, and_false, and_self, or_self, reduceIte, Bool.false_eq_true, i10, i01]
  · simp only [b_115_e, b_115_10, b_115_15, b_115_16, e_iload_0, k_2, e_icmp_eq, k_3, e_icmp_ne, e_jsr, k_100, e_goto, k_1, e_iret, eq_self, q2_2, loN, not_true_eq_false, not_false_eq_true, if_true, if_false, true_or, or_true, false_or, or_false, true_and, and_true, false_and, and_false, and_self, or_self, reduceIte, Bool.false_eq_true, i10, i01]
  · simp only [b_115_e, b_115_10, b_115_15, b_115_16, e_iload_0, k_2, e_icmp_eq, k_3, e_icmp_ne, e_jsr, k_100, e_goto, k_1, e_iret, eq_self, q2_3, q3_3, loN, not_true_eq_false, not_false_eq_true, if_true, if_false, true_or, or_true, false_or, or_false, true_and, and_true, false_and, and_false, and_self, or_self, reduceIte, Bool.false_eq_true, i10, i01]
  · simp only [b_115_e, b_115_10, b_115_15, b_115_16, e_iload_0, k_2, e_icmp_eq, k_3, e_icmp_ne, e_jsr, k_100, e_goto, k_1, e_iret, eq_self, q2_4, q3_4, loN, show ((4 : Nat) = 2 ∨ (4 : Nat) = 3) = False by decide, not_true_eq_false, not_false_eq_true, if_true, if_false, true_or, or_true, false_or, or_false, true_and, and_true, false_and, and_false, and_self, or_self, reduceIte, Bool.false_eq_true, i10, i01]
theorem cc_M_leastOf_0 {M : Nat} {c : List Instr} {L : List Value} {w : Nat} (hw : w < 5) : ev E M (.invokevirtual 115 :: c) L (.int (nI w) :: []) (HH mi ml) = ev E M c L (.int (loN w) :: []) (HH mi ml) := e_inv (as := [.int (nI w)]) (S := []) rfl rfl (Nat.le_of_ble_eq_true rfl) (rfl) (ct_M_leastOf hw)
theorem cc_M_leastOf_1 {M : Nat} {c : List Instr} {L : List Value} {s0 : Value} {w : Nat} (hw : w < 5) : ev E M (.invokevirtual 115 :: c) L (.int (nI w) :: [s0]) (HH mi ml) = ev E M c L (.int (loN w) :: [s0]) (HH mi ml) := e_inv (as := [.int (nI w)]) (S := [s0]) rfl rfl (Nat.le_of_ble_eq_true rfl) (rfl) (ct_M_leastOf hw)
theorem cc_M_leastOf_2 {M : Nat} {c : List Instr} {L : List Value} {s0 s1 : Value} {w : Nat} (hw : w < 5) : ev E M (.invokevirtual 115 :: c) L (.int (nI w) :: [s0, s1]) (HH mi ml) = ev E M c L (.int (loN w) :: [s0, s1]) (HH mi ml) := e_inv (as := [.int (nI w)]) (S := [s0, s1]) rfl rfl (Nat.le_of_ble_eq_true rfl) (rfl) (ct_M_leastOf hw)
theorem cc_M_leastOf_3 {M : Nat} {c : List Instr} {L : List Value} {s0 s1 s2 : Value} {w : Nat} (hw : w < 5) : ev E M (.invokevirtual 115 :: c) L (.int (nI w) :: [s0, s1, s2]) (HH mi ml) = ev E M c L (.int (loN w) :: [s0, s1, s2]) (HH mi ml) := e_inv (as := [.int (nI w)]) (S := [s0, s1, s2]) rfl rfl (Nat.le_of_ble_eq_true rfl) (rfl) (ct_M_leastOf hw)
theorem ct_M_mostOf {w : Nat} (hw : w < 5) : ev E 116 (am_B 116 0) [.int (nI w)] [] (HH mi ml) = some (some (.int (hiN w)), HH mi ml) := by
  rcases five hw with rfl | rfl | rfl | rfl | rfl
  · simp only [b_116_e, b_116_32, b_116_36, b_116_39, b_116_43, e_iload_0, e_tsw, k_200, e_iret, k_20, k_3000, k_2000, eq_self, mo_0]; rfl
  · simp only [b_116_e, b_116_32, b_116_36, b_116_39, b_116_43, e_iload_0, e_tsw, k_200, e_iret, k_20, k_3000, k_2000, eq_self, mo_1]; rfl
  · simp only [b_116_e, b_116_32, b_116_36, b_116_39, b_116_43, e_iload_0, e_tsw, k_200, e_iret, k_20, k_3000, k_2000, eq_self, mo_2]; rfl
  · simp only [b_116_e, b_116_32, b_116_36, b_116_39, b_116_43, e_iload_0, e_tsw, k_200, e_iret, k_20, k_3000, k_2000, eq_self, mo_3]; rfl
  · simp only [b_116_e, b_116_32, b_116_36, b_116_39, b_116_43, e_iload_0, e_tsw, k_200, e_iret, k_20, k_3000, k_2000, eq_self, mo_4]; rfl
theorem cc_M_mostOf_0 {M : Nat} {c : List Instr} {L : List Value} {w : Nat} (hw : w < 5) : ev E M (.invokevirtual 116 :: c) L (.int (nI w) :: []) (HH mi ml) = ev E M c L (.int (hiN w) :: []) (HH mi ml) := e_inv (as := [.int (nI w)]) (S := []) rfl rfl (Nat.le_of_ble_eq_true rfl) (rfl) (ct_M_mostOf hw)
theorem cc_M_mostOf_1 {M : Nat} {c : List Instr} {L : List Value} {s0 : Value} {w : Nat} (hw : w < 5) : ev E M (.invokevirtual 116 :: c) L (.int (nI w) :: [s0]) (HH mi ml) = ev E M c L (.int (hiN w) :: [s0]) (HH mi ml) := e_inv (as := [.int (nI w)]) (S := [s0]) rfl rfl (Nat.le_of_ble_eq_true rfl) (rfl) (ct_M_mostOf hw)
theorem cc_M_mostOf_2 {M : Nat} {c : List Instr} {L : List Value} {s0 s1 : Value} {w : Nat} (hw : w < 5) : ev E M (.invokevirtual 116 :: c) L (.int (nI w) :: [s0, s1]) (HH mi ml) = ev E M c L (.int (hiN w) :: [s0, s1]) (HH mi ml) := e_inv (as := [.int (nI w)]) (S := [s0, s1]) rfl rfl (Nat.le_of_ble_eq_true rfl) (rfl) (ct_M_mostOf hw)
theorem cc_M_mostOf_3 {M : Nat} {c : List Instr} {L : List Value} {s0 s1 s2 : Value} {w : Nat} (hw : w < 5) : ev E M (.invokevirtual 116 :: c) L (.int (nI w) :: [s0, s1, s2]) (HH mi ml) = ev E M c L (.int (hiN w) :: [s0, s1, s2]) (HH mi ml) := e_inv (as := [.int (nI w)]) (S := [s0, s1, s2]) rfl rfl (Nat.le_of_ble_eq_true rfl) (rfl) (ct_M_mostOf hw)
def bydM (mi : Nat → Nat → Int32) (n nt : Nat) (v : Int32) : Bool := anyB (fun s => decide (v < mi 64 s)) n || anyB (fun j => decide (v + 1 < mi 67 j)) (24 * nt)
theorem ct_M_isBeyond {n nt : Nat} {v : Int32} (hn : mi 61 3 = nI n) (hn5 : n ≤ 5) (ht : mi 61 8 = nI nt) (ht5 : nt ≤ 5) : ev E 118 (am_B 118 0) [.ref 61, .int v, am_dm] [] (HH mi ml) = some (some (.int (if bydM mi n nt v = true then 1 else 0)), HH mi ml) := by
  simp only [b_118_e, b_118_22, b_118_28, b_118_55, b_118_61, k_0, e_istore_2, e_kpi, e_kpr, e_kpl, e_kpd, e_jsr, e_iload_2, e_aloadr_0, g_579_61, e_icmp_ge, g_581_61, il_62, il_63, il_64, il_66, il_67, il_68, il_69, il_70, il_71, il_72, il_73, il_74, il_75, il_76, il_77, ik_62_0, ik_62_1, ik_62_2, ik_62_3, ik_62_4, ik_73_0, ik_74_0, e_iload_1, e_icmp_le, k_1, e_zret0, e_zret1, e_iinc_2, e_goto, k_24, g_584_61, e_imul, g_585_61, e_iadd, eq_self]
  have hmid : ev E 118 (am_B 118 (Int.toNat 30)) [.ref 61, .int v, .int (nI 0)] [] (HH mi ml) = if anyB (fun j => decide (v + 1 < mi 67 j)) (24 * nt) = true then some (some (.int 1), HH mi ml) else some (some (.int 0), HH mi ml) := by
    refine loop_any (fun i => ev E 118 (am_B 118 (Int.toNat 30)) [.ref 61, .int v, .int (nI i)] [] (HH mi ml)) (fun j => decide (v + 1 < mi 67 j)) _ _ (24 * nt) (fun i hi => ?_) ?_
    · refine hd b_118_30 ?_
      have hi2 : i < 120 := by omega
      by_cases h1 : mi 67 i ≤ v + 1
      · simp only [b_118_e, b_118_22, b_118_28, b_118_55, b_118_61, k_0, e_istore_2, e_kpi, e_kpr, e_kpl, e_kpd, e_jsr, e_iload_2, e_aloadr_0, g_579_61, e_icmp_ge, g_581_61, il_62, il_63, il_64, il_66, il_67, il_68, il_69, il_70, il_71, il_72, il_73, il_74, il_75, il_76, il_77, ik_62_0, ik_62_1, ik_62_2, ik_62_3, ik_62_4, ik_73_0, ik_74_0, e_iload_1, e_icmp_le, k_1, e_zret0, e_zret1, e_iinc_2, e_goto, k_24, g_584_61, e_imul, g_585_61, e_iadd, eq_self, ht, k24' ht5, lec (show 24 * nt < 1000 by omega) hi, hi2, h1, Int32.not_lt.mpr h1, decide_false, not_true_eq_false, not_false_eq_true, if_true, if_false, true_or, or_true, false_or, or_false, true_and, and_true, false_and, and_false, and_self, or_self, reduceIte, Bool.false_eq_true, i10, i01, e_inc1]
      · simp only [b_118_e, b_118_22, b_118_28, b_118_55, b_118_61, k_0, e_istore_2, e_kpi, e_kpr, e_kpl, e_kpd, e_jsr, e_iload_2, e_aloadr_0, g_579_61, e_icmp_ge, g_581_61, il_62, il_63, il_64, il_66, il_67, il_68, il_69, il_70, il_71, il_72, il_73, il_74, il_75, il_76, il_77, ik_62_0, ik_62_1, ik_62_2, ik_62_3, ik_62_4, ik_73_0, ik_74_0, e_iload_1, e_icmp_le, k_1, e_zret0, e_zret1, e_iinc_2, e_goto, k_24, g_584_61, e_imul, g_585_61, e_iadd, eq_self, ht, k24' ht5, lec (show 24 * nt < 1000 by omega) hi, hi2, h1, Int32.not_le.mp h1, decide_true, not_true_eq_false, not_false_eq_true, if_true, if_false, true_or, or_true, false_or, or_false, true_and, and_true, false_and, and_false, and_self, or_self, reduceIte, Bool.false_eq_true, i10, i01, e_inc1]
    · refine hd b_118_30 ?_
      simp only [b_118_e, b_118_22, b_118_28, b_118_55, b_118_61, k_0, e_istore_2, e_kpi, e_kpr, e_kpl, e_kpd, e_jsr, e_iload_2, e_aloadr_0, g_579_61, e_icmp_ge, g_581_61, il_62, il_63, il_64, il_66, il_67, il_68, il_69, il_70, il_71, il_72, il_73, il_74, il_75, il_76, il_77, ik_62_0, ik_62_1, ik_62_2, ik_62_3, ik_62_4, ik_73_0, ik_74_0, e_iload_1, e_icmp_le, k_1, e_zret0, e_zret1, e_iinc_2, e_goto, k_24, g_584_61, e_imul, g_585_61, e_iadd, eq_self, ht, k24' ht5, lecc, not_true_eq_false, not_false_eq_true, if_true, if_false, true_or, or_true, false_or, or_false, true_and, and_true, false_and, and_false, and_self, or_self, reduceIte, Bool.false_eq_true, i10, i01]
  have hl := loop_any (fun i => ev E 118 (am_B 118 (Int.toNat 2)) [.ref 61, .int v, .int (nI i)] [] (HH mi ml)) (fun s => decide (v < mi 64 s)) (some (some (.int 1), HH mi ml)) (if anyB (fun j => decide (v + 1 < mi 67 j)) (24 * nt) = true then some (some (.int 1), HH mi ml) else some (some (.int 0), HH mi ml)) n (fun i hi => by
    refine hd b_118_2 ?_
    have hi6 : i < 6 := by omega
    by_cases h1 : mi 64 i ≤ v
    · simp only [b_118_e, b_118_22, b_118_28, b_118_55, b_118_61, k_0, e_istore_2, e_kpi, e_kpr, e_kpl, e_kpd, e_jsr, e_iload_2, e_aloadr_0, g_579_61, e_icmp_ge, g_581_61, il_62, il_63, il_64, il_66, il_67, il_68, il_69, il_70, il_71, il_72, il_73, il_74, il_75, il_76, il_77, ik_62_0, ik_62_1, ik_62_2, ik_62_3, ik_62_4, ik_73_0, ik_74_0, e_iload_1, e_icmp_le, k_1, e_zret0, e_zret1, e_iinc_2, e_goto, k_24, g_584_61, e_imul, g_585_61, e_iadd, eq_self, hn, lec (show n < 1000 by omega) hi, hi6, h1, Int32.not_lt.mpr h1, decide_false, not_true_eq_false, not_false_eq_true, if_true, if_false, true_or, or_true, false_or, or_false, true_and, and_true, false_and, and_false, and_self, or_self, reduceIte, Bool.false_eq_true, i10, i01, e_inc1]
    · simp only [b_118_e, b_118_22, b_118_28, b_118_55, b_118_61, k_0, e_istore_2, e_kpi, e_kpr, e_kpl, e_kpd, e_jsr, e_iload_2, e_aloadr_0, g_579_61, e_icmp_ge, g_581_61, il_62, il_63, il_64, il_66, il_67, il_68, il_69, il_70, il_71, il_72, il_73, il_74, il_75, il_76, il_77, ik_62_0, ik_62_1, ik_62_2, ik_62_3, ik_62_4, ik_73_0, ik_74_0, e_iload_1, e_icmp_le, k_1, e_zret0, e_zret1, e_iinc_2, e_goto, k_24, g_584_61, e_imul, g_585_61, e_iadd, eq_self, hn, lec (show n < 1000 by omega) hi, hi6, h1, Int32.not_le.mp h1, decide_true, not_true_eq_false, not_false_eq_true, if_true, if_false, true_or, or_true, false_or, or_false, true_and, and_true, false_and, and_false, and_self, or_self, reduceIte, Bool.false_eq_true, i10, i01, e_inc1]) (by
    refine hd b_118_2 ?_
    simp only [b_118_e, b_118_22, b_118_28, b_118_55, b_118_61, k_0, e_istore_2, e_kpi, e_kpr, e_kpl, e_kpd, e_jsr, e_iload_2, e_aloadr_0, g_579_61, e_icmp_ge, g_581_61, il_62, il_63, il_64, il_66, il_67, il_68, il_69, il_70, il_71, il_72, il_73, il_74, il_75, il_76, il_77, ik_62_0, ik_62_1, ik_62_2, ik_62_3, ik_62_4, ik_73_0, ik_74_0, e_iload_1, e_icmp_le, k_1, e_zret0, e_zret1, e_iinc_2, e_goto, k_24, g_584_61, e_imul, g_585_61, e_iadd, eq_self, hn, lecc, not_true_eq_false, not_false_eq_true, if_true, if_false, true_or, or_true, false_or, or_false, true_and, and_true, false_and, and_false, and_self, or_self, reduceIte, Bool.false_eq_true, i10, i01]
    exact hmid)
  refine Eq.trans (show _ = _ from hl) ?_
  unfold bydM
  by_cases h1 : anyB (fun s => decide (v < mi 64 s)) n = true
  · simp [h1]
  · by_cases h2 : anyB (fun j => decide (v + 1 < mi 67 j)) (24 * nt) = true
    · simp [h1, h2]
    · simp [h1, h2]
theorem cc_M_isBeyond_0 {M : Nat} {c : List Instr} {L : List Value} {n nt : Nat} {v : Int32} (hn : mi 61 3 = nI n) (hn5 : n ≤ 5) (ht : mi 61 8 = nI nt) (ht5 : nt ≤ 5) : ev E M (.invokevirtual 118 :: c) L (.int v :: .ref 61 :: []) (HH mi ml) = ev E M c L (.int (if bydM mi n nt v = true then 1 else 0) :: []) (HH mi ml) := e_inv (as := [.ref 61, .int v]) (S := []) rfl rfl (Nat.le_of_ble_eq_true rfl) (rfl) (ct_M_isBeyond hn hn5 ht ht5)
theorem cc_M_isBeyond_1 {M : Nat} {c : List Instr} {L : List Value} {s0 : Value} {n nt : Nat} {v : Int32} (hn : mi 61 3 = nI n) (hn5 : n ≤ 5) (ht : mi 61 8 = nI nt) (ht5 : nt ≤ 5) : ev E M (.invokevirtual 118 :: c) L (.int v :: .ref 61 :: [s0]) (HH mi ml) = ev E M c L (.int (if bydM mi n nt v = true then 1 else 0) :: [s0]) (HH mi ml) := e_inv (as := [.ref 61, .int v]) (S := [s0]) rfl rfl (Nat.le_of_ble_eq_true rfl) (rfl) (ct_M_isBeyond hn hn5 ht ht5)
theorem cc_M_isBeyond_2 {M : Nat} {c : List Instr} {L : List Value} {s0 s1 : Value} {n nt : Nat} {v : Int32} (hn : mi 61 3 = nI n) (hn5 : n ≤ 5) (ht : mi 61 8 = nI nt) (ht5 : nt ≤ 5) : ev E M (.invokevirtual 118 :: c) L (.int v :: .ref 61 :: [s0, s1]) (HH mi ml) = ev E M c L (.int (if bydM mi n nt v = true then 1 else 0) :: [s0, s1]) (HH mi ml) := e_inv (as := [.ref 61, .int v]) (S := [s0, s1]) rfl rfl (Nat.le_of_ble_eq_true rfl) (rfl) (ct_M_isBeyond hn hn5 ht ht5)
theorem cc_M_isBeyond_3 {M : Nat} {c : List Instr} {L : List Value} {s0 s1 s2 : Value} {n nt : Nat} {v : Int32} (hn : mi 61 3 = nI n) (hn5 : n ≤ 5) (ht : mi 61 8 = nI nt) (ht5 : nt ≤ 5) : ev E M (.invokevirtual 118 :: c) L (.int v :: .ref 61 :: [s0, s1, s2]) (HH mi ml) = ev E M c L (.int (if bydM mi n nt v = true then 1 else 0) :: [s0, s1, s2]) (HH mi ml) := e_inv (as := [.ref 61, .int v]) (S := [s0, s1, s2]) rfl rfl (Nat.le_of_ble_eq_true rfl) (rfl) (ct_M_isBeyond hn hn5 ht ht5)
variable {q : Nat → Nat → Int32} {s : Nat → Nat → Int64} {n nt : Nat}
theorem byd_eq (hi : INV q s n nt) {v : Int32} (hv : 1 ≤ v.toInt ∧ v.toInt ≤ 200) : bydM q n nt v = byd q n nt v := by
  obtain ⟨⟨l1, l2⟩, ⟨l3, l4⟩, ⟨l5, l6⟩, l7⟩ := lay_b hi
  obtain ⟨r1, r2, r3, w1, w2, w3, w4⟩ := (iR_raw l4).mp hi.2.1
  obtain ⟨⟨⟨a1, a1b⟩, a2, a3, a4, a5⟩, a6, a7, a8, a9, a10⟩ := iA_raw.mp hi.1
  have h1i : (1 : Int32).toInt = 1 := rfl
  have hv1 : (v + 1).toInt = v.toInt + 1 := by rw [Int32.toInt_add, h1i, Int.bmod_eq_of_le (by omega) (by omega)]
  have key : ∀ k, k < nt → ∀ t, t < 24 → (v + 1 < q 67 (24 * k + t) ↔ v < tP q k t) := fun k hk t ht => by
    rw [(w3 k hk t ht).1]
    rw [Int32.lt_iff_toInt_lt, Int32.lt_iff_toInt_lt, hv1]
    have hb : (tP q k t + 1).toInt = (tP q k t).toInt + 1 := by
      rcases a4.2 k hk t ht with z | ⟨z, _⟩
      · rw [z]; rfl
      · unfold bd at z
        rw [Int32.toInt_add, h1i, Int.bmod_eq_of_le (by omega) (by omega)]
    rw [hb]
    omega
  unfold bydM byd
  congr 1
  · rw [Bool.eq_iff_iff, anyB_iff, anyB_iff]
    constructor
    · rintro ⟨k, h1, h2⟩; exact ⟨k, h1, by show decide (v < q (6 + k) 1) = true; rw [← (r3 k h1).2.1]; exact h2⟩
    · rintro ⟨k, h1, h2⟩; exact ⟨k, h1, by rw [(r3 k h1).2.1]; exact h2⟩
  · rw [Bool.eq_iff_iff, anyB_iff, anyB_iff]
    constructor
    · rintro ⟨j, h1, h2⟩
      have hj : j = 24 * (j / 24) + j % 24 := by omega
      refine ⟨j / 24, by omega, anyB_iff.mpr ⟨j % 24, by omega, ?_⟩⟩
      rw [decide_eq_true_eq] at h2 ⊢
      rw [hj] at h2
      exact (key (j / 24) (by omega) (j % 24) (by omega)).mp h2
    · rintro ⟨k, h1, h2⟩
      obtain ⟨t, h3, h4⟩ := anyB_iff.mp h2
      refine ⟨24 * k + t, by omega, ?_⟩
      rw [decide_eq_true_eq] at h4 ⊢
      exact (key k h1 t h3).mpr h4
/-- the reference's isAgainst: just where the class does not allow -/
theorem x_ag {w : Nat} {v : Int32} (hi : INV q s n nt) (hw : w < 5) (hv : loN w ≤ v ∧ v ≤ hiN w) : (alw q n nt w v ∧ ev E 117 (am_B 117 0) [.ref 61, .int (nI w), .int v] [] (HH q s) = some (some (.int 0), HH q s)) ∨ (¬ alw q n nt w v ∧ ev E 117 (am_B 117 0) [.ref 61, .int (nI w), .int v] [] (HH q s) = some (some (.int 1), HH q s)) := by
  obtain ⟨⟨l1, l2⟩, ⟨l3, l4⟩, ⟨l5, l6⟩, l7⟩ := lay_b hi
  have e2 := l7 2 (by decide)
  have e3 := l7 3 (by decide)
  have e4 := l7 4 (by decide)
  rcases five hw with rfl | rfl | rfl | rfl | rfl
  · have hb := byd_eq hi (v := v) (by
      have h1 : (loN 0).toInt = 1 := rfl
      have h2 : (hiN 0).toInt = 200 := rfl
      rw [Int32.le_iff_toInt_le, Int32.le_iff_toInt_le, h1, h2] at hv
      exact hv)
    by_cases h : byd q n nt v = true
    · right
      refine ⟨by simp [alw, h], ?_⟩
      simp only [b_117_e, b_117_36, b_117_42, b_117_62, b_117_66, b_117_67, b_117_68, b_117_82, b_117_83, b_117_84, b_117_98, b_117_99, b_117_100, e_iload_1, e_tsw, e_aloadr_0, e_iload_2, cc_M_isBeyond_0, cc_M_isBeyond_1, cc_M_isBeyond_2, cc_M_isBeyond_3, Option.toList_some, Option.toList_none, List.cons_append, List.nil_append, e_zret0, e_zret1, g_578_61, k_3, il_62, il_63, il_64, il_66, il_67, il_68, il_69, il_70, il_71, il_72, il_73, il_74, il_75, il_76, il_77, ik_62_0, ik_62_1, ik_62_2, ik_62_3, ik_62_4, ik_73_0, ik_74_0, e_icmp_gt, k_4, e_icmp_ge, e_jsr, k_1, e_goto, k_0, k_2, e_icmp_le, eq_self, ag_0, cc_M_isBeyond_0 l5 l2 l6 l4, hb, h, not_true_eq_false, not_false_eq_true, if_true, if_false, true_or, or_true, false_or, or_false, true_and, and_true, false_and, and_false, and_self, or_self, reduceIte, Bool.false_eq_true, i10, i01]
    · left
      refine ⟨by simpa [alw] using h, ?_⟩
      simp only [b_117_e, b_117_36, b_117_42, b_117_62, b_117_66, b_117_67, b_117_68, b_117_82, b_117_83, b_117_84, b_117_98, b_117_99, b_117_100, e_iload_1, e_tsw, e_aloadr_0, e_iload_2, cc_M_isBeyond_0, cc_M_isBeyond_1, cc_M_isBeyond_2, cc_M_isBeyond_3, Option.toList_some, Option.toList_none, List.cons_append, List.nil_append, e_zret0, e_zret1, g_578_61, k_3, il_62, il_63, il_64, il_66, il_67, il_68, il_69, il_70, il_71, il_72, il_73, il_74, il_75, il_76, il_77, ik_62_0, ik_62_1, ik_62_2, ik_62_3, ik_62_4, ik_73_0, ik_74_0, e_icmp_gt, k_4, e_icmp_ge, e_jsr, k_1, e_goto, k_0, k_2, e_icmp_le, eq_self, ag_0, cc_M_isBeyond_0 l5 l2 l6 l4, hb, h, not_true_eq_false, not_false_eq_true, if_true, if_false, true_or, or_true, false_or, or_false, true_and, and_true, false_and, and_false, and_self, or_self, reduceIte, Bool.false_eq_true, i10, i01]
  · left
    refine ⟨by simp [alw], ?_⟩
    simp only [b_117_e, b_117_36, b_117_42, b_117_62, b_117_66, b_117_67, b_117_68, b_117_82, b_117_83, b_117_84, b_117_98, b_117_99, b_117_100, e_iload_1, e_tsw, e_aloadr_0, e_iload_2, cc_M_isBeyond_0, cc_M_isBeyond_1, cc_M_isBeyond_2, cc_M_isBeyond_3, Option.toList_some, Option.toList_none, List.cons_append, List.nil_append, e_zret0, e_zret1, g_578_61, k_3, il_62, il_63, il_64, il_66, il_67, il_68, il_69, il_70, il_71, il_72, il_73, il_74, il_75, il_76, il_77, ik_62_0, ik_62_1, ik_62_2, ik_62_3, ik_62_4, ik_73_0, ik_74_0, e_icmp_gt, k_4, e_icmp_ge, e_jsr, k_1, e_goto, k_0, k_2, e_icmp_le, eq_self, ag_1, not_true_eq_false, not_false_eq_true, if_true, if_false, true_or, or_true, false_or, or_false, true_and, and_true, false_and, and_false, and_self, or_self, reduceIte, Bool.false_eq_true, i10, i01]
  · by_cases h1 : q 2 3 < v
    · right
      refine ⟨fun z => Int32.not_lt.mpr z.1 h1, ?_⟩
      simp only [b_117_e, b_117_36, b_117_42, b_117_62, b_117_66, b_117_67, b_117_68, b_117_82, b_117_83, b_117_84, b_117_98, b_117_99, b_117_100, e_iload_1, e_tsw, e_aloadr_0, e_iload_2, cc_M_isBeyond_0, cc_M_isBeyond_1, cc_M_isBeyond_2, cc_M_isBeyond_3, Option.toList_some, Option.toList_none, List.cons_append, List.nil_append, e_zret0, e_zret1, g_578_61, k_3, il_62, il_63, il_64, il_66, il_67, il_68, il_69, il_70, il_71, il_72, il_73, il_74, il_75, il_76, il_77, ik_62_0, ik_62_1, ik_62_2, ik_62_3, ik_62_4, ik_73_0, ik_74_0, e_icmp_gt, k_4, e_icmp_ge, e_jsr, k_1, e_goto, k_0, k_2, e_icmp_le, eq_self, ag_2, e3, h1, not_true_eq_false, not_false_eq_true, if_true, if_false, true_or, or_true, false_or, or_false, true_and, and_true, false_and, and_false, and_self, or_self, reduceIte, Bool.false_eq_true, i10, i01]
    · by_cases h2 : q 2 4 ≤ v
      · left
        refine ⟨⟨Int32.not_lt.mp h1, h2⟩, ?_⟩
        simp only [b_117_e, b_117_36, b_117_42, b_117_62, b_117_66, b_117_67, b_117_68, b_117_82, b_117_83, b_117_84, b_117_98, b_117_99, b_117_100, e_iload_1, e_tsw, e_aloadr_0, e_iload_2, cc_M_isBeyond_0, cc_M_isBeyond_1, cc_M_isBeyond_2, cc_M_isBeyond_3, Option.toList_some, Option.toList_none, List.cons_append, List.nil_append, e_zret0, e_zret1, g_578_61, k_3, il_62, il_63, il_64, il_66, il_67, il_68, il_69, il_70, il_71, il_72, il_73, il_74, il_75, il_76, il_77, ik_62_0, ik_62_1, ik_62_2, ik_62_3, ik_62_4, ik_73_0, ik_74_0, e_icmp_gt, k_4, e_icmp_ge, e_jsr, k_1, e_goto, k_0, k_2, e_icmp_le, eq_self, ag_2, e3, e4, h1, h2, not_true_eq_false, not_false_eq_true, if_true, if_false, true_or, or_true, false_or, or_false, true_and, and_true, false_and, and_false, and_self, or_self, reduceIte, Bool.false_eq_true, i10, i01]
      · right
        refine ⟨fun z => h2 z.2, ?_⟩
        simp only [b_117_e, b_117_36, b_117_42, b_117_62, b_117_66, b_117_67, b_117_68, b_117_82, b_117_83, b_117_84, b_117_98, b_117_99, b_117_100, e_iload_1, e_tsw, e_aloadr_0, e_iload_2, cc_M_isBeyond_0, cc_M_isBeyond_1, cc_M_isBeyond_2, cc_M_isBeyond_3, Option.toList_some, Option.toList_none, List.cons_append, List.nil_append, e_zret0, e_zret1, g_578_61, k_3, il_62, il_63, il_64, il_66, il_67, il_68, il_69, il_70, il_71, il_72, il_73, il_74, il_75, il_76, il_77, ik_62_0, ik_62_1, ik_62_2, ik_62_3, ik_62_4, ik_73_0, ik_74_0, e_icmp_gt, k_4, e_icmp_ge, e_jsr, k_1, e_goto, k_0, k_2, e_icmp_le, eq_self, ag_2, e3, e4, h1, h2, not_true_eq_false, not_false_eq_true, if_true, if_false, true_or, or_true, false_or, or_false, true_and, and_true, false_and, and_false, and_self, or_self, reduceIte, Bool.false_eq_true, i10, i01]
  · by_cases h1 : q 2 2 ≤ v
    · left
      refine ⟨h1, ?_⟩
      simp only [b_117_e, b_117_36, b_117_42, b_117_62, b_117_66, b_117_67, b_117_68, b_117_82, b_117_83, b_117_84, b_117_98, b_117_99, b_117_100, e_iload_1, e_tsw, e_aloadr_0, e_iload_2, cc_M_isBeyond_0, cc_M_isBeyond_1, cc_M_isBeyond_2, cc_M_isBeyond_3, Option.toList_some, Option.toList_none, List.cons_append, List.nil_append, e_zret0, e_zret1, g_578_61, k_3, il_62, il_63, il_64, il_66, il_67, il_68, il_69, il_70, il_71, il_72, il_73, il_74, il_75, il_76, il_77, ik_62_0, ik_62_1, ik_62_2, ik_62_3, ik_62_4, ik_73_0, ik_74_0, e_icmp_gt, k_4, e_icmp_ge, e_jsr, k_1, e_goto, k_0, k_2, e_icmp_le, eq_self, ag_3, e2, h1, not_true_eq_false, not_false_eq_true, if_true, if_false, true_or, or_true, false_or, or_false, true_and, and_true, false_and, and_false, and_self, or_self, reduceIte, Bool.false_eq_true, i10, i01]
    · right
      refine ⟨h1, ?_⟩
      simp only [b_117_e, b_117_36, b_117_42, b_117_62, b_117_66, b_117_67, b_117_68, b_117_82, b_117_83, b_117_84, b_117_98, b_117_99, b_117_100, e_iload_1, e_tsw, e_aloadr_0, e_iload_2, cc_M_isBeyond_0, cc_M_isBeyond_1, cc_M_isBeyond_2, cc_M_isBeyond_3, Option.toList_some, Option.toList_none, List.cons_append, List.nil_append, e_zret0, e_zret1, g_578_61, k_3, il_62, il_63, il_64, il_66, il_67, il_68, il_69, il_70, il_71, il_72, il_73, il_74, il_75, il_76, il_77, ik_62_0, ik_62_1, ik_62_2, ik_62_3, ik_62_4, ik_73_0, ik_74_0, e_icmp_gt, k_4, e_icmp_ge, e_jsr, k_1, e_goto, k_0, k_2, e_icmp_le, eq_self, ag_3, e2, h1, not_true_eq_false, not_false_eq_true, if_true, if_false, true_or, or_true, false_or, or_false, true_and, and_true, false_and, and_false, and_self, or_self, reduceIte, Bool.false_eq_true, i10, i01]
  · by_cases h1 : v ≤ q 2 2
    · left
      refine ⟨h1, ?_⟩
      simp only [b_117_e, b_117_36, b_117_42, b_117_62, b_117_66, b_117_67, b_117_68, b_117_82, b_117_83, b_117_84, b_117_98, b_117_99, b_117_100, e_iload_1, e_tsw, e_aloadr_0, e_iload_2, cc_M_isBeyond_0, cc_M_isBeyond_1, cc_M_isBeyond_2, cc_M_isBeyond_3, Option.toList_some, Option.toList_none, List.cons_append, List.nil_append, e_zret0, e_zret1, g_578_61, k_3, il_62, il_63, il_64, il_66, il_67, il_68, il_69, il_70, il_71, il_72, il_73, il_74, il_75, il_76, il_77, ik_62_0, ik_62_1, ik_62_2, ik_62_3, ik_62_4, ik_73_0, ik_74_0, e_icmp_gt, k_4, e_icmp_ge, e_jsr, k_1, e_goto, k_0, k_2, e_icmp_le, eq_self, ag_4, e2, h1, not_true_eq_false, not_false_eq_true, if_true, if_false, true_or, or_true, false_or, or_false, true_and, and_true, false_and, and_false, and_self, or_self, reduceIte, Bool.false_eq_true, i10, i01]
    · right
      refine ⟨h1, ?_⟩
      simp only [b_117_e, b_117_36, b_117_42, b_117_62, b_117_66, b_117_67, b_117_68, b_117_82, b_117_83, b_117_84, b_117_98, b_117_99, b_117_100, e_iload_1, e_tsw, e_aloadr_0, e_iload_2, cc_M_isBeyond_0, cc_M_isBeyond_1, cc_M_isBeyond_2, cc_M_isBeyond_3, Option.toList_some, Option.toList_none, List.cons_append, List.nil_append, e_zret0, e_zret1, g_578_61, k_3, il_62, il_63, il_64, il_66, il_67, il_68, il_69, il_70, il_71, il_72, il_73, il_74, il_75, il_76, il_77, ik_62_0, ik_62_1, ik_62_2, ik_62_3, ik_62_4, ik_73_0, ik_74_0, e_icmp_gt, k_4, e_icmp_ge, e_jsr, k_1, e_goto, k_0, k_2, e_icmp_le, eq_self, ag_4, e2, h1, not_true_eq_false, not_false_eq_true, if_true, if_false, true_or, or_true, false_or, or_false, true_and, and_true, false_and, and_false, and_self, or_self, reduceIte, Bool.false_eq_true, i10, i01]
theorem lst_at {w : Nat} (hw : w < 5) : am_lst [1, 1, 100, 100, 1] w = loN w ∧ am_lst [200, 20, 2000, 3000, 2000] w = hiN w := by
  rcases five hw with rfl | rfl | rfl | rfl | rfl <;> exact ⟨rfl, rfl⟩
theorem inB5 {w : Nat} (hw : w < 5) : am_inB (nI w) 5 = true := by rcases five hw with rfl | rfl | rfl | rfl | rfl <;> decide +kernel
/-- the rules as they become -/
theorem rule_ok (hi : INV q s n nt) {w : Nat} {v : Int32} (hw : w < 5) (hv : loN w ≤ v ∧ v ≤ hiN w) (ha : alw q n nt w v) : LiR (am_up q 2 w v) ∧ (∀ k, k < n → (sP q k).toInt ≤ (am_up q 2 w v 2 0).toInt) ∧ ∀ k, k < nt → ∀ t, t < 24 → tP q k t = -1 ∨ (tP q k t).toInt ≤ (am_up q 2 w v 2 0).toInt := by
  obtain ⟨⟨⟨a1, a1b⟩, a2, a3, a4, a5⟩, a6, a7, a8, a9, a10⟩ := iA_raw.mp hi.1
  obtain ⟨g0, g1', g2', g3', g4', g5', g6'⟩ := a3
  rcases five hw with rfl | rfl | rfl | rfl | rfl
  · have h1 : (loN 0).toInt = 1 := rfl
    have h2 : (hiN 0).toInt = 200 := rfl
    rw [Int32.le_iff_toInt_le, Int32.le_iff_toInt_le, h1, h2] at hv
    have hb : byd q n nt v = false := ha
    unfold byd at hb
    rw [Bool.or_eq_false_iff] at hb
    refine ⟨?_, fun k hk => ?_, fun k hk t ht => ?_⟩
    · unfold LiR
      rw [am_up_self, am_upa, if_neg (by omega), am_upa, if_neg (by omega), am_upa, if_neg (by omega), am_upa, if_neg (by omega)]
      exact ⟨hv, g1', g2', g3', g4', g5', g6'⟩
    · rw [am_up_self]
      have := anyB_f (by rw [hb.1]; decide) k hk
      rw [decide_eq_false_iff_not, Int32.lt_iff_toInt_lt] at this
      omega
    · rw [am_up_self]
      have h3 := anyB_f (f := fun k => anyB (fun t => decide (v < tP q k t)) 24) (by rw [hb.2]; decide) k hk
      have := anyB_f (f := fun t => decide (v < tP q k t)) (by rw [h3]; decide) t ht
      rw [decide_eq_false_iff_not, Int32.lt_iff_toInt_lt] at this
      exact Or.inr (by omega)
  all_goals refine ⟨?_, fun k hk => by rw [am_upa, if_neg (by omega)]; exact (a8 k hk).2, fun k hk t ht => by rw [am_upa, if_neg (by omega)]; exact a9 k hk t ht⟩
  · have h1 : (loN 1).toInt = 1 := rfl
    have h2 : (hiN 1).toInt = 20 := rfl
    rw [Int32.le_iff_toInt_le, Int32.le_iff_toInt_le, h1, h2] at hv
    unfold LiR
    rw [am_up_self, am_upa, if_neg (by omega), am_upa, if_neg (by omega), am_upa, if_neg (by omega), am_upa, if_neg (by omega)]
    exact ⟨g0, hv, g2', g3', g4', g5', g6'⟩
  · have h1 : (loN 2).toInt = 100 := rfl
    have h2 : (hiN 2).toInt = 2000 := rfl
    rw [Int32.le_iff_toInt_le, Int32.le_iff_toInt_le, h1, h2] at hv
    have h3 : v ≤ q 2 3 ∧ q 2 4 ≤ v := ha
    rw [Int32.le_iff_toInt_le, Int32.le_iff_toInt_le] at h3
    unfold LiR
    rw [am_up_self, am_upa, if_neg (by omega), am_upa, if_neg (by omega), am_upa, if_neg (by omega), am_upa, if_neg (by omega)]
    exact ⟨g0, g1', hv, g3', g4', h3.1, h3.2⟩
  · have h1 : (loN 3).toInt = 100 := rfl
    have h2 : (hiN 3).toInt = 3000 := rfl
    rw [Int32.le_iff_toInt_le, Int32.le_iff_toInt_le, h1, h2] at hv
    have h3 : q 2 2 ≤ v := ha
    rw [Int32.le_iff_toInt_le] at h3
    unfold LiR
    rw [am_up_self, am_upa, if_neg (by omega), am_upa, if_neg (by omega), am_upa, if_neg (by omega), am_upa, if_neg (by omega)]
    exact ⟨g0, g1', g2', hv, g4', h3, g6'⟩
  · have h1 : (loN 4).toInt = 1 := rfl
    have h2 : (hiN 4).toInt = 2000 := rfl
    rw [Int32.le_iff_toInt_le, Int32.le_iff_toInt_le, h1, h2] at hv
    have h3 : v ≤ q 2 2 := ha
    rw [Int32.le_iff_toInt_le] at h3
    unfold LiR
    rw [am_up_self, am_upa, if_neg (by omega), am_upa, if_neg (by omega), am_upa, if_neg (by omega), am_upa, if_neg (by omega)]
    exact ⟨g0, g1', g2', g3', hv, g5', h3⟩
theorem o_rule (hE0 : E 0 = (5, am_lst [1, 1, 100, 100, 1])) (hE1 : E 1 = (5, am_lst [200, 20, 2000, 3000, 2000])) (hi : INV q s n nt) (x v : Int32) : OPi E 9 113 [.ref 0, .int x, .int v, am_dm] [.ref 61, .int x, .int v, am_dm] q s := by
  obtain ⟨⟨l1, l2⟩, ⟨l3, l4⟩, ⟨l5, l6⟩, l7⟩ := lay_b hi
  by_cases hx : 0 ≤ x ∧ x < nI 5
  · obtain ⟨w, hw, rfl⟩ := rng_n (N := 5) (by decide) hx.1 hx.2
    have hx1 : (nI w < 0) = False := eq_false (Int32.not_lt.mpr hx.1)
    have hx2 : (nI w < 5) = True := lt5 hw
    have hx3 : 0 ≤ nI w ∧ nI w ≤ 4 := ⟨hx.1, (nI_leI (b := 4) (by omega) (by decide)).mpr (by omega)⟩
    have hx0 : ∀ {M : Nat} {c : List Instr} {L S : List Value} {h : aH}, ev E M (.iaload :: c) L (.int (nI w) :: .retAddr 0 :: S) h = ev E M c L (.int (loN w) :: S) h := fun {M c L S h} => by
      rw [e_xld (k := 0) (by decide) (by rw [hE0]; exact inB5 hw), hE0, nI_cl9 (by omega)]
      exact congrArg (fun z => ev E M c L (.int z :: S) h) (lst_at hw).1
    have hx1' : ∀ {M : Nat} {c : List Instr} {L S : List Value} {h : aH}, ev E M (.iaload :: c) L (.int (nI w) :: .retAddr 1 :: S) h = ev E M c L (.int (hiN w) :: S) h := fun {M c L S h} => by
      rw [e_xld (k := 1) (by decide) (by rw [hE1]; exact inB5 hw), hE1, nI_cl9 (by omega)]
      exact congrArg (fun z => ev E M c L (.int z :: S) h) (lst_at hw).2
    by_cases hv : loN w ≤ v ∧ v ≤ hiN w
    · have hv1 : (v < loN w) = False := eq_false (Int32.not_lt.mpr hv.1)
      rcases x_ag (E := E) hi hw hv with ⟨ha, hag⟩ | ⟨ha, hag⟩
      · -- allowed
        obtain ⟨⟨⟨a1, a1b⟩, a2, a3, a4, a5⟩, a6, a7, a8, a9, a10⟩ := iA_raw.mp hi.1
        obtain ⟨r1, r2, r3, w1, w2, w3, w4⟩ := (iR_raw l4).mp hi.2.1
        obtain ⟨k1', k2', k3'⟩ := rule_ok hi hw hv ha
        have hal := alwD_t ha
        have hp1 : ∀ b c, ¬ ((b = 2 ∧ c = w) ∨ b = 26 ∨ b = 45 ∨ b = 48) → fgt (am_up q 2 w v) b c = q b c := fun b c h => by rw [fgt_ne (by omega), am_upa, if_neg (by omega)]
        have v2 : ∀ c, fgt (am_up q 2 w v) 2 c = am_up q 2 w v 2 c := fun c => fgt_ne (by decide)
        have hf1 := fgt_at (q := am_up q 2 w v)
        have hcl : ev E 9 (am_B 9 0) [.ref 0, .int (nI w), .int v, am_dm] [] (HH q s) = some (some (.int (q 2 w)), HH (fgt (am_up q 2 w v)) s) := by
          simp only [b_9_e, b_9_9, b_9_11, b_9_29, b_9_32, b_9_47, e_iload_1, e_if_lt, k_5, e_icmp_lt, e_jsr, k_m1, e_iret, e_iload_2, e_gets, il_2, il_5, il_33, il_35, il_36, il_41, il_42, il_tp, il_ta, il_sc, il_po, ik_2_0, ik_2_1, ik_2_2, ik_2_3, ik_2_4, e_icmp_le, k_m2, e_aloadr_0, g_512_0, cc_Line_allows_0, cc_Line_allows_1, cc_Line_allows_2, cc_Line_allows_3, Option.toList_some, Option.toList_none, List.cons_append, List.nil_append, e_if_ne, k_m3, g_128_1, e_istore_3, e_kpi, e_kpr, e_kpl, e_kpd, is_2, is_5, is_33, is_35, is_36, is_41, is_42, is_tp, is_ta, is_sc, is_po, g_513_0, cc_Day_forget_0, cc_Day_forget_1, cc_Day_forget_2, cc_Day_forget_3, e_iload_3, eq_self, hx1, hx2, hx0, hx1', hv1, hv.2, cc_Line_allows_0 hw l1 l2 l3 l4, hal, hw, not_true_eq_false, not_false_eq_true, if_true, if_false, true_or, or_true, false_or, or_false, true_and, and_true, false_and, and_false, and_self, or_self, reduceIte, Bool.false_eq_true, i10, i01]
        -- the reference's isAgainst after the class's change is read from its own cells
        have hag2 : ev E 117 (am_B 117 0) [.ref 61, .int (nI w), .int v] [] (HH (fgt (am_up q 2 w v)) s) = some (some (.int 0), HH (fgt (am_up q 2 w v)) s) := by
          have e62 : ∀ c, fgt (am_up q 2 w v) 62 c = q 62 c := fun c => hp1 62 c (by omega)
          have e613 : fgt (am_up q 2 w v) 61 3 = nI n := by rw [hp1 61 3 (by omega)]; exact l5
          have e618 : fgt (am_up q 2 w v) 61 8 = nI nt := by rw [hp1 61 8 (by omega)]; exact l6
          have ebd : bydM (fgt (am_up q 2 w v)) n nt v = bydM q n nt v := by
            unfold bydM
            have e64 : ∀ c, fgt (am_up q 2 w v) 64 c = q 64 c := fun c => hp1 64 c (by omega)
            have e67 : ∀ c, fgt (am_up q 2 w v) 67 c = q 67 c := fun c => hp1 67 c (by omega)
            simp only [e64, e67]
          have e2 := l7 2 (by decide)
          have e3 := l7 3 (by decide)
          have e4 := l7 4 (by decide)
          rcases five hw with rfl | rfl | rfl | rfl | rfl
          · have hb := byd_eq hi (v := v) (by
              have h1 : (loN 0).toInt = 1 := rfl
              have h2 : (hiN 0).toInt = 200 := rfl
              rw [Int32.le_iff_toInt_le, Int32.le_iff_toInt_le, h1, h2] at hv
              exact hv)
            have h : byd q n nt v = false := ha
            simp only [b_117_e, b_117_36, b_117_42, b_117_62, b_117_66, b_117_67, b_117_68, b_117_82, b_117_83, b_117_84, b_117_98, b_117_99, b_117_100, e_iload_1, e_tsw, e_aloadr_0, e_iload_2, cc_M_isBeyond_0, cc_M_isBeyond_1, cc_M_isBeyond_2, cc_M_isBeyond_3, Option.toList_some, Option.toList_none, List.cons_append, List.nil_append, e_zret0, e_zret1, g_578_61, k_3, il_62, il_63, il_64, il_66, il_67, il_68, il_69, il_70, il_71, il_72, il_73, il_74, il_75, il_76, il_77, ik_62_0, ik_62_1, ik_62_2, ik_62_3, ik_62_4, ik_73_0, ik_74_0, e_icmp_gt, k_4, e_icmp_ge, e_jsr, k_1, e_goto, k_0, k_2, e_icmp_le, eq_self, ag_0, cc_M_isBeyond_0 e613 l2 e618 l4, ebd, hb, h, not_true_eq_false, not_false_eq_true, if_true, if_false, true_or, or_true, false_or, or_false, true_and, and_true, false_and, and_false, and_self, or_self, reduceIte, Bool.false_eq_true, i10, i01]
          · simp only [b_117_e, b_117_36, b_117_42, b_117_62, b_117_66, b_117_67, b_117_68, b_117_82, b_117_83, b_117_84, b_117_98, b_117_99, b_117_100, e_iload_1, e_tsw, e_aloadr_0, e_iload_2, cc_M_isBeyond_0, cc_M_isBeyond_1, cc_M_isBeyond_2, cc_M_isBeyond_3, Option.toList_some, Option.toList_none, List.cons_append, List.nil_append, e_zret0, e_zret1, g_578_61, k_3, il_62, il_63, il_64, il_66, il_67, il_68, il_69, il_70, il_71, il_72, il_73, il_74, il_75, il_76, il_77, ik_62_0, ik_62_1, ik_62_2, ik_62_3, ik_62_4, ik_73_0, ik_74_0, e_icmp_gt, k_4, e_icmp_ge, e_jsr, k_1, e_goto, k_0, k_2, e_icmp_le, eq_self, ag_1, not_true_eq_false, not_false_eq_true, if_true, if_false, true_or, or_true, false_or, or_false, true_and, and_true, false_and, and_false, and_self, or_self, reduceIte, Bool.false_eq_true, i10, i01]
          · have h3 : v ≤ q 2 3 ∧ q 2 4 ≤ v := ha
            have h4 : ¬ q 2 3 < v := Int32.not_lt.mpr h3.1
            simp only [b_117_e, b_117_36, b_117_42, b_117_62, b_117_66, b_117_67, b_117_68, b_117_82, b_117_83, b_117_84, b_117_98, b_117_99, b_117_100, e_iload_1, e_tsw, e_aloadr_0, e_iload_2, cc_M_isBeyond_0, cc_M_isBeyond_1, cc_M_isBeyond_2, cc_M_isBeyond_3, Option.toList_some, Option.toList_none, List.cons_append, List.nil_append, e_zret0, e_zret1, g_578_61, k_3, il_62, il_63, il_64, il_66, il_67, il_68, il_69, il_70, il_71, il_72, il_73, il_74, il_75, il_76, il_77, ik_62_0, ik_62_1, ik_62_2, ik_62_3, ik_62_4, ik_73_0, ik_74_0, e_icmp_gt, k_4, e_icmp_ge, e_jsr, k_1, e_goto, k_0, k_2, e_icmp_le, eq_self, ag_2, e62, e3, e4, h4, h3.2, not_true_eq_false, not_false_eq_true, if_true, if_false, true_or, or_true, false_or, or_false, true_and, and_true, false_and, and_false, and_self, or_self, reduceIte, Bool.false_eq_true, i10, i01]
          · have h3 : q 2 2 ≤ v := ha
            simp only [b_117_e, b_117_36, b_117_42, b_117_62, b_117_66, b_117_67, b_117_68, b_117_82, b_117_83, b_117_84, b_117_98, b_117_99, b_117_100, e_iload_1, e_tsw, e_aloadr_0, e_iload_2, cc_M_isBeyond_0, cc_M_isBeyond_1, cc_M_isBeyond_2, cc_M_isBeyond_3, Option.toList_some, Option.toList_none, List.cons_append, List.nil_append, e_zret0, e_zret1, g_578_61, k_3, il_62, il_63, il_64, il_66, il_67, il_68, il_69, il_70, il_71, il_72, il_73, il_74, il_75, il_76, il_77, ik_62_0, ik_62_1, ik_62_2, ik_62_3, ik_62_4, ik_73_0, ik_74_0, e_icmp_gt, k_4, e_icmp_ge, e_jsr, k_1, e_goto, k_0, k_2, e_icmp_le, eq_self, ag_3, e62, e2, h3, not_true_eq_false, not_false_eq_true, if_true, if_false, true_or, or_true, false_or, or_false, true_and, and_true, false_and, and_false, and_self, or_self, reduceIte, Bool.false_eq_true, i10, i01]
          · have h3 : v ≤ q 2 2 := ha
            simp only [b_117_e, b_117_36, b_117_42, b_117_62, b_117_66, b_117_67, b_117_68, b_117_82, b_117_83, b_117_84, b_117_98, b_117_99, b_117_100, e_iload_1, e_tsw, e_aloadr_0, e_iload_2, cc_M_isBeyond_0, cc_M_isBeyond_1, cc_M_isBeyond_2, cc_M_isBeyond_3, Option.toList_some, Option.toList_none, List.cons_append, List.nil_append, e_zret0, e_zret1, g_578_61, k_3, il_62, il_63, il_64, il_66, il_67, il_68, il_69, il_70, il_71, il_72, il_73, il_74, il_75, il_76, il_77, ik_62_0, ik_62_1, ik_62_2, ik_62_3, ik_62_4, ik_73_0, ik_74_0, e_icmp_gt, k_4, e_icmp_ge, e_jsr, k_1, e_goto, k_0, k_2, e_icmp_le, eq_self, ag_4, e62, e2, h3, not_true_eq_false, not_false_eq_true, if_true, if_false, true_or, or_true, false_or, or_false, true_and, and_true, false_and, and_false, and_self, or_self, reduceIte, Bool.false_eq_true, i10, i01]
        generalize fgt (am_up q 2 w v) = p1 at *
        have cca : ∀ {M_ : Nat} {c_ : List Instr} {L_ : List Value}, ev E M_ (.invokevirtual 117 :: c_) L_ (.int v :: .int (nI w) :: .ref 61 :: []) (HH p1 s) = ev E M_ c_ L_ (.int 0 :: []) (HH p1 s) := fun {M_} {c_} {L_} => e_inv (as := [.ref 61, .int (nI w), .int v]) (S := []) rfl rfl (Nat.le_of_ble_eq_true rfl) (rfl) (hag2)
        have e62 : p1 62 w = q 2 w := by rw [hp1 62 w (by omega)]; exact l7 w hw
        refine ⟨q 2 w, p1, s, am_up p1 62 w v, s, n, nt, hcl, ?_, ?_⟩
        · simp only [b_113_e, b_113_11, b_113_29, b_113_41, e_iload_1, k_0, k_4, cc_M_within_0, cc_M_within_1, cc_M_within_2, cc_M_within_3, Option.toList_some, Option.toList_none, List.cons_append, List.nil_append, e_if_ne, k_m1, e_iret, e_iload_2, cc_M_leastOf_0, cc_M_leastOf_1, cc_M_leastOf_2, cc_M_leastOf_3, cc_M_mostOf_0, cc_M_mostOf_1, cc_M_mostOf_2, cc_M_mostOf_3, k_m2, e_aloadr_0, e_if_eq, k_m3, g_578_61, il_62, il_63, il_64, il_66, il_67, il_68, il_69, il_70, il_71, il_72, il_73, il_74, il_75, il_76, il_77, ik_62_0, ik_62_1, ik_62_2, ik_62_3, ik_62_4, ik_73_0, ik_74_0, e_istore_3, e_kpi, e_kpr, e_kpl, e_kpd, is_62, is_63, is_64, is_66, is_67, is_68, is_69, is_70, is_71, is_72, is_73, is_74, is_75, is_76, is_77, iks_73_0, iks_74_0, e_iload_3, eq_self, hx3, cc_M_leastOf_1 hw, cc_M_mostOf_2 hw, hv, cca, e62, hw, not_true_eq_false, not_false_eq_true, if_true, if_false, true_or, or_true, false_or, or_false, true_and, and_true, false_and, and_false, and_self, or_self, reduceIte, Bool.false_eq_true, i10, i01]
        · have hp : ∀ b c, ¬ ((b = 2 ∧ c = w) ∨ b = 26 ∨ b = 45 ∨ b = 48 ∨ (b = 62 ∧ c = w)) → am_up p1 62 w v b c = q b c := fun b c h => by rw [am_upa, if_neg (by omega), hp1 b c (by omega)]
          have u2 : ∀ c, am_up p1 62 w v 2 c = am_up q 2 w v 2 c := fun c => by rw [am_upa, if_neg (by omega)]; exact v2 c
          have u62 : am_up p1 62 w v 62 w = v := am_up_self
          have hf : am_up p1 62 w v 26 8 = 0 ∧ am_up p1 62 w v 45 2 = 0 ∧ am_up p1 62 w v 48 2 = 0 := by
            rw [am_upa, if_neg (by omega), am_upa, if_neg (by omega), am_upa, if_neg (by omega)]; exact hf1
          generalize am_up p1 62 w v = p at *
          have eP : ∀ k, k < 5 → sP p k = sP q k := fun k hk => hp _ _ (by omega)
          have eT : ∀ k t, k < 5 → tP p k t = tP q k t ∧ tA p k t = tA q k t := fun k t hk => ⟨hp _ _ (by omega), hp _ _ (by omega)⟩
          have e5 : ∀ k, p 5 k = q 5 k := fun k => hp _ _ (by omega)
          have eO : ∀ k, oF p 5 k = oF q 5 k := fun k => by unfold oF; rw [e5]
          refine INV_new hi ⟨⟨⟨?_, ?_⟩, ⟨?_, ?_, ?_⟩, ?_, ⟨?_, ?_⟩, ?_⟩, ?_, ?_, ?_, ?_, ?_⟩ ⟨?_, ?_, ?_, ?_, ?_, ?_, ?_⟩ ?_ hf
          · rw [hp 1 4 (by omega)]; exact a1
          · rw [hp 1 5 (by omega)]; exact a1b
          · exact a2.1
          · intro k hk; rw [eP k (by omega)]; exact a2.2.1 k hk
          · intro k t h1 h2; rw [eP k (by omega), eP t (by omega)]; exact a2.2.2 k t h1 h2
          · unfold LiR; rw [u2, u2, u2, u2, u2]; exact k1'
          · exact a4.1
          · intro k hk t ht; rw [(eT k t (by omega)).1, (eT k t (by omega)).2]; exact a4.2 k hk t ht
          · intro k hk; rw [e5, eO]; exact a5 k hk
          · intro k hk; rw [hp (6 + k) 2 (by omega), hp (6 + k) 3 (by omega)]; exact a6 k hk
          · intro k h1 h2; rw [hp (6 + k) 2 (by omega), hp (6 + k) 3 (by omega)]; exact a7 k h1 h2
          · intro k hk; rw [hp (6 + k) 0 (by omega), eP k (by omega), u2]; exact ⟨(a8 k hk).1, k2' k hk⟩
          · intro k hk t ht; rw [(eT k t (by omega)).1, u2]; exact k3' k hk t ht
          · intro k h1 h2; refine ⟨fun t ht => ?_, ?_⟩; rw [(eT k t (by omega)).1]; exact (a10 k h1 h2).1 t ht; rw [e5]; exact (a10 k h1 h2).2
          · rw [hp 61 3 (by omega)]; exact r1
          · intro c hc
            rw [u2]
            by_cases e : c = w
            · rw [e, u62, am_up_self]
            · rw [hp 62 c (by omega), am_upa, if_neg (by omega)]; exact r2 c hc
          · intro k hk; rw [hp 63 k (by omega), hp 64 k (by omega), hp 65 k (by omega), hp 66 k (by omega), hp (6 + k) 0 (by omega), hp (6 + k) 1 (by omega), hp (6 + k) 2 (by omega), hp (6 + k) 3 (by omega)]; exact r3 k hk
          · rw [hp 61 8 (by omega)]; exact w1
          · intro k hk; rw [hp 69 k (by omega), eO]; exact w2 k hk
          · intro k hk t ht; rw [hp 67 _ (by omega), hp 68 _ (by omega), (eT k t (by omega)).1, (eT k t (by omega)).2]; exact w3 k hk t ht
          · intro k hk; rw [hp 67 k (by omega)]; exact w4 k hk
          · intro a c z; exact hp a c (by omega)
      · have hal := alwD_f ha
        have cca : ∀ {M_ : Nat} {c_ : List Instr} {L_ : List Value}, ev E M_ (.invokevirtual 117 :: c_) L_ (.int v :: .int (nI w) :: .ref 61 :: []) (HH q s) = ev E M_ c_ L_ (.int 1 :: []) (HH q s) := fun {M_} {c_} {L_} => e_inv (as := [.ref 61, .int (nI w), .int v]) (S := []) rfl rfl (Nat.le_of_ble_eq_true rfl) (rfl) (hag)
        refine ⟨-3, q, s, q, s, n, nt, ?_, ?_, hi⟩
        · simp only [b_9_e, b_9_9, b_9_11, b_9_29, b_9_32, b_9_47, e_iload_1, e_if_lt, k_5, e_icmp_lt, e_jsr, k_m1, e_iret, e_iload_2, e_gets, il_2, il_5, il_33, il_35, il_36, il_41, il_42, il_tp, il_ta, il_sc, il_po, ik_2_0, ik_2_1, ik_2_2, ik_2_3, ik_2_4, e_icmp_le, k_m2, e_aloadr_0, g_512_0, cc_Line_allows_0, cc_Line_allows_1, cc_Line_allows_2, cc_Line_allows_3, Option.toList_some, Option.toList_none, List.cons_append, List.nil_append, e_if_ne, k_m3, g_128_1, e_istore_3, e_kpi, e_kpr, e_kpl, e_kpd, is_2, is_5, is_33, is_35, is_36, is_41, is_42, is_tp, is_ta, is_sc, is_po, g_513_0, cc_Day_forget_0, cc_Day_forget_1, cc_Day_forget_2, cc_Day_forget_3, e_iload_3, eq_self, hx1, hx2, hx0, hx1', hv1, hv.2, cc_Line_allows_0 hw l1 l2 l3 l4, hal, not_true_eq_false, not_false_eq_true, if_true, if_false, true_or, or_true, false_or, or_false, true_and, and_true, false_and, and_false, and_self, or_self, reduceIte, Bool.false_eq_true, i10, i01]
        · simp only [b_113_e, b_113_11, b_113_29, b_113_41, e_iload_1, k_0, k_4, cc_M_within_0, cc_M_within_1, cc_M_within_2, cc_M_within_3, Option.toList_some, Option.toList_none, List.cons_append, List.nil_append, e_if_ne, k_m1, e_iret, e_iload_2, cc_M_leastOf_0, cc_M_leastOf_1, cc_M_leastOf_2, cc_M_leastOf_3, cc_M_mostOf_0, cc_M_mostOf_1, cc_M_mostOf_2, cc_M_mostOf_3, k_m2, e_aloadr_0, e_if_eq, k_m3, g_578_61, il_62, il_63, il_64, il_66, il_67, il_68, il_69, il_70, il_71, il_72, il_73, il_74, il_75, il_76, il_77, ik_62_0, ik_62_1, ik_62_2, ik_62_3, ik_62_4, ik_73_0, ik_74_0, e_istore_3, e_kpi, e_kpr, e_kpl, e_kpd, is_62, is_63, is_64, is_66, is_67, is_68, is_69, is_70, is_71, is_72, is_73, is_74, is_75, is_76, is_77, iks_73_0, iks_74_0, e_iload_3, eq_self, hx3, cc_M_leastOf_1 hw, cc_M_mostOf_2 hw, hv, cca, not_true_eq_false, not_false_eq_true, if_true, if_false, true_or, or_true, false_or, or_false, true_and, and_true, false_and, and_false, and_self, or_self, reduceIte, Bool.false_eq_true, i10, i01]
    · refine ⟨-2, q, s, q, s, n, nt, ?_, ?_, hi⟩
      · by_cases h1 : v < loN w
        · simp only [b_9_e, b_9_9, b_9_11, b_9_29, b_9_32, b_9_47, e_iload_1, e_if_lt, k_5, e_icmp_lt, e_jsr, k_m1, e_iret, e_iload_2, e_gets, il_2, il_5, il_33, il_35, il_36, il_41, il_42, il_tp, il_ta, il_sc, il_po, ik_2_0, ik_2_1, ik_2_2, ik_2_3, ik_2_4, e_icmp_le, k_m2, e_aloadr_0, g_512_0, cc_Line_allows_0, cc_Line_allows_1, cc_Line_allows_2, cc_Line_allows_3, Option.toList_some, Option.toList_none, List.cons_append, List.nil_append, e_if_ne, k_m3, g_128_1, e_istore_3, e_kpi, e_kpr, e_kpl, e_kpd, is_2, is_5, is_33, is_35, is_36, is_41, is_42, is_tp, is_ta, is_sc, is_po, g_513_0, cc_Day_forget_0, cc_Day_forget_1, cc_Day_forget_2, cc_Day_forget_3, e_iload_3, eq_self, hx1, hx2, hx0, h1, not_true_eq_false, not_false_eq_true, if_true, if_false, true_or, or_true, false_or, or_false, true_and, and_true, false_and, and_false, and_self, or_self, reduceIte, Bool.false_eq_true, i10, i01]
        · have h2 : ¬ v ≤ hiN w := fun z => hv ⟨Int32.not_lt.mp h1, z⟩
          simp only [b_9_e, b_9_9, b_9_11, b_9_29, b_9_32, b_9_47, e_iload_1, e_if_lt, k_5, e_icmp_lt, e_jsr, k_m1, e_iret, e_iload_2, e_gets, il_2, il_5, il_33, il_35, il_36, il_41, il_42, il_tp, il_ta, il_sc, il_po, ik_2_0, ik_2_1, ik_2_2, ik_2_3, ik_2_4, e_icmp_le, k_m2, e_aloadr_0, g_512_0, cc_Line_allows_0, cc_Line_allows_1, cc_Line_allows_2, cc_Line_allows_3, Option.toList_some, Option.toList_none, List.cons_append, List.nil_append, e_if_ne, k_m3, g_128_1, e_istore_3, e_kpi, e_kpr, e_kpl, e_kpd, is_2, is_5, is_33, is_35, is_36, is_41, is_42, is_tp, is_ta, is_sc, is_po, g_513_0, cc_Day_forget_0, cc_Day_forget_1, cc_Day_forget_2, cc_Day_forget_3, e_iload_3, eq_self, hx1, hx2, hx0, hx1', h1, h2, not_true_eq_false, not_false_eq_true, if_true, if_false, true_or, or_true, false_or, or_false, true_and, and_true, false_and, and_false, and_self, or_self, reduceIte, Bool.false_eq_true, i10, i01]
      · simp only [b_113_e, b_113_11, b_113_29, b_113_41, e_iload_1, k_0, k_4, cc_M_within_0, cc_M_within_1, cc_M_within_2, cc_M_within_3, Option.toList_some, Option.toList_none, List.cons_append, List.nil_append, e_if_ne, k_m1, e_iret, e_iload_2, cc_M_leastOf_0, cc_M_leastOf_1, cc_M_leastOf_2, cc_M_leastOf_3, cc_M_mostOf_0, cc_M_mostOf_1, cc_M_mostOf_2, cc_M_mostOf_3, k_m2, e_aloadr_0, e_if_eq, k_m3, g_578_61, il_62, il_63, il_64, il_66, il_67, il_68, il_69, il_70, il_71, il_72, il_73, il_74, il_75, il_76, il_77, ik_62_0, ik_62_1, ik_62_2, ik_62_3, ik_62_4, ik_73_0, ik_74_0, e_istore_3, e_kpi, e_kpr, e_kpl, e_kpd, is_62, is_63, is_64, is_66, is_67, is_68, is_69, is_70, is_71, is_72, is_73, is_74, is_75, is_76, is_77, iks_73_0, iks_74_0, e_iload_3, eq_self, hx3, cc_M_leastOf_1 hw, cc_M_mostOf_2 hw, hv, not_true_eq_false, not_false_eq_true, if_true, if_false, true_or, or_true, false_or, or_false, true_and, and_true, false_and, and_false, and_self, or_self, reduceIte, Bool.false_eq_true, i10, i01]
  · have h54 : (4 : Int32).toInt = 4 := rfl
    have h55 : (nI 5).toInt = 5 := rfl
    have h00 : (0 : Int32).toInt = 0 := rfl
    have hx4 : ¬ (0 ≤ x ∧ x ≤ 4) := fun z => hx (by
      rw [Int32.le_iff_toInt_le, Int32.le_iff_toInt_le, h54] at z
      rw [Int32.le_iff_toInt_le, Int32.lt_iff_toInt_lt, h55]
      omega)
    refine ⟨-1, q, s, q, s, n, nt, ?_, ?_, hi⟩
    · by_cases h1 : x < 0
      · simp only [b_9_e, b_9_9, b_9_11, b_9_29, b_9_32, b_9_47, e_iload_1, e_if_lt, k_5, e_icmp_lt, e_jsr, k_m1, e_iret, e_iload_2, e_gets, il_2, il_5, il_33, il_35, il_36, il_41, il_42, il_tp, il_ta, il_sc, il_po, ik_2_0, ik_2_1, ik_2_2, ik_2_3, ik_2_4, e_icmp_le, k_m2, e_aloadr_0, g_512_0, cc_Line_allows_0, cc_Line_allows_1, cc_Line_allows_2, cc_Line_allows_3, Option.toList_some, Option.toList_none, List.cons_append, List.nil_append, e_if_ne, k_m3, g_128_1, e_istore_3, e_kpi, e_kpr, e_kpl, e_kpd, is_2, is_5, is_33, is_35, is_36, is_41, is_42, is_tp, is_ta, is_sc, is_po, g_513_0, cc_Day_forget_0, cc_Day_forget_1, cc_Day_forget_2, cc_Day_forget_3, e_iload_3, eq_self, h1, not_true_eq_false, not_false_eq_true, if_true, if_false, true_or, or_true, false_or, or_false, true_and, and_true, false_and, and_false, and_self, or_self, reduceIte, Bool.false_eq_true, i10, i01]
      · have h2 : ¬ x < 5 := fun z => hx ⟨Int32.not_lt.mp h1, z⟩
        simp only [b_9_e, b_9_9, b_9_11, b_9_29, b_9_32, b_9_47, e_iload_1, e_if_lt, k_5, e_icmp_lt, e_jsr, k_m1, e_iret, e_iload_2, e_gets, il_2, il_5, il_33, il_35, il_36, il_41, il_42, il_tp, il_ta, il_sc, il_po, ik_2_0, ik_2_1, ik_2_2, ik_2_3, ik_2_4, e_icmp_le, k_m2, e_aloadr_0, g_512_0, cc_Line_allows_0, cc_Line_allows_1, cc_Line_allows_2, cc_Line_allows_3, Option.toList_some, Option.toList_none, List.cons_append, List.nil_append, e_if_ne, k_m3, g_128_1, e_istore_3, e_kpi, e_kpr, e_kpl, e_kpd, is_2, is_5, is_33, is_35, is_36, is_41, is_42, is_tp, is_ta, is_sc, is_po, g_513_0, cc_Day_forget_0, cc_Day_forget_1, cc_Day_forget_2, cc_Day_forget_3, e_iload_3, eq_self, h1, h2, not_true_eq_false, not_false_eq_true, if_true, if_false, true_or, or_true, false_or, or_false, true_and, and_true, false_and, and_false, and_self, or_self, reduceIte, Bool.false_eq_true, i10, i01]
    · simp only [b_113_e, b_113_11, b_113_29, b_113_41, e_iload_1, k_0, k_4, cc_M_within_0, cc_M_within_1, cc_M_within_2, cc_M_within_3, Option.toList_some, Option.toList_none, List.cons_append, List.nil_append, e_if_ne, k_m1, e_iret, e_iload_2, cc_M_leastOf_0, cc_M_leastOf_1, cc_M_leastOf_2, cc_M_leastOf_3, cc_M_mostOf_0, cc_M_mostOf_1, cc_M_mostOf_2, cc_M_mostOf_3, k_m2, e_aloadr_0, e_if_eq, k_m3, g_578_61, il_62, il_63, il_64, il_66, il_67, il_68, il_69, il_70, il_71, il_72, il_73, il_74, il_75, il_76, il_77, ik_62_0, ik_62_1, ik_62_2, ik_62_3, ik_62_4, ik_73_0, ik_74_0, e_istore_3, e_kpi, e_kpr, e_kpl, e_kpd, is_62, is_63, is_64, is_66, is_67, is_68, is_69, is_70, is_71, is_72, is_73, is_74, is_75, is_76, is_77, iks_73_0, iks_74_0, e_iload_3, eq_self, hx4, not_true_eq_false, not_false_eq_true, if_true, if_false, true_or, or_true, false_or, or_false, true_and, and_true, false_and, and_false, and_self, or_self, reduceIte, Bool.false_eq_true, i10, i01]
end Ru
