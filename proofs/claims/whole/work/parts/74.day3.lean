/-! used, given, firstOut -/
section Du
variable {E : aE} {q : Nat → Nat → Int32} {s : Nat → Nat → Int64} {n nt : Nat}
theorem o_used (hi : INV q s n nt) (x : Int32) : OPl E 87 169 [.ref 0, .int x] [.ref 61, .int x, am_dm, am_dm, am_dm] q s := by
  obtain ⟨⟨l1, l2⟩, ⟨l3, l4⟩, ⟨l5, l6⟩, l7⟩ := lay_b hi
  by_cases hx : 0 ≤ x ∧ x < nI nt
  · by_cases hdk : dk q n
    · refine ⟨-9223372036854775808, q, s, q, s, n, nt, ?_, ?_, hi⟩
      · simp only [b_87_e, b_87_21, b_87_25, e_aloadr_0, g_512_0, e_iload_1, cc_Line_hasTrain_0, cc_Line_hasTrain_1, cc_Line_hasTrain_2, cc_Line_hasTrain_3, Option.toList_some, Option.toList_none, List.cons_append, List.nil_append, e_if_eq, cc_Line_isDark_0, cc_Line_isDark_1, cc_Line_isDark_2, cc_Line_isDark_3, e_jsr, kl_m9223372036854775808, e_lret, g_513_0, k_m9, cc_Day_takeStations_0, cc_Day_takeStations_1, cc_Day_takeStations_2, cc_Day_takeStations_3, eq_self, l3, hx, cc_Line_isDark_0 l1 l2, i_dk1 hi, hdk, not_true_eq_false, not_false_eq_true, if_true, if_false, true_or, or_true, false_or, or_false, true_and, and_true, false_and, and_false, and_self, or_self, reduceIte, Bool.false_eq_true, i10, i01]
      · simp only [b_169_e, b_169_15, b_169_19, b_169_92, b_169_98, e_aloadr_0, e_iload_1, cc_M_isTrain_0, cc_M_isTrain_1, cc_M_isTrain_2, cc_M_isTrain_3, Option.toList_some, Option.toList_none, List.cons_append, List.nil_append, e_if_eq, cc_M_isDark_0, cc_M_isDark_1, cc_M_isDark_2, cc_M_isDark_3, e_jsr, kl_m9223372036854775808, e_lret, kl_0, e_lstore_2, e_kpi, e_kpr, e_kpl, e_kpd, k_0, e_istore_4, e_iload_4, k_24, e_icmp_ge, g_597_61, il_62, il_63, il_64, il_66, il_67, il_68, il_69, il_70, il_71, il_72, il_73, il_74, il_75, il_76, il_77, ik_62_0, ik_62_1, ik_62_2, ik_62_3, ik_62_4, ik_73_0, ik_74_0, k_m9, e_icmp_eq, g_594_61, g_592_61, cc_M_findVolts_0, cc_M_findVolts_1, cc_M_findVolts_2, cc_M_findVolts_3, e_lload_2, g_595_61, g_593_61, e_i2l, e_lmul, g_596_61, e_ldiv, e_ladd, e_iinc_4, e_goto, eq_self, l6, hx, cc_M_isDark_0 l5 l2, i_dk2 hi, hdk, not_true_eq_false, not_false_eq_true, if_true, if_false, true_or, or_true, false_or, or_false, true_and, and_true, false_and, and_false, and_self, or_self, reduceIte, Bool.false_eq_true, i10, i01]
    · have hm : 0 < q_m (kC (LN q) (-9) n) := Nat.pos_of_ne_zero hdk
      obtain ⟨j, hj, rfl⟩ := rng_n (N := nt) (by omega) hx.1 hx.2
      have hj5 : j < 5 := by omega
      have hT := hi.1.1.2.2.2.1
      obtain ⟨p, r, e1, e2, e3⟩ := y_used (E := E) (ml := s) hj (LI_T hi.1.1 (-9)) hm hT
      have cc1 : ∀ {M_ : Nat} {c_ : List Instr} {L_ : List Value}, ev E M_ (.invokevirtual 88 :: c_) L_ (.int (nI j) :: .ref 26 :: []) (HH (tks q (-9) n) s) = ev E M_ c_ L_ (.long (d_used (kC (LN q) (-9) n) (kL (LN q) (kO (LN q)) nt) j 24) :: []) (HH p r) := fun {M_} {c_} {L_} => e_inv (as := [.ref 26, .int (nI j)]) (S := []) rfl rfl (Nat.le_of_ble_eq_true rfl) (rfl) (e1)
      have hf2 : f2 p q := f2_tr (f2_f1 e2) f2_tks
      have hip := INV_of hi (sc_f2 hf2) (sl_g1 e3)
      obtain ⟨I, hZ⟩ := i_rS hip
      rw [LN_f2 hf2] at hZ
      obtain ⟨⟨m1, m2⟩, ⟨m3, m4⟩, ⟨m5, m6⟩, m7⟩ := lay_b hip
      have hdp : ¬ dk p n := by unfold dk; rw [LN_f2 hf2]; exact hdk
      obtain ⟨x', hl, hJ⟩ := loop_inv (fun i (x : (Nat → Nat → Int32) × (Nat → Nat → Int64)) => ev E 169 (am_B 169 (Int.toNat 24)) [.ref 61, .int (nI j), .long (d_used (kC (LN q) (-9) n) (kL (LN q) (kO (LN q)) nt) j i), am_dm, .int (nI i)] [] (HH x.1 x.2)) (fun i x => h1 x.1 p ∧ k1 x.2 r) 24 (fun i x hi2 hj2 => by
        obtain ⟨a, b⟩ := x
        obtain ⟨j1, j2⟩ := hj2
        dsimp only at j1 j2 ⊢
        have hZa := rZ_h1 hZ j1
        obtain ⟨a2, b2, w1, w2, w3, w4, w5⟩ := x_tick (E := E) (ml := b) hZa hT hi2 hm
        have cc3 : ∀ {M_ : Nat} {c_ : List Instr} {L_ : List Value}, ev E M_ (.invokevirtual 142 :: c_) L_ (.int (nI i) :: .ref 61 :: []) (HH a b) = ev E M_ c_ L_ [] (HH a2 b2) := fun {M_} {c_} {L_} => e_inv (as := [.ref 61, .int (nI i)]) (S := []) rfl rfl (Nat.le_of_ble_eq_true rfl) (rfl) (w1)
        have hte : q_th (q_end (kC (LN q) (-9) n) (kL (LN q) (kO (LN q)) nt i)) = q_th (kL (LN q) (kO (LN q)) nt i) := (q_sol_th _ 46 _).1
        rw [d_used]
        cases hth : q_th (kL (LN q) (kO (LN q)) nt i) j with
        | false =>
          have hlo : a2 75 j = -9 := by rw [w5 j hj]; unfold lof; rw [if_neg (by simp [hth])]; rfl
          refine ⟨(a2, b2), hd b_169_24 ?_, h1_tr (h1_fq w2) j1, k1_tr (k1_ux w4) j2⟩
          rw [if_neg (by decide), Int64.add_zero]
          simp only [b_169_e, b_169_15, b_169_19, b_169_92, b_169_98, e_aloadr_0, e_iload_1, cc_M_isTrain_0, cc_M_isTrain_1, cc_M_isTrain_2, cc_M_isTrain_3, Option.toList_some, Option.toList_none, List.cons_append, List.nil_append, e_if_eq, cc_M_isDark_0, cc_M_isDark_1, cc_M_isDark_2, cc_M_isDark_3, e_jsr, kl_m9223372036854775808, e_lret, kl_0, e_lstore_2, e_kpi, e_kpr, e_kpl, e_kpd, k_0, e_istore_4, e_iload_4, k_24, e_icmp_ge, g_597_61, il_62, il_63, il_64, il_66, il_67, il_68, il_69, il_70, il_71, il_72, il_73, il_74, il_75, il_76, il_77, ik_62_0, ik_62_1, ik_62_2, ik_62_3, ik_62_4, ik_73_0, ik_74_0, k_m9, e_icmp_eq, g_594_61, g_592_61, cc_M_findVolts_0, cc_M_findVolts_1, cc_M_findVolts_2, cc_M_findVolts_3, e_lload_2, g_595_61, g_593_61, e_i2l, e_lmul, g_596_61, e_ldiv, e_ladd, e_iinc_4, e_goto, eq_self, le24 hi2, cc3, hj5, hlo, n9n9, not_true_eq_false, not_false_eq_true, if_true, if_false, true_or, or_true, false_or, or_false, true_and, and_true, false_and, and_false, and_self, or_self, reduceIte, Bool.false_eq_true, i10, i01, e_inc1]
        | true =>
          have hlo : a2 75 j = nI (cntB (q_th (kL (LN q) (kO (LN q)) nt i)) j) := by rw [w5 j hj]; unfold lof; rw [if_pos hth]; rfl
          obtain ⟨v1, v2, v3⟩ := x_volt w3 hj5 (by rw [hte]; exact hth)
          rw [hte] at v1 v2
          have hc5 : cntB (q_th (kL (LN q) (kO (LN q)) nt i)) j < 5 := by omega
          obtain ⟨a1, aR, a3, a4, a5⟩ := id w3
          obtain ⟨s1, s2, s3, s4, s5, s6, s7, s8, s9⟩ := id a1
          have hy := r_y a3
          have hex := r_ex (l := q_end (kC (LN q) (-9) n) (kL (LN q) (kO (LN q)) nt i)) a1 hm a5
          rw [← a4] at hex
          have hA := (a3.2.2 j hj5).1 (by rw [hte]; exact hth)
          rw [hte] at hA
          have hA2 : (a2 74 (cntB (q_th (kL (LN q) (kO (LN q)) nt i)) j)).toInt64 = Int64.ofInt (q_am (q_end (kC (LN q) (-9) n) (kL (LN q) (kO (LN q)) nt i)) j) := by rw [i64_of]; exact congrArg Int64.ofInt hA.2.2
          obtain ⟨U, D, u1, u2, u3, u4, u5⟩ := fr2_times (N := q_am (q_end (kC (LN q) (-9) n) (kL (LN q) (kO (LN q)) nt i)) j) v1 (Nat.le_refl _) (a3.2.2 j hj5).2.1
          have u1' := u1
          have u2' := u2
          unfold vlu at u1'
          unfold vld at u2'
          have hne : ¬ Int64.ofInt D = 0 := fun z => by have := (i64_eq (a := D) (b := 0) (by omega) (by decide)).mp z; omega
          refine ⟨(a2, ud b2 (vlu a2 (cntB (q_th (kL (LN q) (kO (LN q)) nt i)) 5) n (a2 61 18) (a2 73 (cntB (q_th (kL (LN q) (kO (LN q)) nt i)) j))) (vld a2 n (a2 61 18) (a2 73 (cntB (q_th (kL (LN q) (kO (LN q)) nt i)) j)))), hd b_169_24 ?_, h1_tr (h1_fq w2) j1, k1_tr (k1_ux ux_ud) (k1_tr (k1_ux w4) j2)⟩
          rw [if_pos rfl, ← u5]
          simp only [b_169_e, b_169_15, b_169_19, b_169_92, b_169_98, e_aloadr_0, e_iload_1, cc_M_isTrain_0, cc_M_isTrain_1, cc_M_isTrain_2, cc_M_isTrain_3, Option.toList_some, Option.toList_none, List.cons_append, List.nil_append, e_if_eq, cc_M_isDark_0, cc_M_isDark_1, cc_M_isDark_2, cc_M_isDark_3, e_jsr, kl_m9223372036854775808, e_lret, kl_0, e_lstore_2, e_kpi, e_kpr, e_kpl, e_kpd, k_0, e_istore_4, e_iload_4, k_24, e_icmp_ge, g_597_61, il_62, il_63, il_64, il_66, il_67, il_68, il_69, il_70, il_71, il_72, il_73, il_74, il_75, il_76, il_77, ik_62_0, ik_62_1, ik_62_2, ik_62_3, ik_62_4, ik_73_0, ik_74_0, k_m9, e_icmp_eq, g_594_61, g_592_61, cc_M_findVolts_0, cc_M_findVolts_1, cc_M_findVolts_2, cc_M_findVolts_3, e_lload_2, g_595_61, g_593_61, e_i2l, e_lmul, g_596_61, e_ldiv, e_ladd, e_iinc_4, e_goto, eq_self, le24 hi2, cc3, hj5, hc5, hlo, eq_n9 (show cntB (q_th (kL (LN q) (kO (LN q)) nt i)) j < 1000 by omega), cc_M_findVolts_0 s1 s2 a3.1 v3 (hy _ v2) s3 hy hex, ud_u, ud_d, u1', u2', hA2, ← Int64.ofInt_mul, e_ldiv hne, i64_div (A := U * q_am (q_end (kC (LN q) (-9) n) (kL (LN q) (kO (LN q)) nt i)) j) (B := D) (by omega) (by omega) (by omega), vlu, vld, not_true_eq_false, not_false_eq_true, if_true, if_false, true_or, or_true, false_or, or_false, true_and, and_true, false_and, and_false, and_self, or_self, reduceIte, Bool.false_eq_true, i10, i01, e_inc1]) (p, r) ⟨h1_rf, k1_rf⟩
      obtain ⟨a, b⟩ := x'
      obtain ⟨j1, j2⟩ := hJ
      dsimp only at hl j1 j2
      refine ⟨d_used (kC (LN q) (-9) n) (kL (LN q) (kO (LN q)) nt) j 24, p, r, a, b, n, nt, ?_, ?_, INV_of hip (sc_h1 j1) (sl_k1 j2)⟩
      · simp only [b_87_e, b_87_21, b_87_25, e_aloadr_0, g_512_0, e_iload_1, cc_Line_hasTrain_0, cc_Line_hasTrain_1, cc_Line_hasTrain_2, cc_Line_hasTrain_3, Option.toList_some, Option.toList_none, List.cons_append, List.nil_append, e_if_eq, cc_Line_isDark_0, cc_Line_isDark_1, cc_Line_isDark_2, cc_Line_isDark_3, e_jsr, kl_m9223372036854775808, e_lret, g_513_0, k_m9, cc_Day_takeStations_0, cc_Day_takeStations_1, cc_Day_takeStations_2, cc_Day_takeStations_3, eq_self, l3, hx, cc_Line_isDark_0 l1 l2, i_dk1 hi, hdk, cc_Day_takeStations_0 l1 l2, cc1, not_true_eq_false, not_false_eq_true, if_true, if_false, true_or, or_true, false_or, or_false, true_and, and_true, false_and, and_false, and_self, or_self, reduceIte, Bool.false_eq_true, i10, i01]
      · have hend : ev E 169 (am_B 169 (Int.toNat 24)) [.ref 61, .int (nI j), .long (d_used (kC (LN q) (-9) n) (kL (LN q) (kO (LN q)) nt) j 24), am_dm, .int (nI 24)] [] (HH a b) = some (some (.long (d_used (kC (LN q) (-9) n) (kL (LN q) (kO (LN q)) nt) j 24)), HH a b) := by
          refine hd b_169_24 ?_
          simp only [b_169_e, b_169_15, b_169_19, b_169_92, b_169_98, e_aloadr_0, e_iload_1, cc_M_isTrain_0, cc_M_isTrain_1, cc_M_isTrain_2, cc_M_isTrain_3, Option.toList_some, Option.toList_none, List.cons_append, List.nil_append, e_if_eq, cc_M_isDark_0, cc_M_isDark_1, cc_M_isDark_2, cc_M_isDark_3, e_jsr, kl_m9223372036854775808, e_lret, kl_0, e_lstore_2, e_kpi, e_kpr, e_kpl, e_kpd, k_0, e_istore_4, e_iload_4, k_24, e_icmp_ge, g_597_61, il_62, il_63, il_64, il_66, il_67, il_68, il_69, il_70, il_71, il_72, il_73, il_74, il_75, il_76, il_77, ik_62_0, ik_62_1, ik_62_2, ik_62_3, ik_62_4, ik_73_0, ik_74_0, k_m9, e_icmp_eq, g_594_61, g_592_61, cc_M_findVolts_0, cc_M_findVolts_1, cc_M_findVolts_2, cc_M_findVolts_3, e_lload_2, g_595_61, g_593_61, e_i2l, e_lmul, g_596_61, e_ldiv, e_ladd, e_iinc_4, e_goto, eq_self, le2424, not_true_eq_false, not_false_eq_true, if_true, if_false, true_or, or_true, false_or, or_false, true_and, and_true, false_and, and_false, and_self, or_self, reduceIte, Bool.false_eq_true, i10, i01]
        rw [← hend, ← hl]
        simp only [b_169_e, b_169_15, b_169_19, b_169_92, b_169_98, e_aloadr_0, e_iload_1, cc_M_isTrain_0, cc_M_isTrain_1, cc_M_isTrain_2, cc_M_isTrain_3, Option.toList_some, Option.toList_none, List.cons_append, List.nil_append, e_if_eq, cc_M_isDark_0, cc_M_isDark_1, cc_M_isDark_2, cc_M_isDark_3, e_jsr, kl_m9223372036854775808, e_lret, kl_0, e_lstore_2, e_kpi, e_kpr, e_kpl, e_kpd, k_0, e_istore_4, e_iload_4, k_24, e_icmp_ge, g_597_61, il_62, il_63, il_64, il_66, il_67, il_68, il_69, il_70, il_71, il_72, il_73, il_74, il_75, il_76, il_77, ik_62_0, ik_62_1, ik_62_2, ik_62_3, ik_62_4, ik_73_0, ik_74_0, k_m9, e_icmp_eq, g_594_61, g_592_61, cc_M_findVolts_0, cc_M_findVolts_1, cc_M_findVolts_2, cc_M_findVolts_3, e_lload_2, g_595_61, g_593_61, e_i2l, e_lmul, g_596_61, e_ldiv, e_ladd, e_iinc_4, e_goto, eq_self, m6, hx, cc_M_isDark_0 m5 l2, i_dk2 hip, hdp, not_true_eq_false, not_false_eq_true, if_true, if_false, true_or, or_true, false_or, or_false, true_and, and_true, false_and, and_false, and_self, or_self, reduceIte, Bool.false_eq_true, i10, i01]
        rfl
  · refine ⟨-9223372036854775808, q, s, q, s, n, nt, ?_, ?_, hi⟩
    · simp only [b_87_e, b_87_21, b_87_25, e_aloadr_0, g_512_0, e_iload_1, cc_Line_hasTrain_0, cc_Line_hasTrain_1, cc_Line_hasTrain_2, cc_Line_hasTrain_3, Option.toList_some, Option.toList_none, List.cons_append, List.nil_append, e_if_eq, cc_Line_isDark_0, cc_Line_isDark_1, cc_Line_isDark_2, cc_Line_isDark_3, e_jsr, kl_m9223372036854775808, e_lret, g_513_0, k_m9, cc_Day_takeStations_0, cc_Day_takeStations_1, cc_Day_takeStations_2, cc_Day_takeStations_3, eq_self, l3, hx, not_true_eq_false, not_false_eq_true, if_true, if_false, true_or, or_true, false_or, or_false, true_and, and_true, false_and, and_false, and_self, or_self, reduceIte, Bool.false_eq_true, i10, i01]
    · simp only [b_169_e, b_169_15, b_169_19, b_169_92, b_169_98, e_aloadr_0, e_iload_1, cc_M_isTrain_0, cc_M_isTrain_1, cc_M_isTrain_2, cc_M_isTrain_3, Option.toList_some, Option.toList_none, List.cons_append, List.nil_append, e_if_eq, cc_M_isDark_0, cc_M_isDark_1, cc_M_isDark_2, cc_M_isDark_3, e_jsr, kl_m9223372036854775808, e_lret, kl_0, e_lstore_2, e_kpi, e_kpr, e_kpl, e_kpd, k_0, e_istore_4, e_iload_4, k_24, e_icmp_ge, g_597_61, il_62, il_63, il_64, il_66, il_67, il_68, il_69, il_70, il_71, il_72, il_73, il_74, il_75, il_76, il_77, ik_62_0, ik_62_1, ik_62_2, ik_62_3, ik_62_4, ik_73_0, ik_74_0, k_m9, e_icmp_eq, g_594_61, g_592_61, cc_M_findVolts_0, cc_M_findVolts_1, cc_M_findVolts_2, cc_M_findVolts_3, e_lload_2, g_595_61, g_593_61, e_i2l, e_lmul, g_596_61, e_ldiv, e_ladd, e_iinc_4, e_goto, eq_self, l6, hx, not_true_eq_false, not_false_eq_true, if_true, if_false, true_or, or_true, false_or, or_false, true_and, and_true, false_and, and_false, and_self, or_self, reduceIte, Bool.false_eq_true, i10, i01]
theorem o_given (hi : INV q s n nt) (x : Int32) : OPl E 90 170 [.ref 0, .int x] [.ref 61, .int x, am_dm, am_dm, am_dm] q s := by
  obtain ⟨⟨l1, l2⟩, ⟨l3, l4⟩, ⟨l5, l6⟩, l7⟩ := lay_b hi
  by_cases hx : 0 ≤ x ∧ x < nI n
  · by_cases hdk : dk q n
    · refine ⟨-9223372036854775808, q, s, q, s, n, nt, ?_, ?_, hi⟩
      · simp only [b_90_e, b_90_21, b_90_25, e_aloadr_0, g_512_0, e_iload_1, cc_Line_hasStation_0, cc_Line_hasStation_1, cc_Line_hasStation_2, cc_Line_hasStation_3, Option.toList_some, Option.toList_none, List.cons_append, List.nil_append, e_if_eq, cc_Line_isDark_0, cc_Line_isDark_1, cc_Line_isDark_2, cc_Line_isDark_3, e_jsr, kl_m9223372036854775808, e_lret, g_513_0, k_m9, cc_Day_takeStations_0, cc_Day_takeStations_1, cc_Day_takeStations_2, cc_Day_takeStations_3, eq_self, l1, hx, cc_Line_isDark_0 l1 l2, i_dk1 hi, hdk, not_true_eq_false, not_false_eq_true, if_true, if_false, true_or, or_true, false_or, or_false, true_and, and_true, false_and, and_false, and_self, or_self, reduceIte, Bool.false_eq_true, i10, i01]
      · simp only [b_170_e, b_170_15, b_170_19, b_170_78, b_170_84, e_aloadr_0, e_iload_1, cc_M_isStation_0, cc_M_isStation_1, cc_M_isStation_2, cc_M_isStation_3, Option.toList_some, Option.toList_none, List.cons_append, List.nil_append, e_if_eq, cc_M_isDark_0, cc_M_isDark_1, cc_M_isDark_2, cc_M_isDark_3, e_jsr, kl_m9223372036854775808, e_lret, kl_0, e_lstore_2, e_kpi, e_kpr, e_kpl, e_kpd, k_0, e_istore_4, e_iload_4, k_24, e_icmp_ge, g_594_61, e_ishr, k_1, e_iand, e_icmp_ne, cc_M_findGiven_0, cc_M_findGiven_1, cc_M_findGiven_2, cc_M_findGiven_3, e_lload_2, g_578_61, k_2, il_62, il_63, il_64, il_66, il_67, il_68, il_69, il_70, il_71, il_72, il_73, il_74, il_75, il_76, il_77, ik_62_0, ik_62_1, ik_62_2, ik_62_3, ik_62_4, ik_73_0, ik_74_0, e_i2l, g_595_61, e_lmul, g_596_61, e_ldiv, e_ladd, e_iinc_4, e_goto, eq_self, l5, hx, cc_M_isDark_0 l5 l2, i_dk2 hi, hdk, not_true_eq_false, not_false_eq_true, if_true, if_false, true_or, or_true, false_or, or_false, true_and, and_true, false_and, and_false, and_self, or_self, reduceIte, Bool.false_eq_true, i10, i01]
    · have hm : 0 < q_m (kC (LN q) (-9) n) := Nat.pos_of_ne_zero hdk
      obtain ⟨j, hj, rfl⟩ := rng_n (N := n) (by omega) hx.1 hx.2
      have hj5 : j < 5 := by omega
      have hT := hi.1.1.2.2.2.1
      obtain ⟨p, r, e1, e2, e3⟩ := y_given (E := E) (ml := s) hj5 (LI_T hi.1.1 (-9)) hm hT
      have eV : tks q (-9) n 2 2 = q 2 2 := tks_ne (by decide) (by decide) (by decide) n
      rw [eV] at e1
      have cc1 : ∀ {M_ : Nat} {c_ : List Instr} {L_ : List Value}, ev E M_ (.invokevirtual 91 :: c_) L_ (.int (nI j) :: .ref 26 :: []) (HH (tks q (-9) n) s) = ev E M_ c_ L_ (.long (d_given (kC (LN q) (-9) n) (kL (LN q) (kO (LN q)) nt) (q 2 2).toInt j 24) :: []) (HH p r) := fun {M_} {c_} {L_} => e_inv (as := [.ref 26, .int (nI j)]) (S := []) rfl rfl (Nat.le_of_ble_eq_true rfl) (rfl) (e1)
      have hf2 : f2 p q := f2_tr (f2_f1 e2) f2_tks
      have hip := INV_of hi (sc_f2 hf2) (sl_g1 e3)
      obtain ⟨I, hZ⟩ := i_rS hip
      rw [LN_f2 hf2] at hZ
      obtain ⟨⟨m1, m2⟩, ⟨m3, m4⟩, ⟨m5, m6⟩, m7⟩ := lay_b hip
      have hdp : ¬ dk p n := by unfold dk; rw [LN_f2 hf2]; exact hdk
      have emV : p 62 2 = q 2 2 := by rw [m7 2 (by decide)]; exact hf2 2 2 (by decide) (by decide) (by decide) (by decide) (by decide) (by decide) (by decide) (by decide) (by decide)
      have hVb : (q 2 2).toInt.natAbs ≤ 100000 := by have := hi.1.1.2.2.1.2.2.1; rw [LN_2] at this; omega
      obtain ⟨x', hl, hJ⟩ := loop_inv (fun i (x : (Nat → Nat → Int32) × (Nat → Nat → Int64)) => ev E 170 (am_B 170 (Int.toNat 24)) [.ref 61, .int (nI j), .long (d_given (kC (LN q) (-9) n) (kL (LN q) (kO (LN q)) nt) (q 2 2).toInt j i), am_dm, .int (nI i)] [] (HH x.1 x.2)) (fun i x => h1 x.1 p ∧ k1 x.2 r) 24 (fun i x hi2 hj2 => by
        obtain ⟨a, b⟩ := x
        obtain ⟨j1, j2⟩ := hj2
        dsimp only at j1 j2 ⊢
        have hZa := rZ_h1 hZ j1
        obtain ⟨a2, b2, w1, w2, w3, w4, w5⟩ := x_tick (E := E) (ml := b) hZa hT hi2 hm
        have cc3 : ∀ {M_ : Nat} {c_ : List Instr} {L_ : List Value}, ev E M_ (.invokevirtual 142 :: c_) L_ (.int (nI i) :: .ref 61 :: []) (HH a b) = ev E M_ c_ L_ [] (HH a2 b2) := fun {M_} {c_} {L_} => e_inv (as := [.ref 61, .int (nI i)]) (S := []) rfl rfl (Nat.le_of_ble_eq_true rfl) (rfl) (w1)
        have hbit := x_bit w3 hj
        obtain ⟨a1, aR, a3, a4, a5⟩ := id w3
        obtain ⟨s1, s2, s3, s4, s5, s6, s7, s8, s9⟩ := id a1
        have ha2 : h1 a2 p := h1_tr (h1_fq w2) j1
        have eaV : a2 62 2 = q 2 2 := by rw [ha2 62 2 (by decide) (by decide) (by decide) (by decide) (by decide) (by decide)]; exact emV
        have hdg := d_gv_at (s := j) (le := q_end (kC (LN q) (-9) n) (kL (LN q) (kO (LN q)) nt i)) (fun i j h1 h2 h3 => nu_inj a1 h1 h2 h3) (q_m (kC (LN q) (-9) n)) (Nat.le_refl _)
        rw [d_given]
        by_cases hbt : a2 61 18 >>> (nI j &&& 31) &&& 1 = 1
        · obtain ⟨i2, hi3, he, hF⟩ := hbit.mp hbt
          have hgg : d_gives (kC (LN q) (-9) n) (q_end (kC (LN q) (-9) n) (kL (LN q) (kO (LN q)) nt i)) j = q_g (kC (LN q) (-9) n) (q_end (kC (LN q) (-9) n) (kL (LN q) (kO (LN q)) nt i)) i2 := hdg.1 i2 hi3 hF he
          have hge := x_give w3 hm hi3 hF
          rw [he] at hge
          obtain ⟨U, D, u1, u2, u3, u4, u5⟩ := fr2_times (N := (q 2 2).toInt) hge (Nat.le_refl _) hVb
          have u1' := u1
          have u2' := u2
          unfold gvu at u1'
          unfold gvd at u2'
          have hne : ¬ Int64.ofInt D = 0 := fun z => by have := (i64_eq (a := D) (b := 0) (by omega) (by decide)).mp z; omega
          have hcom : (q 2 2).toInt * U = U * (q 2 2).toInt := Int.mul_comm _ _
          refine ⟨(a2, ud b2 (gvu a2 (cntB (q_th (kL (LN q) (kO (LN q)) nt i)) 5) n (a2 61 18) j) (gvd a2 n (a2 61 18) j)), hd b_170_24 ?_, ha2, k1_tr (k1_ux ux_ud) (k1_tr (k1_ux w4) j2)⟩
          rw [hgg, ← u5]
          simp only [b_170_e, b_170_15, b_170_19, b_170_78, b_170_84, e_aloadr_0, e_iload_1, cc_M_isStation_0, cc_M_isStation_1, cc_M_isStation_2, cc_M_isStation_3, Option.toList_some, Option.toList_none, List.cons_append, List.nil_append, e_if_eq, cc_M_isDark_0, cc_M_isDark_1, cc_M_isDark_2, cc_M_isDark_3, e_jsr, kl_m9223372036854775808, e_lret, kl_0, e_lstore_2, e_kpi, e_kpr, e_kpl, e_kpd, k_0, e_istore_4, e_iload_4, k_24, e_icmp_ge, g_594_61, e_ishr, k_1, e_iand, e_icmp_ne, cc_M_findGiven_0, cc_M_findGiven_1, cc_M_findGiven_2, cc_M_findGiven_3, e_lload_2, g_578_61, k_2, il_62, il_63, il_64, il_66, il_67, il_68, il_69, il_70, il_71, il_72, il_73, il_74, il_75, il_76, il_77, ik_62_0, ik_62_1, ik_62_2, ik_62_3, ik_62_4, ik_73_0, ik_74_0, e_i2l, g_595_61, e_lmul, g_596_61, e_ldiv, e_ladd, e_iinc_4, e_goto, eq_self, le24 hi2, cc3, hbt, cc_M_findGiven_0 s1 s2 hj a3.1 (r_K a3) s3 (fun s hs => (s3 s hs).1) (r_y a3), eaV, ud_u, ud_d, u1', u2', i64_of, ← Int64.ofInt_mul, hcom, e_ldiv hne, i64_div (A := U * (q 2 2).toInt) (B := D) (by omega) (by omega) (by omega), gvu, gvd, not_true_eq_false, not_false_eq_true, if_true, if_false, true_or, or_true, false_or, or_false, true_and, and_true, false_and, and_false, and_self, or_self, reduceIte, Bool.false_eq_true, i10, i01, e_inc1]
        · have hgg : d_gives (kC (LN q) (-9) n) (q_end (kC (LN q) (-9) n) (kL (LN q) (kO (LN q)) nt i)) j = 0 := hdg.2 (fun i2 hi3 z => hbt (hbit.mpr ⟨i2, hi3, z.2, z.1⟩))
          refine ⟨(a2, b2), hd b_170_24 ?_, ha2, k1_tr (k1_ux w4) j2⟩
          rw [hgg, q_cut_0, show Int64.ofInt 0 = 0 from rfl, Int64.add_zero]
          simp only [b_170_e, b_170_15, b_170_19, b_170_78, b_170_84, e_aloadr_0, e_iload_1, cc_M_isStation_0, cc_M_isStation_1, cc_M_isStation_2, cc_M_isStation_3, Option.toList_some, Option.toList_none, List.cons_append, List.nil_append, e_if_eq, cc_M_isDark_0, cc_M_isDark_1, cc_M_isDark_2, cc_M_isDark_3, e_jsr, kl_m9223372036854775808, e_lret, kl_0, e_lstore_2, e_kpi, e_kpr, e_kpl, e_kpd, k_0, e_istore_4, e_iload_4, k_24, e_icmp_ge, g_594_61, e_ishr, k_1, e_iand, e_icmp_ne, cc_M_findGiven_0, cc_M_findGiven_1, cc_M_findGiven_2, cc_M_findGiven_3, e_lload_2, g_578_61, k_2, il_62, il_63, il_64, il_66, il_67, il_68, il_69, il_70, il_71, il_72, il_73, il_74, il_75, il_76, il_77, ik_62_0, ik_62_1, ik_62_2, ik_62_3, ik_62_4, ik_73_0, ik_74_0, e_i2l, g_595_61, e_lmul, g_596_61, e_ldiv, e_ladd, e_iinc_4, e_goto, eq_self, le24 hi2, cc3, hbt, not_true_eq_false, not_false_eq_true, if_true, if_false, true_or, or_true, false_or, or_false, true_and, and_true, false_and, and_false, and_self, or_self, reduceIte, Bool.false_eq_true, i10, i01, e_inc1]) (p, r) ⟨h1_rf, k1_rf⟩
      obtain ⟨a, b⟩ := x'
      obtain ⟨j1, j2⟩ := hJ
      dsimp only at hl j1 j2
      refine ⟨d_given (kC (LN q) (-9) n) (kL (LN q) (kO (LN q)) nt) (q 2 2).toInt j 24, p, r, a, b, n, nt, ?_, ?_, INV_of hip (sc_h1 j1) (sl_k1 j2)⟩
      · simp only [b_90_e, b_90_21, b_90_25, e_aloadr_0, g_512_0, e_iload_1, cc_Line_hasStation_0, cc_Line_hasStation_1, cc_Line_hasStation_2, cc_Line_hasStation_3, Option.toList_some, Option.toList_none, List.cons_append, List.nil_append, e_if_eq, cc_Line_isDark_0, cc_Line_isDark_1, cc_Line_isDark_2, cc_Line_isDark_3, e_jsr, kl_m9223372036854775808, e_lret, g_513_0, k_m9, cc_Day_takeStations_0, cc_Day_takeStations_1, cc_Day_takeStations_2, cc_Day_takeStations_3, eq_self, l1, hx, cc_Line_isDark_0 l1 l2, i_dk1 hi, hdk, cc_Day_takeStations_0 l1 l2, cc1, not_true_eq_false, not_false_eq_true, if_true, if_false, true_or, or_true, false_or, or_false, true_and, and_true, false_and, and_false, and_self, or_self, reduceIte, Bool.false_eq_true, i10, i01]
      · have hend : ev E 170 (am_B 170 (Int.toNat 24)) [.ref 61, .int (nI j), .long (d_given (kC (LN q) (-9) n) (kL (LN q) (kO (LN q)) nt) (q 2 2).toInt j 24), am_dm, .int (nI 24)] [] (HH a b) = some (some (.long (d_given (kC (LN q) (-9) n) (kL (LN q) (kO (LN q)) nt) (q 2 2).toInt j 24)), HH a b) := by
          refine hd b_170_24 ?_
          simp only [b_170_e, b_170_15, b_170_19, b_170_78, b_170_84, e_aloadr_0, e_iload_1, cc_M_isStation_0, cc_M_isStation_1, cc_M_isStation_2, cc_M_isStation_3, Option.toList_some, Option.toList_none, List.cons_append, List.nil_append, e_if_eq, cc_M_isDark_0, cc_M_isDark_1, cc_M_isDark_2, cc_M_isDark_3, e_jsr, kl_m9223372036854775808, e_lret, kl_0, e_lstore_2, e_kpi, e_kpr, e_kpl, e_kpd, k_0, e_istore_4, e_iload_4, k_24, e_icmp_ge, g_594_61, e_ishr, k_1, e_iand, e_icmp_ne, cc_M_findGiven_0, cc_M_findGiven_1, cc_M_findGiven_2, cc_M_findGiven_3, e_lload_2, g_578_61, k_2, il_62, il_63, il_64, il_66, il_67, il_68, il_69, il_70, il_71, il_72, il_73, il_74, il_75, il_76, il_77, ik_62_0, ik_62_1, ik_62_2, ik_62_3, ik_62_4, ik_73_0, ik_74_0, e_i2l, g_595_61, e_lmul, g_596_61, e_ldiv, e_ladd, e_iinc_4, e_goto, eq_self, le2424, not_true_eq_false, not_false_eq_true, if_true, if_false, true_or, or_true, false_or, or_false, true_and, and_true, false_and, and_false, and_self, or_self, reduceIte, Bool.false_eq_true, i10, i01]
        rw [← hend, ← hl]
        simp only [b_170_e, b_170_15, b_170_19, b_170_78, b_170_84, e_aloadr_0, e_iload_1, cc_M_isStation_0, cc_M_isStation_1, cc_M_isStation_2, cc_M_isStation_3, Option.toList_some, Option.toList_none, List.cons_append, List.nil_append, e_if_eq, cc_M_isDark_0, cc_M_isDark_1, cc_M_isDark_2, cc_M_isDark_3, e_jsr, kl_m9223372036854775808, e_lret, kl_0, e_lstore_2, e_kpi, e_kpr, e_kpl, e_kpd, k_0, e_istore_4, e_iload_4, k_24, e_icmp_ge, g_594_61, e_ishr, k_1, e_iand, e_icmp_ne, cc_M_findGiven_0, cc_M_findGiven_1, cc_M_findGiven_2, cc_M_findGiven_3, e_lload_2, g_578_61, k_2, il_62, il_63, il_64, il_66, il_67, il_68, il_69, il_70, il_71, il_72, il_73, il_74, il_75, il_76, il_77, ik_62_0, ik_62_1, ik_62_2, ik_62_3, ik_62_4, ik_73_0, ik_74_0, e_i2l, g_595_61, e_lmul, g_596_61, e_ldiv, e_ladd, e_iinc_4, e_goto, eq_self, m5, hx, cc_M_isDark_0 m5 l2, i_dk2 hip, hdp, not_true_eq_false, not_false_eq_true, if_true, if_false, true_or, or_true, false_or, or_false, true_and, and_true, false_and, and_false, and_self, or_self, reduceIte, Bool.false_eq_true, i10, i01]
        rfl
  · refine ⟨-9223372036854775808, q, s, q, s, n, nt, ?_, ?_, hi⟩
    · simp only [b_90_e, b_90_21, b_90_25, e_aloadr_0, g_512_0, e_iload_1, cc_Line_hasStation_0, cc_Line_hasStation_1, cc_Line_hasStation_2, cc_Line_hasStation_3, Option.toList_some, Option.toList_none, List.cons_append, List.nil_append, e_if_eq, cc_Line_isDark_0, cc_Line_isDark_1, cc_Line_isDark_2, cc_Line_isDark_3, e_jsr, kl_m9223372036854775808, e_lret, g_513_0, k_m9, cc_Day_takeStations_0, cc_Day_takeStations_1, cc_Day_takeStations_2, cc_Day_takeStations_3, eq_self, l1, hx, not_true_eq_false, not_false_eq_true, if_true, if_false, true_or, or_true, false_or, or_false, true_and, and_true, false_and, and_false, and_self, or_self, reduceIte, Bool.false_eq_true, i10, i01]
    · simp only [b_170_e, b_170_15, b_170_19, b_170_78, b_170_84, e_aloadr_0, e_iload_1, cc_M_isStation_0, cc_M_isStation_1, cc_M_isStation_2, cc_M_isStation_3, Option.toList_some, Option.toList_none, List.cons_append, List.nil_append, e_if_eq, cc_M_isDark_0, cc_M_isDark_1, cc_M_isDark_2, cc_M_isDark_3, e_jsr, kl_m9223372036854775808, e_lret, kl_0, e_lstore_2, e_kpi, e_kpr, e_kpl, e_kpd, k_0, e_istore_4, e_iload_4, k_24, e_icmp_ge, g_594_61, e_ishr, k_1, e_iand, e_icmp_ne, cc_M_findGiven_0, cc_M_findGiven_1, cc_M_findGiven_2, cc_M_findGiven_3, e_lload_2, g_578_61, k_2, il_62, il_63, il_64, il_66, il_67, il_68, il_69, il_70, il_71, il_72, il_73, il_74, il_75, il_76, il_77, ik_62_0, ik_62_1, ik_62_2, ik_62_3, ik_62_4, ik_73_0, ik_74_0, e_i2l, g_595_61, e_lmul, g_596_61, e_ldiv, e_ladd, e_iinc_4, e_goto, eq_self, l5, hx, not_true_eq_false, not_false_eq_true, if_true, if_false, true_or, or_true, false_or, or_false, true_and, and_true, false_and, and_false, and_self, or_self, reduceIte, Bool.false_eq_true, i10, i01]
/-- the first station without which it fails -/
def foB (q : Nat → Nat → Int32) (n nt k : Nat) : Bool := sI q k && !d_safe (LN q) (nI k) n nt
theorem fsti_at {c : Nat → Bool} {n i : Nat} (hi : i < n) (h1 : ∀ j, j < i → c j = false) (h2 : c i = true) : fsti c 0 n = some i := by
  cases h : fsti c 0 n with
  | none => have := fsti_none h i (by omega) (by omega); rw [h2] at this; cases this
  | some j =>
    obtain ⟨_, a2, a3, a4⟩ := fsti_some h
    rcases (show i < j ∨ i = j ∨ j < i by omega) with z | z | z
    · have := a4 i (by omega) z; rw [h2] at this; cases this
    · rw [z]
    · have := h1 j z; rw [a3] at this; cases this
theorem fsti_no {c : Nat → Bool} {n : Nat} (h : ∀ j, j < n → c j = false) : fsti c 0 n = none := by
  cases h2 : fsti c 0 n with
  | none => rfl
  | some j => obtain ⟨_, a2, a3, _⟩ := fsti_some h2; have := h j (by omega); rw [a3] at this; cases this
theorem o_firstOut (hi : INV q s n nt) : OPi E 73 160 [.ref 0, am_dm] [.ref 61, am_dm, am_dm] q s := by
  obtain ⟨⟨l1, l2⟩, ⟨l3, l4⟩, ⟨l5, l6⟩, l7⟩ := lay_b hi
  by_cases hdk : dk q n
  · refine ⟨-3, q, s, q, s, n, nt, ?_, ?_, hi⟩
    · simp only [b_73_e, b_73_13, b_73_54, b_73_60, e_aloadr_0, g_512_0, cc_Line_isDark_0, cc_Line_isDark_1, cc_Line_isDark_2, cc_Line_isDark_3, Option.toList_some, Option.toList_none, List.cons_append, List.nil_append, e_if_eq, k_m3, e_iret, k_0, e_istore_1, e_kpi, e_kpr, e_kpl, e_kpd, e_jsr, e_iload_1, g_132_1, e_icmp_ge, g_129_1, il_3, il_4, il_29, il_51, g_386_6, g_386_7, g_386_8, g_386_9, g_386_10, gs_f386, g_513_0, e_if_ne, e_iinc_1, e_goto, k_m9, eq_self, cc_Line_isDark_0 l1 l2, i_dk1 hi, hdk, not_true_eq_false, not_false_eq_true, if_true, if_false, true_or, or_true, false_or, or_false, true_and, and_true, false_and, and_false, and_self, or_self, reduceIte, Bool.false_eq_true, i10, i01]
    · simp only [b_160_e, b_160_10, b_160_32, b_160_53, b_160_57, b_160_58, b_160_72, b_160_78, e_aloadr_0, cc_M_isDark_0, cc_M_isDark_1, cc_M_isDark_2, cc_M_isDark_3, Option.toList_some, Option.toList_none, List.cons_append, List.nil_append, e_if_eq, k_m3, e_iret, k_0, e_istore_1, e_kpi, e_kpr, e_kpl, e_kpd, e_jsr, e_iload_1, g_579_61, e_icmp_ge, g_582_61, il_65, e_goto, k_1, is_65, e_if_ne, e_istore_2, e_iload_2, e_iinc_1, k_m9, eq_self, cc_M_isDark_0 l5 l2, i_dk2 hi, hdk, not_true_eq_false, not_false_eq_true, if_true, if_false, true_or, or_true, false_or, or_false, true_and, and_true, false_and, and_false, and_self, or_self, reduceIte, Bool.false_eq_true, i10, i01]
  · have hT := hi.1.1.2.2.2.1
    have hcl : ∃ p r, ev E 73 (am_B 73 (Int.toNat 15)) [.ref 0, .int (nI 0)] [] (HH q s) = some (some (.int (oM (fsti (foB q n nt) 0 n))), HH p r) ∧ f2 p q ∧ g1 r s := by
      refine loop_ex (fun i (x : (Nat → Nat → Int32) × (Nat → Nat → Int64)) => ev E 73 (am_B 73 (Int.toNat 15)) [.ref 0, .int (nI i)] [] (HH x.1 x.2)) (fun i x => f2 x.1 q ∧ g1 x.2 s ∧ ∀ t, t < i → foB q n nt t = false) (fun y => ∃ p r, y = some (some (.int (oM (fsti (foB q n nt) 0 n))), HH p r) ∧ f2 p q ∧ g1 r s) n (fun i x hi2 hj => ?_) (fun x hj => ?_) (q, s) ⟨f2_rf, g1_rf, fun t ht => by omega⟩
      · obtain ⟨a, b⟩ := x
        obtain ⟨j1, j2, j3⟩ := hj
        dsimp only at j1 j2 j3 ⊢
        have hi5 : i < 5 := by omega
        have e14 : a 1 4 = nI n := by rw [j1 1 4 (by decide) (by decide) (by decide) (by decide) (by decide) (by decide) (by decide) (by decide) (by decide)]; exact l1
        have e62 : a (6 + i) 2 = q (6 + i) 2 := j1 _ _ (by omega) (by omega) (by omega) (by omega) (by omega) (by omega) (by omega) (by omega) (by omega)
        have hsi : sI q i = decide (¬ q (6 + i) 2 = 0) := rfl
        by_cases hin : q (6 + i) 2 = 0
        · right
          refine ⟨(a, b), hd b_73_15 ?_, j1, j2, fun t ht => ?_⟩
          · simp only [b_73_e, b_73_13, b_73_54, b_73_60, e_aloadr_0, g_512_0, cc_Line_isDark_0, cc_Line_isDark_1, cc_Line_isDark_2, cc_Line_isDark_3, Option.toList_some, Option.toList_none, List.cons_append, List.nil_append, e_if_eq, k_m3, e_iret, k_0, e_istore_1, e_kpi, e_kpr, e_kpl, e_kpd, e_jsr, e_iload_1, g_132_1, e_icmp_ge, g_129_1, il_3, il_4, il_29, il_51, g_386_6, g_386_7, g_386_8, g_386_9, g_386_10, gs_f386, g_513_0, e_if_ne, e_iinc_1, e_goto, k_m9, eq_self, e14, lec (show n < 1000 by omega) hi2, hi5, e62, hin, not_true_eq_false, not_false_eq_true, if_true, if_false, true_or, or_true, false_or, or_false, true_and, and_true, false_and, and_false, and_self, or_self, reduceIte, Bool.false_eq_true, i10, i01, e_inc1]
          · by_cases e : t = i
            · subst e; unfold foB; rw [hsi]; simp [hin]
            · exact j3 t (by omega)
        · obtain ⟨p, r, w1, w2, w3⟩ := y_safe (E := E) (ml := b) (w := nI i) (LI_f2 j1 hi.1.1)
          rw [LN_f2 j1] at w1
          have cc1 : ∀ {M_ : Nat} {c_ : List Instr} {L_ : List Value}, ev E M_ (.invokevirtual 72 :: c_) L_ (.int (nI i) :: .ref 26 :: []) (HH a b) = ev E M_ c_ L_ (.int (if d_safe (LN q) (nI i) n nt = true then 1 else 0) :: []) (HH p r) := fun {M_} {c_} {L_} => e_inv (as := [.ref 26, .int (nI i)]) (S := []) rfl rfl (Nat.le_of_ble_eq_true rfl) (rfl) (w1)
          by_cases hs : d_safe (LN q) (nI i) n nt = true
          · right
            refine ⟨(p, r), hd b_73_15 ?_, f2_tr w2 j1, g1_tr w3 j2, fun t ht => ?_⟩
            · simp only [b_73_e, b_73_13, b_73_54, b_73_60, e_aloadr_0, g_512_0, cc_Line_isDark_0, cc_Line_isDark_1, cc_Line_isDark_2, cc_Line_isDark_3, Option.toList_some, Option.toList_none, List.cons_append, List.nil_append, e_if_eq, k_m3, e_iret, k_0, e_istore_1, e_kpi, e_kpr, e_kpl, e_kpd, e_jsr, e_iload_1, g_132_1, e_icmp_ge, g_129_1, il_3, il_4, il_29, il_51, g_386_6, g_386_7, g_386_8, g_386_9, g_386_10, gs_f386, g_513_0, e_if_ne, e_iinc_1, e_goto, k_m9, eq_self, e14, lec (show n < 1000 by omega) hi2, hi5, e62, hin, cc1, hs, not_true_eq_false, not_false_eq_true, if_true, if_false, true_or, or_true, false_or, or_false, true_and, and_true, false_and, and_false, and_self, or_self, reduceIte, Bool.false_eq_true, i10, i01, e_inc1]
            · by_cases e : t = i
              · subst e; unfold foB; simp [hs]
              · exact j3 t (by omega)
          · left
            have hfo : foB q n nt i = true := by unfold foB; rw [hsi]; simp [hin, hs]
            refine ⟨p, r, hd b_73_15 ?_, f2_tr w2 j1, g1_tr w3 j2⟩
            rw [fsti_at hi2 j3 hfo]
            simp only [b_73_e, b_73_13, b_73_54, b_73_60, e_aloadr_0, g_512_0, cc_Line_isDark_0, cc_Line_isDark_1, cc_Line_isDark_2, cc_Line_isDark_3, Option.toList_some, Option.toList_none, List.cons_append, List.nil_append, e_if_eq, k_m3, e_iret, k_0, e_istore_1, e_kpi, e_kpr, e_kpl, e_kpd, e_jsr, e_iload_1, g_132_1, e_icmp_ge, g_129_1, il_3, il_4, il_29, il_51, g_386_6, g_386_7, g_386_8, g_386_9, g_386_10, gs_f386, g_513_0, e_if_ne, e_iinc_1, e_goto, k_m9, eq_self, e14, lec (show n < 1000 by omega) hi2, hi5, e62, hin, cc1, hs, oM_s, not_true_eq_false, not_false_eq_true, if_true, if_false, true_or, or_true, false_or, or_false, true_and, and_true, false_and, and_false, and_self, or_self, reduceIte, Bool.false_eq_true, i10, i01]
      · obtain ⟨a, b⟩ := x
        obtain ⟨j1, j2, j3⟩ := hj
        dsimp only at j1 j2 j3 ⊢
        have e14 : a 1 4 = nI n := by rw [j1 1 4 (by decide) (by decide) (by decide) (by decide) (by decide) (by decide) (by decide) (by decide) (by decide)]; exact l1
        refine ⟨a, b, hd b_73_15 ?_, j1, j2⟩
        rw [fsti_no j3]
        simp only [b_73_e, b_73_13, b_73_54, b_73_60, e_aloadr_0, g_512_0, cc_Line_isDark_0, cc_Line_isDark_1, cc_Line_isDark_2, cc_Line_isDark_3, Option.toList_some, Option.toList_none, List.cons_append, List.nil_append, e_if_eq, k_m3, e_iret, k_0, e_istore_1, e_kpi, e_kpr, e_kpl, e_kpd, e_jsr, e_iload_1, g_132_1, e_icmp_ge, g_129_1, il_3, il_4, il_29, il_51, g_386_6, g_386_7, g_386_8, g_386_9, g_386_10, gs_f386, g_513_0, e_if_ne, e_iinc_1, e_goto, k_m9, eq_self, e14, lecc, oM_n, not_true_eq_false, not_false_eq_true, if_true, if_false, true_or, or_true, false_or, or_false, true_and, and_true, false_and, and_false, and_self, or_self, reduceIte, Bool.false_eq_true, i10, i01]
    obtain ⟨p, r, c1, c2, c3⟩ := hcl
    have hip := INV_of hi (sc_f2 c2) (sl_g1 c3)
    obtain ⟨⟨m1, m2⟩, ⟨m3, m4⟩, ⟨m5, m6⟩, m7⟩ := lay_b hip
    have hdp : ¬ dk p n := by unfold dk; rw [LN_f2 c2]; exact hdk
    have hmo : ∃ p2 r2, ev E 160 (am_B 160 (Int.toNat 12)) [.ref 61, .int (nI 0), am_dm] [] (HH p r) = some (some (.int (oM (fsti (foB q n nt) 0 n))), HH p2 r2) ∧ h1 p2 p ∧ k1 r2 r := by
      refine loop_ex (fun i (x : (Nat → Nat → Int32) × (Nat → Nat → Int64) × Value) => ev E 160 (am_B 160 (Int.toNat 12)) [.ref 61, .int (nI i), x.2.2] [] (HH x.1 x.2.1)) (fun i x => h1 x.1 p ∧ k1 x.2.1 r ∧ ∀ t, t < i → foB q n nt t = false) (fun y => ∃ p2 r2, y = some (some (.int (oM (fsti (foB q n nt) 0 n))), HH p2 r2) ∧ h1 p2 p ∧ k1 r2 r) n (fun i x hi2 hj => ?_) (fun x hj => ?_) (p, r, am_dm) ⟨h1_rf, k1_rf, fun t ht => by omega⟩
      · obtain ⟨a, b, xv⟩ := x
        obtain ⟨j1, j2, j3⟩ := hj
        dsimp only at j1 j2 j3 ⊢
        have hi5 : i < 5 := by omega
        have hia := INV_of (r := b) hip (sc_h1 j1) (sl_k1 j2)
        have hLa : LN a = LN q := by rw [LN_sc (n := n) (sc_h1 j1), LN_f2 c2]
        obtain ⟨⟨o1, o2⟩, ⟨o3, o4⟩, ⟨o5, o6⟩, o7⟩ := lay_b hia
        obtain ⟨_, b2, b3, b4⟩ := hia.2.1
        have e65 := (b3 i hi2).2.2.1
        have e62 : a (6 + i) 2 = q (6 + i) 2 := by
          have h1 : LN a (6 + i) 2 = a (6 + i) 2 := LN_at (by omega) (by omega)
          have h2 : LN q (6 + i) 2 = q (6 + i) 2 := LN_at (by omega) (by omega)
          rw [← h1, ← h2, hLa]
        have hsi : sI q i = decide (¬ q (6 + i) 2 = 0) := rfl
        by_cases hin : q (6 + i) 2 = 0
        · right
          have e65' : a 65 i = 1 := by rw [e65, e62, if_pos hin]
          refine ⟨(a, b, xv), hd b_160_12 ?_, j1, j2, fun t ht => ?_⟩
          · simp only [b_160_e, b_160_10, b_160_32, b_160_53, b_160_57, b_160_58, b_160_72, b_160_78, e_aloadr_0, cc_M_isDark_0, cc_M_isDark_1, cc_M_isDark_2, cc_M_isDark_3, Option.toList_some, Option.toList_none, List.cons_append, List.nil_append, e_if_eq, k_m3, e_iret, k_0, e_istore_1, e_kpi, e_kpr, e_kpl, e_kpd, e_jsr, e_iload_1, g_579_61, e_icmp_ge, g_582_61, il_65, e_goto, k_1, is_65, e_if_ne, e_istore_2, e_iload_2, e_iinc_1, k_m9, eq_self, o5, lec (show n < 1000 by omega) hi2, hi5, e65', not_true_eq_false, not_false_eq_true, if_true, if_false, true_or, or_true, false_or, or_false, true_and, and_true, false_and, and_false, and_self, or_self, reduceIte, Bool.false_eq_true, i10, i01, e_inc1]
          · by_cases e : t = i
            · subst e; unfold foB; rw [hsi]; simp [hin]
            · exact j3 t (by omega)
        · have e65' : a 65 i = 0 := by rw [e65, e62, if_neg hin]
          -- the reference without i
          have hne : ∀ c d, ¬ (c = 65 ∧ d = i) → am_up a 65 i 1 c d = a c d := fun c d z => by rw [am_upa, if_neg z]
          have hl := hi.1.1
          obtain ⟨I, hI⟩ := kC_rS (q := am_up a 65 i 1) (L := LN q) (w := nI i) hl.2.1 (by rw [hne 61 3 (by omega)]; exact o5) (fun k hk => by rw [hne 64 k (by omega), (b3 k hk).2.1, ← hLa, LN_sP (by omega)]; rfl) (fun k hk => by
            by_cases e : k = i
            · subst e
              rw [am_up_self]
              unfold tkS
              simp
            · rw [hne 65 k (by omega), (b3 k hk).2.2.1]
              have h1 : tkS (LN q) (nI i) k = sI (LN q) k := by
                unfold tkS
                have : ¬ nI k = nI i := fun z => e ((nI_eq (by omega) (by omega)).mp z)
                simp [this]
              rw [h1, ← hLa, LN_sI (by omega)]
              unfold sI
              by_cases h : a (6 + k) 2 = 0
              · simp [h]
              · simp [h])
          have hZ' : rZ (am_up a 65 i 1) n I nt (kC (LN q) (nI i) n) (LN q) (kO (LN q)) := by
            refine ⟨hI, kC_rR hl.2.2.1 (fun d hd2 => by rw [hne 62 d (by omega), o7 d hd2, ← hLa, LN_2]), ?_⟩
            obtain ⟨w1, w2, w3, w4⟩ := b4
            rw [hLa] at w2 w3
            exact ⟨by rw [hne 61 8 (by omega)]; exact w1, fun k hk => by rw [hne 69 k (by omega)]; exact w2 k hk, fun k hk t ht => by rw [hne 67 _ (by omega), hne 68 _ (by omega)]; exact w3 k hk t ht, fun j hj => by rw [hne 67 j (by omega)]; exact w4 j hj⟩
          -- dark without i
          have hdk2 : (inF (am_up a 65 i 1) n = 0) = (q_m (kC (LN q) (nI i) n) = 0) := by
            have h4 := hI.2.2.2.1
            have hI32 := I_lt hI
            rw [h4]
            apply propext
            constructor
            · intro h
              have h0 : I = 0 := (nI_eq (b := 0) (by omega) (by decide)).mp h
              rcases Nat.eq_zero_or_pos (q_m (kC (LN q) (nI i) n)) with z | z
              · exact z
              · exfalso
                have h7 := (hI.2.2.2.2.2.2.1 0 z).2.2
                have h8 := (hI.2.2.2.2.2.2.1 0 z).1
                have := bt_pow (a := I) (s := q_nu (kC (LN q) (nI i) n) 0) (by omega) (by omega) h7
                have hp : 0 < 2 ^ q_nu (kC (LN q) (nI i) n) 0 := Nat.pow_pos (by decide)
                omega
            · intro h
              rcases Nat.eq_zero_or_pos I with z | z
              · rw [z]; rfl
              · exfalso
                obtain ⟨t, t1, t2⟩ := bt_ex hI32 z
                obtain ⟨j, hj, _⟩ := bt_in hI t1 t2
                omega
          have o5' : am_up a 65 i 1 61 3 = nI n := by rw [hne 61 3 (by omega)]; exact o5
          by_cases hd0 : q_m (kC (LN q) (nI i) n) = 0
          · left
            have hs : d_safe (LN q) (nI i) n nt = false := by unfold d_safe; rw [hd0]; rfl
            have hfo : foB q n nt i = true := by unfold foB; rw [hsi]; simp [hin, hs]
            refine ⟨am_up (am_up a 65 i 1) 65 i 0, b, hd b_160_12 ?_, ?_, j2⟩
            · rw [fsti_at hi2 j3 hfo]
              simp only [b_160_e, b_160_10, b_160_32, b_160_53, b_160_57, b_160_58, b_160_72, b_160_78, e_aloadr_0, cc_M_isDark_0, cc_M_isDark_1, cc_M_isDark_2, cc_M_isDark_3, Option.toList_some, Option.toList_none, List.cons_append, List.nil_append, e_if_eq, k_m3, e_iret, k_0, e_istore_1, e_kpi, e_kpr, e_kpl, e_kpd, e_jsr, e_iload_1, g_579_61, e_icmp_ge, g_582_61, il_65, e_goto, k_1, is_65, e_if_ne, e_istore_2, e_iload_2, e_iinc_1, k_m9, eq_self, o5, lec (show n < 1000 by omega) hi2, hi5, e65', or_true, true_or, cc_M_isDark_0 o5' l2, hdk2, hd0, oM_s, not_true_eq_false, not_false_eq_true, if_true, if_false, true_or, or_true, false_or, or_false, true_and, and_true, false_and, and_false, and_self, or_self, reduceIte, Bool.false_eq_true, i10, i01]
            · intro c d x1 x2 x3 x4 x5 x6
              rw [am_upa]
              by_cases e : c = 65 ∧ d = i
              · rw [if_pos e, e.1, e.2, ← j1 65 i (by omega) (by decide) (by decide) (by decide) (by decide) (by decide), e65']
              · rw [if_neg e, hne c d e]; exact j1 c d x1 x2 x3 x4 x5 x6
          · have hm : 0 < q_m (kC (LN q) (nI i) n) := Nat.pos_of_ne_zero hd0
            obtain ⟨p2, r2, w1, w2, w3⟩ := x_safe (E := E) (ml := b) hZ' hT hm hl.2.2.1 (by rw [hne 62 4 (by omega), o7 4 (by decide), ← hLa, LN_2])
            rw [← sf_eq hm] at w1
            have cc2 : ∀ {M_ : Nat} {c_ : List Instr} {L_ : List Value}, ev E M_ (.invokevirtual 159 :: c_) L_ (.ref 61 :: []) (HH (am_up a 65 i 1) b) = ev E M_ c_ L_ (.int (if d_safe (LN q) (nI i) n nt = true then 1 else 0) :: []) (HH p2 r2) := fun {M_} {c_} {L_} => e_inv (as := [.ref 61]) (S := []) rfl rfl (Nat.le_of_ble_eq_true rfl) (rfl) (w1)
            have hfr : h1 (am_up p2 65 i 0) p := fun c d x1 x2 x3 x4 x5 x6 => by
              rw [am_upa]
              by_cases e : c = 65 ∧ d = i
              · rw [if_pos e, e.1, e.2, ← j1 65 i (by omega) (by decide) (by decide) (by decide) (by decide) (by decide), e65']
              · rw [if_neg e, w2 c d x1 x2 x3 x4 x5 x6, hne c d e]; exact j1 c d x1 x2 x3 x4 x5 x6
            by_cases hs : d_safe (LN q) (nI i) n nt = true
            · right
              refine ⟨(am_up p2 65 i 0, r2, .int 0), hd b_160_12 ?_, hfr, k1_tr w3 j2, fun t ht => ?_⟩
              · simp only [b_160_e, b_160_10, b_160_32, b_160_53, b_160_57, b_160_58, b_160_72, b_160_78, e_aloadr_0, cc_M_isDark_0, cc_M_isDark_1, cc_M_isDark_2, cc_M_isDark_3, Option.toList_some, Option.toList_none, List.cons_append, List.nil_append, e_if_eq, k_m3, e_iret, k_0, e_istore_1, e_kpi, e_kpr, e_kpl, e_kpd, e_jsr, e_iload_1, g_579_61, e_icmp_ge, g_582_61, il_65, e_goto, k_1, is_65, e_if_ne, e_istore_2, e_iload_2, e_iinc_1, k_m9, eq_self, o5, lec (show n < 1000 by omega) hi2, hi5, e65', or_true, true_or, cc_M_isDark_0 o5' l2, hdk2, hd0, cc2, hs, not_true_eq_false, not_false_eq_true, if_true, if_false, true_or, or_true, false_or, or_false, true_and, and_true, false_and, and_false, and_self, or_self, reduceIte, Bool.false_eq_true, i10, i01, e_inc1]
              · by_cases e : t = i
                · subst e; unfold foB; simp [hs]
                · exact j3 t (by omega)
            · left
              have hfo : foB q n nt i = true := by unfold foB; rw [hsi]; simp [hin, hs]
              refine ⟨am_up p2 65 i 0, r2, hd b_160_12 ?_, hfr, k1_tr w3 j2⟩
              rw [fsti_at hi2 j3 hfo]
              simp only [b_160_e, b_160_10, b_160_32, b_160_53, b_160_57, b_160_58, b_160_72, b_160_78, e_aloadr_0, cc_M_isDark_0, cc_M_isDark_1, cc_M_isDark_2, cc_M_isDark_3, Option.toList_some, Option.toList_none, List.cons_append, List.nil_append, e_if_eq, k_m3, e_iret, k_0, e_istore_1, e_kpi, e_kpr, e_kpl, e_kpd, e_jsr, e_iload_1, g_579_61, e_icmp_ge, g_582_61, il_65, e_goto, k_1, is_65, e_if_ne, e_istore_2, e_iload_2, e_iinc_1, k_m9, eq_self, o5, lec (show n < 1000 by omega) hi2, hi5, e65', or_true, true_or, cc_M_isDark_0 o5' l2, hdk2, hd0, cc2, hs, oM_s, not_true_eq_false, not_false_eq_true, if_true, if_false, true_or, or_true, false_or, or_false, true_and, and_true, false_and, and_false, and_self, or_self, reduceIte, Bool.false_eq_true, i10, i01]
      · obtain ⟨a, b, xv⟩ := x
        obtain ⟨j1, j2, j3⟩ := hj
        dsimp only at j1 j2 j3 ⊢
        have o5 : a 61 3 = nI n := by rw [j1 61 3 (by decide) (by decide) (by decide) (by decide) (by decide) (by decide)]; exact m5
        refine ⟨a, b, hd b_160_12 ?_, j1, j2⟩
        rw [fsti_no j3]
        simp only [b_160_e, b_160_10, b_160_32, b_160_53, b_160_57, b_160_58, b_160_72, b_160_78, e_aloadr_0, cc_M_isDark_0, cc_M_isDark_1, cc_M_isDark_2, cc_M_isDark_3, Option.toList_some, Option.toList_none, List.cons_append, List.nil_append, e_if_eq, k_m3, e_iret, k_0, e_istore_1, e_kpi, e_kpr, e_kpl, e_kpd, e_jsr, e_iload_1, g_579_61, e_icmp_ge, g_582_61, il_65, e_goto, k_1, is_65, e_if_ne, e_istore_2, e_iload_2, e_iinc_1, k_m9, eq_self, o5, lecc, oM_n, not_true_eq_false, not_false_eq_true, if_true, if_false, true_or, or_true, false_or, or_false, true_and, and_true, false_and, and_false, and_self, or_self, reduceIte, Bool.false_eq_true, i10, i01]
    obtain ⟨p2, r2, z1, z2, z3⟩ := hmo
    refine ⟨oM (fsti (foB q n nt) 0 n), p, r, p2, r2, n, nt, ?_, ?_, INV_of hip (sc_h1 z2) (sl_k1 z3)⟩
    · rw [← c1]
      simp only [b_73_e, b_73_13, b_73_54, b_73_60, e_aloadr_0, g_512_0, cc_Line_isDark_0, cc_Line_isDark_1, cc_Line_isDark_2, cc_Line_isDark_3, Option.toList_some, Option.toList_none, List.cons_append, List.nil_append, e_if_eq, k_m3, e_iret, k_0, e_istore_1, e_kpi, e_kpr, e_kpl, e_kpd, e_jsr, e_iload_1, g_132_1, e_icmp_ge, g_129_1, il_3, il_4, il_29, il_51, g_386_6, g_386_7, g_386_8, g_386_9, g_386_10, gs_f386, g_513_0, e_if_ne, e_iinc_1, e_goto, k_m9, eq_self, cc_Line_isDark_0 l1 l2, i_dk1 hi, hdk, not_true_eq_false, not_false_eq_true, if_true, if_false, true_or, or_true, false_or, or_false, true_and, and_true, false_and, and_false, and_self, or_self, reduceIte, Bool.false_eq_true, i10, i01]
      rfl
    · rw [← z1]
      simp only [b_160_e, b_160_10, b_160_32, b_160_53, b_160_57, b_160_58, b_160_72, b_160_78, e_aloadr_0, cc_M_isDark_0, cc_M_isDark_1, cc_M_isDark_2, cc_M_isDark_3, Option.toList_some, Option.toList_none, List.cons_append, List.nil_append, e_if_eq, k_m3, e_iret, k_0, e_istore_1, e_kpi, e_kpr, e_kpl, e_kpd, e_jsr, e_iload_1, g_579_61, e_icmp_ge, g_582_61, il_65, e_goto, k_1, is_65, e_if_ne, e_istore_2, e_iload_2, e_iinc_1, k_m9, eq_self, cc_M_isDark_0 m5 l2, i_dk2 hip, hdp, not_true_eq_false, not_false_eq_true, if_true, if_false, true_or, or_true, false_or, or_false, true_and, and_true, false_and, and_false, and_self, or_self, reduceIte, Bool.false_eq_true, i10, i01]
      rfl
end Du
