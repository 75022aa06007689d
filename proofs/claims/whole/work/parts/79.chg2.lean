/-! trip, about, putOff, train, run -/
section Ci
variable {E : aE} {q : Nat → Nat → Int32} {s : Nat → Nat → Int64} {n nt : Nat}
theorem o_putOff (hi : INV q s n nt) (x b : Int32) : OPi E 34 136 [.ref 0, .int x, .int b, am_dm] [.ref 61, .int x, .int b, am_dm] q s := by
  obtain ⟨⟨l1, l2⟩, ⟨l3, l4⟩, ⟨l5, l6⟩, l7⟩ := lay_b hi
  by_cases hx : 0 ≤ x ∧ x < nI nt
  · by_cases hb : 0 ≤ b ∧ b ≤ 5
    · have hb1 : (b < 0) = False := eq_false (Int32.not_lt.mpr hb.1)
      obtain ⟨j, hj, rfl⟩ := rng_n (N := nt) (by omega) hx.1 hx.2
      have hj5 : j < 5 := by omega
      obtain ⟨⟨⟨a1, a1b⟩, a2, a3, a4, a5⟩, a6, a7, a8, a9, a10⟩ := iA_raw.mp hi.1
      obtain ⟨r1, r2, r3, w1, w2, w3, w4⟩ := (iR_raw l4).mp hi.2.1
      have hbn : ∃ k, k ≤ 5 ∧ b = nI k := by
        have h5 : (5 : Int32).toInt = 5 := rfl
        have h0 : (0 : Int32).toInt = 0 := rfl
        have h := hb
        rw [Int32.le_iff_toInt_le, Int32.le_iff_toInt_le, h5, h0] at h
        exact ⟨b.toInt.toNat, by omega, by rw [← Int32.toInt_inj, nI_toInt (by omega)]; omega⟩
      obtain ⟨k, hk, rfl⟩ := hbn
      have ew : q 69 j = q 5 j := by rw [(w2 j hj).1]; exact (a5 j hj5).1.symm
      have e618 : fgt (am_up q 5 j (nI k)) 61 8 = nI nt := by rw [fgt_ne (by decide), am_upa, if_neg (by omega)]; exact l6
      have e69 : fgt (am_up q 5 j (nI k)) 69 j = q 5 j := by rw [fgt_ne (by decide), am_upa, if_neg (by omega)]; exact ew
      refine ⟨q 5 j, fgt (am_up q 5 j (nI k)), s, am_up (fgt (am_up q 5 j (nI k))) 69 j (nI k), s, n, nt, ?_, ?_, ?_⟩
      · simp only [b_34_e, b_34_13, b_34_22, b_34_25, e_aloadr_0, g_512_0, e_iload_1, cc_Line_hasTrain_0, cc_Line_hasTrain_1, cc_Line_hasTrain_2, cc_Line_hasTrain_3, Option.toList_some, Option.toList_none, List.cons_append, List.nil_append, e_if_ne, k_m1, e_iret, e_iload_2, e_if_lt, k_5, e_icmp_le, e_jsr, k_m2, g_131_1, il_2, il_5, il_33, il_35, il_36, il_41, il_42, il_tp, il_ta, il_sc, il_po, ik_2_0, ik_2_1, ik_2_2, ik_2_3, ik_2_4, e_istore_3, e_kpi, e_kpr, e_kpl, e_kpd, is_2, is_5, is_33, is_35, is_36, is_41, is_42, is_tp, is_ta, is_sc, is_po, g_513_0, cc_Day_forget_0, cc_Day_forget_1, cc_Day_forget_2, cc_Day_forget_3, e_iload_3, eq_self, l3, hx, hj5, hb1, hb.2, not_true_eq_false, not_false_eq_true, if_true, if_false, true_or, or_true, false_or, or_false, true_and, and_true, false_and, and_false, and_self, or_self, reduceIte, Bool.false_eq_true, i10, i01]
      · simp only [b_136_e, b_136_10, b_136_22, e_aloadr_0, e_iload_1, cc_M_isTrain_0, cc_M_isTrain_1, cc_M_isTrain_2, cc_M_isTrain_3, Option.toList_some, Option.toList_none, List.cons_append, List.nil_append, e_if_ne, k_m1, e_iret, e_iload_2, k_0, k_5, cc_M_within_0, cc_M_within_1, cc_M_within_2, cc_M_within_3, k_m2, g_587_61, il_62, il_63, il_64, il_66, il_67, il_68, il_69, il_70, il_71, il_72, il_73, il_74, il_75, il_76, il_77, ik_62_0, ik_62_1, ik_62_2, ik_62_3, ik_62_4, ik_73_0, ik_74_0, e_istore_3, e_kpi, e_kpr, e_kpl, e_kpd, is_62, is_63, is_64, is_66, is_67, is_68, is_69, is_70, is_71, is_72, is_73, is_74, is_75, is_76, is_77, iks_73_0, iks_74_0, e_iload_3, eq_self, e618, hx, hj5, hb, e69, not_true_eq_false, not_false_eq_true, if_true, if_false, true_or, or_true, false_or, or_false, true_and, and_true, false_and, and_false, and_self, or_self, reduceIte, Bool.false_eq_true, i10, i01]
      · have hp : ∀ a c, ¬ ((a = 5 ∧ c = j) ∨ a = 26 ∨ a = 45 ∨ a = 48 ∨ (a = 69 ∧ c = j)) → am_up (fgt (am_up q 5 j (nI k))) 69 j (nI k) a c = q a c := fun a c h => by rw [am_upa, if_neg (by omega), fgt_ne (by omega), am_upa, if_neg (by omega)]
        have v5 : am_up (fgt (am_up q 5 j (nI k))) 69 j (nI k) 5 j = nI k := by rw [am_upa, if_neg (by omega), fgt_ne (by omega), am_up_self]
        have v69 : am_up (fgt (am_up q 5 j (nI k))) 69 j (nI k) 69 j = nI k := am_up_self
        have hf : am_up (fgt (am_up q 5 j (nI k))) 69 j (nI k) 26 8 = 0 ∧ am_up (fgt (am_up q 5 j (nI k))) 69 j (nI k) 45 2 = 0 ∧ am_up (fgt (am_up q 5 j (nI k))) 69 j (nI k) 48 2 = 0 := by
          rw [am_upa, if_neg (by omega), am_upa, if_neg (by omega), am_upa, if_neg (by omega)]; exact fgt_at
        generalize am_up (fgt (am_up q 5 j (nI k))) 69 j (nI k) = p at *
        have hok : oF p 5 j = k := by unfold oF; rw [v5]; exact nI_cl9 (by omega)
        have hoo : ∀ i, ¬ i = j → p 5 i = q 5 i ∧ oF p 5 i = oF q 5 i := fun i h => by unfold oF; rw [hp 5 i (by omega)]; exact ⟨rfl, rfl⟩
        have eP : ∀ k, k < 5 → sP p k = sP q k := fun k hk => hp _ _ (by omega)
        have e2 : ∀ c, p 2 c = q 2 c := fun c => hp _ _ (by omega)
        have eT : ∀ k t, k < 5 → tP p k t = tP q k t ∧ tA p k t = tA q k t := fun k t hk => ⟨hp _ _ (by omega), hp _ _ (by omega)⟩
        refine INV_new hi ⟨⟨⟨?_, ?_⟩, ⟨?_, ?_, ?_⟩, ?_, ⟨?_, ?_⟩, ?_⟩, ?_, ?_, ?_, ?_, ?_⟩ ⟨?_, ?_, ?_, ?_, ?_, ?_, ?_⟩ ?_ hf
        · rw [hp 1 4 (by omega)]; exact a1
        · rw [hp 1 5 (by omega)]; exact a1b
        · exact a2.1
        · intro k hk; rw [eP k (by omega)]; exact a2.2.1 k hk
        · intro k t h1 h2; rw [eP k (by omega), eP t (by omega)]; exact a2.2.2 k t h1 h2
        · unfold LiR; rw [e2, e2, e2, e2, e2]; exact a3
        · exact a4.1
        · intro k hk t ht; rw [(eT k t (by omega)).1, (eT k t (by omega)).2]; exact a4.2 k hk t ht
        · intro i hi2
          by_cases e : i = j
          · subst e; rw [hok, v5]; exact ⟨rfl, hk⟩
          · rw [(hoo i e).1, (hoo i e).2]; exact a5 i hi2
        · intro k hk; rw [hp (6 + k) 2 (by omega), hp (6 + k) 3 (by omega)]; exact a6 k hk
        · intro k h1 h2; rw [hp (6 + k) 2 (by omega), hp (6 + k) 3 (by omega)]; exact a7 k h1 h2
        · intro k hk; rw [hp (6 + k) 0 (by omega), eP k (by omega), e2]; exact a8 k hk
        · intro k hk t ht; rw [(eT k t (by omega)).1, e2]; exact a9 k hk t ht
        · intro i h1 h2; refine ⟨fun t ht => ?_, ?_⟩; rw [(eT i t (by omega)).1]; exact (a10 i h1 h2).1 t ht; rw [(hoo i (by omega)).1]; exact (a10 i h1 h2).2
        · rw [hp 61 3 (by omega)]; exact r1
        · intro c hc; rw [hp 62 c (by omega), e2]; exact r2 c hc
        · intro k hk; rw [hp 63 k (by omega), hp 64 k (by omega), hp 65 k (by omega), hp 66 k (by omega), hp (6 + k) 0 (by omega), hp (6 + k) 1 (by omega), hp (6 + k) 2 (by omega), hp (6 + k) 3 (by omega)]; exact r3 k hk
        · rw [hp 61 8 (by omega)]; exact w1
        · intro i hi2
          by_cases e : i = j
          · subst e; rw [hok, v69]; exact ⟨rfl, hk⟩
          · rw [(hoo i e).2, hp 69 i (by omega)]; exact w2 i hi2
        · intro k hk t ht; rw [hp 67 _ (by omega), hp 68 _ (by omega), (eT k t (by omega)).1, (eT k t (by omega)).2]; exact w3 k hk t ht
        · intro k hk; rw [hp 67 k (by omega)]; exact w4 k hk
        · intro a c z; exact hp a c (by omega)
    · refine ⟨-2, q, s, q, s, n, nt, ?_, ?_, hi⟩
      · by_cases h1 : b < 0
        · simp only [b_34_e, b_34_13, b_34_22, b_34_25, e_aloadr_0, g_512_0, e_iload_1, cc_Line_hasTrain_0, cc_Line_hasTrain_1, cc_Line_hasTrain_2, cc_Line_hasTrain_3, Option.toList_some, Option.toList_none, List.cons_append, List.nil_append, e_if_ne, k_m1, e_iret, e_iload_2, e_if_lt, k_5, e_icmp_le, e_jsr, k_m2, g_131_1, il_2, il_5, il_33, il_35, il_36, il_41, il_42, il_tp, il_ta, il_sc, il_po, ik_2_0, ik_2_1, ik_2_2, ik_2_3, ik_2_4, e_istore_3, e_kpi, e_kpr, e_kpl, e_kpd, is_2, is_5, is_33, is_35, is_36, is_41, is_42, is_tp, is_ta, is_sc, is_po, g_513_0, cc_Day_forget_0, cc_Day_forget_1, cc_Day_forget_2, cc_Day_forget_3, e_iload_3, eq_self, l3, hx, h1, not_true_eq_false, not_false_eq_true, if_true, if_false, true_or, or_true, false_or, or_false, true_and, and_true, false_and, and_false, and_self, or_self, reduceIte, Bool.false_eq_true, i10, i01]
        · have h2 : ¬ b ≤ 5 := fun z => hb ⟨Int32.not_lt.mp h1, z⟩
          simp only [b_34_e, b_34_13, b_34_22, b_34_25, e_aloadr_0, g_512_0, e_iload_1, cc_Line_hasTrain_0, cc_Line_hasTrain_1, cc_Line_hasTrain_2, cc_Line_hasTrain_3, Option.toList_some, Option.toList_none, List.cons_append, List.nil_append, e_if_ne, k_m1, e_iret, e_iload_2, e_if_lt, k_5, e_icmp_le, e_jsr, k_m2, g_131_1, il_2, il_5, il_33, il_35, il_36, il_41, il_42, il_tp, il_ta, il_sc, il_po, ik_2_0, ik_2_1, ik_2_2, ik_2_3, ik_2_4, e_istore_3, e_kpi, e_kpr, e_kpl, e_kpd, is_2, is_5, is_33, is_35, is_36, is_41, is_42, is_tp, is_ta, is_sc, is_po, g_513_0, cc_Day_forget_0, cc_Day_forget_1, cc_Day_forget_2, cc_Day_forget_3, e_iload_3, eq_self, l3, hx, h1, h2, not_true_eq_false, not_false_eq_true, if_true, if_false, true_or, or_true, false_or, or_false, true_and, and_true, false_and, and_false, and_self, or_self, reduceIte, Bool.false_eq_true, i10, i01]
      · simp only [b_136_e, b_136_10, b_136_22, e_aloadr_0, e_iload_1, cc_M_isTrain_0, cc_M_isTrain_1, cc_M_isTrain_2, cc_M_isTrain_3, Option.toList_some, Option.toList_none, List.cons_append, List.nil_append, e_if_ne, k_m1, e_iret, e_iload_2, k_0, k_5, cc_M_within_0, cc_M_within_1, cc_M_within_2, cc_M_within_3, k_m2, g_587_61, il_62, il_63, il_64, il_66, il_67, il_68, il_69, il_70, il_71, il_72, il_73, il_74, il_75, il_76, il_77, ik_62_0, ik_62_1, ik_62_2, ik_62_3, ik_62_4, ik_73_0, ik_74_0, e_istore_3, e_kpi, e_kpr, e_kpl, e_kpd, is_62, is_63, is_64, is_66, is_67, is_68, is_69, is_70, is_71, is_72, is_73, is_74, is_75, is_76, is_77, iks_73_0, iks_74_0, e_iload_3, eq_self, l6, hx, hb, not_true_eq_false, not_false_eq_true, if_true, if_false, true_or, or_true, false_or, or_false, true_and, and_true, false_and, and_false, and_self, or_self, reduceIte, Bool.false_eq_true, i10, i01]
  · refine ⟨-1, q, s, q, s, n, nt, ?_, ?_, hi⟩
    · simp only [b_34_e, b_34_13, b_34_22, b_34_25, e_aloadr_0, g_512_0, e_iload_1, cc_Line_hasTrain_0, cc_Line_hasTrain_1, cc_Line_hasTrain_2, cc_Line_hasTrain_3, Option.toList_some, Option.toList_none, List.cons_append, List.nil_append, e_if_ne, k_m1, e_iret, e_iload_2, e_if_lt, k_5, e_icmp_le, e_jsr, k_m2, g_131_1, il_2, il_5, il_33, il_35, il_36, il_41, il_42, il_tp, il_ta, il_sc, il_po, ik_2_0, ik_2_1, ik_2_2, ik_2_3, ik_2_4, e_istore_3, e_kpi, e_kpr, e_kpl, e_kpd, is_2, is_5, is_33, is_35, is_36, is_41, is_42, is_tp, is_ta, is_sc, is_po, g_513_0, cc_Day_forget_0, cc_Day_forget_1, cc_Day_forget_2, cc_Day_forget_3, e_iload_3, eq_self, l3, hx, not_true_eq_false, not_false_eq_true, if_true, if_false, true_or, or_true, false_or, or_false, true_and, and_true, false_and, and_false, and_self, or_self, reduceIte, Bool.false_eq_true, i10, i01]
    · simp only [b_136_e, b_136_10, b_136_22, e_aloadr_0, e_iload_1, cc_M_isTrain_0, cc_M_isTrain_1, cc_M_isTrain_2, cc_M_isTrain_3, Option.toList_some, Option.toList_none, List.cons_append, List.nil_append, e_if_ne, k_m1, e_iret, e_iload_2, k_0, k_5, cc_M_within_0, cc_M_within_1, cc_M_within_2, cc_M_within_3, k_m2, g_587_61, il_62, il_63, il_64, il_66, il_67, il_68, il_69, il_70, il_71, il_72, il_73, il_74, il_75, il_76, il_77, ik_62_0, ik_62_1, ik_62_2, ik_62_3, ik_62_4, ik_73_0, ik_74_0, e_istore_3, e_kpi, e_kpr, e_kpl, e_kpd, is_62, is_63, is_64, is_66, is_67, is_68, is_69, is_70, is_71, is_72, is_73, is_74, is_75, is_76, is_77, iks_73_0, iks_74_0, e_iload_3, eq_self, l6, hx, not_true_eq_false, not_false_eq_true, if_true, if_false, true_or, or_true, false_or, or_false, true_and, and_true, false_and, and_false, and_self, or_self, reduceIte, Bool.false_eq_true, i10, i01]
theorem am_self {α : Type} {f : Nat → Nat → α} {a b : Nat} : am_up f a b (f a b) = f := by
  funext x y
  rw [am_upa]
  split
  · rename_i h; rw [h.1, h.2]
  · rfl
theorem o_trip (hi : INV q s n nt) (x b : Int32) : OPi E 18 124 [.ref 0, .int x, .int b, am_dm] [.ref 61, .int x, .int b, am_dm] q s := by
  obtain ⟨⟨l1, l2⟩, ⟨l3, l4⟩, ⟨l5, l6⟩, l7⟩ := lay_b hi
  by_cases hx : 0 ≤ x ∧ x < nI n
  · by_cases hb : 0 ≤ b ∧ b ≤ 100000
    · have hb1 : (b < 0) = False := eq_false (Int32.not_lt.mpr hb.1)
      obtain ⟨j, hj, rfl⟩ := rng_n (N := n) (by omega) hx.1 hx.2
      have hj5 : j < 5 := by omega
      have e66 : q 66 j = q (6 + j) 3 := (hi.2.1.2.2.1 j hj).2.2.2
      have e613 : am_up q (6 + j) 3 b 61 3 = nI n := by rw [am_upa, if_neg (by omega)]; exact l5
      have e66' : am_up q (6 + j) 3 b 66 j = q (6 + j) 3 := by rw [am_upa, if_neg (by omega)]; exact e66
      refine ⟨q (6 + j) 3, am_up q (6 + j) 3 b, s, am_up (am_up q (6 + j) 3 b) 66 j b, s, n, nt, ?_, ?_, ?_⟩
      · simp only [b_18_e, b_18_13, b_18_23, b_18_26, e_aloadr_0, g_512_0, e_iload_1, cc_Line_hasStation_0, cc_Line_hasStation_1, cc_Line_hasStation_2, cc_Line_hasStation_3, Option.toList_some, Option.toList_none, List.cons_append, List.nil_append, e_if_ne, k_m1, e_iret, e_iload_2, e_if_lt, k_100000, e_icmp_le, e_jsr, k_m2, g_129_1, il_3, il_4, il_29, il_51, g_387_6, g_387_7, g_387_8, g_387_9, g_387_10, gs_f387, e_istore_3, e_kpi, e_kpr, e_kpl, e_kpd, p_387_6, p_387_7, p_387_8, p_387_9, p_387_10, ps_f387, e_iload_3, eq_self, l1, hx, hj5, hb1, hb.2, not_true_eq_false, not_false_eq_true, if_true, if_false, true_or, or_true, false_or, or_false, true_and, and_true, false_and, and_false, and_self, or_self, reduceIte, Bool.false_eq_true, i10, i01]
      · simp only [b_124_e, b_124_10, b_124_23, e_aloadr_0, e_iload_1, cc_M_isStation_0, cc_M_isStation_1, cc_M_isStation_2, cc_M_isStation_3, Option.toList_some, Option.toList_none, List.cons_append, List.nil_append, e_if_ne, k_m1, e_iret, e_iload_2, k_0, k_100000, cc_M_within_0, cc_M_within_1, cc_M_within_2, cc_M_within_3, k_m2, g_583_61, il_62, il_63, il_64, il_66, il_67, il_68, il_69, il_70, il_71, il_72, il_73, il_74, il_75, il_76, il_77, ik_62_0, ik_62_1, ik_62_2, ik_62_3, ik_62_4, ik_73_0, ik_74_0, e_istore_3, e_kpi, e_kpr, e_kpl, e_kpd, is_62, is_63, is_64, is_66, is_67, is_68, is_69, is_70, is_71, is_72, is_73, is_74, is_75, is_76, is_77, iks_73_0, iks_74_0, e_iload_3, eq_self, e613, hx, hj5, hb, e66', not_true_eq_false, not_false_eq_true, if_true, if_false, true_or, or_true, false_or, or_false, true_and, and_true, false_and, and_false, and_self, or_self, reduceIte, Bool.false_eq_true, i10, i01]
      · have hp : ∀ a c, ¬ ((a = 6 + j ∧ c = 3) ∨ (a = 66 ∧ c = j)) → am_up (am_up q (6 + j) 3 b) 66 j b a c = q a c := fun a c h => by rw [am_upa, if_neg (by omega), am_upa, if_neg (by omega)]
        have v6 : am_up (am_up q (6 + j) 3 b) 66 j b (6 + j) 3 = b := by rw [am_upa, if_neg (by omega), am_up_self]
        have v66 : am_up (am_up q (6 + j) 3 b) 66 j b 66 j = b := am_up_self
        generalize am_up (am_up q (6 + j) 3 b) 66 j b = p at *
        have hLN : LN p = LN q := LN_cg (fun a c h1 h2 => hp a c (by omega))
        obtain ⟨⟨c1, c2, c3, c4, c5, c6⟩, ⟨d1, d2, d3, d4⟩, f1', f2', f3', f4'⟩ := hi
        have hbb : 0 ≤ b.toInt ∧ b.toInt ≤ 100000 := by
          have h5 : (100000 : Int32).toInt = 100000 := rfl
          have h0 : (0 : Int32).toInt = 0 := rfl
          have h := hb
          rw [Int32.le_iff_toInt_le, Int32.le_iff_toInt_le, h5, h0] at h
          exact h
        refine ⟨⟨?_, fun k hk => ?_, fun k h1 h2 => ?_, fun k hk => ?_, fun k hk t ht => ?_, fun k h1 h2 => ⟨fun t ht => ?_, ?_⟩⟩, ⟨?_, fun c hc => ?_, fun k hk => ?_, ?_⟩, iS_eq f1' (fun a c z => hp a c (by omega)), ?_, ?_, fun d hd => ?_⟩
        · obtain ⟨⟨m1, m2⟩, m3, m4, m5, m6⟩ := c1
          refine ⟨⟨by rw [hp 1 4 (by omega)]; exact m1, by rw [hp 1 5 (by omega)]; exact m2⟩, by rw [hLN]; exact m3, by rw [hLN]; exact m4, by rw [hLN]; exact m5, fun k hk => ?_⟩
          unfold oF
          rw [hp 5 k (by omega)]
          exact m6 k hk
        · by_cases e : k = j
          · subst e; rw [v6, hp (6 + k) 2 (by omega)]; exact ⟨(c2 k hk).1, hbb⟩
          · rw [hp (6 + k) 3 (by omega), hp (6 + k) 2 (by omega)]; exact c2 k hk
        · rw [hp (6 + k) 3 (by omega), hp (6 + k) 2 (by omega)]; exact c3 k h1 h2
        · unfold sP; rw [hp (6 + k) 0 (by omega), hp (6 + k) 1 (by omega), hp 2 0 (by omega)]; exact c4 k hk
        · unfold tP; rw [hp (12 + 3 * k) t (by omega), hp 2 0 (by omega)]; exact c5 k hk t ht
        · unfold tP; rw [hp (12 + 3 * k) t (by omega)]; exact (c6 k h1 h2).1 t ht
        · rw [hp 5 k (by omega)]; exact (c6 k h1 h2).2
        · rw [hp 61 3 (by omega)]; exact d1
        · rw [hp 62 c (by omega), hp 2 c (by omega)]; exact d2 c hc
        · rw [hp 63 k (by omega), hp 64 k (by omega), hp 65 k (by omega), hp (6 + k) 0 (by omega), hp (6 + k) 1 (by omega), hp (6 + k) 2 (by omega)]
          refine ⟨(d3 k hk).1, (d3 k hk).2.1, (d3 k hk).2.2.1, ?_⟩
          by_cases e : k = j
          · subst e; rw [v6, v66]
          · rw [hp 66 k (by omega), hp (6 + k) 3 (by omega)]; exact (d3 k hk).2.2.2
        · obtain ⟨w1, w2, w3, w4⟩ := d4
          rw [hLN]
          exact ⟨by rw [hp 61 8 (by omega)]; exact w1, fun k hk => by rw [hp 69 k (by omega)]; exact w2 k hk, fun k hk t ht => by rw [hp 67 _ (by omega), hp 68 _ (by omega)]; exact w3 k hk t ht, fun k hk => by rw [hp 67 k (by omega)]; exact w4 k hk⟩
        · unfold iT; rw [hp 0 4 (by omega), hp 0 5 (by omega), hp 61 1 (by omega), hp 61 0 (by omega)]; exact f2'
        · unfold iB; rw [hp 26 8 (by omega), hp 26 7 (by omega), hp 2 0 (by omega), hLN]; exact f3'
        · have e7 : ∀ k, p (47 + 3 * d) k = q (47 + 3 * d) k := fun k => hp _ _ (by omega)
          rw [hp (45 + 3 * d) 2 (by omega), hLN]
          simp only [e7]
          exact f4' d hd
    · refine ⟨-2, q, s, q, s, n, nt, ?_, ?_, hi⟩
      · by_cases h1 : b < 0
        · simp only [b_18_e, b_18_13, b_18_23, b_18_26, e_aloadr_0, g_512_0, e_iload_1, cc_Line_hasStation_0, cc_Line_hasStation_1, cc_Line_hasStation_2, cc_Line_hasStation_3, Option.toList_some, Option.toList_none, List.cons_append, List.nil_append, e_if_ne, k_m1, e_iret, e_iload_2, e_if_lt, k_100000, e_icmp_le, e_jsr, k_m2, g_129_1, il_3, il_4, il_29, il_51, g_387_6, g_387_7, g_387_8, g_387_9, g_387_10, gs_f387, e_istore_3, e_kpi, e_kpr, e_kpl, e_kpd, p_387_6, p_387_7, p_387_8, p_387_9, p_387_10, ps_f387, e_iload_3, eq_self, l1, hx, h1, not_true_eq_false, not_false_eq_true, if_true, if_false, true_or, or_true, false_or, or_false, true_and, and_true, false_and, and_false, and_self, or_self, reduceIte, Bool.false_eq_true, i10, i01]
        · have h2 : ¬ b ≤ 100000 := fun z => hb ⟨Int32.not_lt.mp h1, z⟩
          simp only [b_18_e, b_18_13, b_18_23, b_18_26, e_aloadr_0, g_512_0, e_iload_1, cc_Line_hasStation_0, cc_Line_hasStation_1, cc_Line_hasStation_2, cc_Line_hasStation_3, Option.toList_some, Option.toList_none, List.cons_append, List.nil_append, e_if_ne, k_m1, e_iret, e_iload_2, e_if_lt, k_100000, e_icmp_le, e_jsr, k_m2, g_129_1, il_3, il_4, il_29, il_51, g_387_6, g_387_7, g_387_8, g_387_9, g_387_10, gs_f387, e_istore_3, e_kpi, e_kpr, e_kpl, e_kpd, p_387_6, p_387_7, p_387_8, p_387_9, p_387_10, ps_f387, e_iload_3, eq_self, l1, hx, h1, h2, not_true_eq_false, not_false_eq_true, if_true, if_false, true_or, or_true, false_or, or_false, true_and, and_true, false_and, and_false, and_self, or_self, reduceIte, Bool.false_eq_true, i10, i01]
      · simp only [b_124_e, b_124_10, b_124_23, e_aloadr_0, e_iload_1, cc_M_isStation_0, cc_M_isStation_1, cc_M_isStation_2, cc_M_isStation_3, Option.toList_some, Option.toList_none, List.cons_append, List.nil_append, e_if_ne, k_m1, e_iret, e_iload_2, k_0, k_100000, cc_M_within_0, cc_M_within_1, cc_M_within_2, cc_M_within_3, k_m2, g_583_61, il_62, il_63, il_64, il_66, il_67, il_68, il_69, il_70, il_71, il_72, il_73, il_74, il_75, il_76, il_77, ik_62_0, ik_62_1, ik_62_2, ik_62_3, ik_62_4, ik_73_0, ik_74_0, e_istore_3, e_kpi, e_kpr, e_kpl, e_kpd, is_62, is_63, is_64, is_66, is_67, is_68, is_69, is_70, is_71, is_72, is_73, is_74, is_75, is_76, is_77, iks_73_0, iks_74_0, e_iload_3, eq_self, l5, hx, hb, not_true_eq_false, not_false_eq_true, if_true, if_false, true_or, or_true, false_or, or_false, true_and, and_true, false_and, and_false, and_self, or_self, reduceIte, Bool.false_eq_true, i10, i01]
  · refine ⟨-1, q, s, q, s, n, nt, ?_, ?_, hi⟩
    · simp only [b_18_e, b_18_13, b_18_23, b_18_26, e_aloadr_0, g_512_0, e_iload_1, cc_Line_hasStation_0, cc_Line_hasStation_1, cc_Line_hasStation_2, cc_Line_hasStation_3, Option.toList_some, Option.toList_none, List.cons_append, List.nil_append, e_if_ne, k_m1, e_iret, e_iload_2, e_if_lt, k_100000, e_icmp_le, e_jsr, k_m2, g_129_1, il_3, il_4, il_29, il_51, g_387_6, g_387_7, g_387_8, g_387_9, g_387_10, gs_f387, e_istore_3, e_kpi, e_kpr, e_kpl, e_kpd, p_387_6, p_387_7, p_387_8, p_387_9, p_387_10, ps_f387, e_iload_3, eq_self, l1, hx, not_true_eq_false, not_false_eq_true, if_true, if_false, true_or, or_true, false_or, or_false, true_and, and_true, false_and, and_false, and_self, or_self, reduceIte, Bool.false_eq_true, i10, i01]
    · simp only [b_124_e, b_124_10, b_124_23, e_aloadr_0, e_iload_1, cc_M_isStation_0, cc_M_isStation_1, cc_M_isStation_2, cc_M_isStation_3, Option.toList_some, Option.toList_none, List.cons_append, List.nil_append, e_if_ne, k_m1, e_iret, e_iload_2, k_0, k_100000, cc_M_within_0, cc_M_within_1, cc_M_within_2, cc_M_within_3, k_m2, g_583_61, il_62, il_63, il_64, il_66, il_67, il_68, il_69, il_70, il_71, il_72, il_73, il_74, il_75, il_76, il_77, ik_62_0, ik_62_1, ik_62_2, ik_62_3, ik_62_4, ik_73_0, ik_74_0, e_istore_3, e_kpi, e_kpr, e_kpl, e_kpd, is_62, is_63, is_64, is_66, is_67, is_68, is_69, is_70, is_71, is_72, is_73, is_74, is_75, is_76, is_77, iks_73_0, iks_74_0, e_iload_3, eq_self, l5, hx, not_true_eq_false, not_false_eq_true, if_true, if_false, true_or, or_true, false_or, or_false, true_and, and_true, false_and, and_false, and_self, or_self, reduceIte, Bool.false_eq_true, i10, i01]
theorem ab_0 : am_tsw 84 0 3 #[56, 61, 66, 79] 0 = Int.toNat 56 := by decide +kernel
theorem ab_1 : am_tsw 84 0 3 #[56, 61, 66, 79] 1 = Int.toNat 61 := by decide +kernel
theorem ab_2 : am_tsw 84 0 3 #[56, 61, 66, 79] 2 = Int.toNat 66 := by decide +kernel
theorem ab_3 : am_tsw 84 0 3 #[56, 61, 66, 79] 3 = Int.toNat 79 := by decide +kernel
theorem am_0 : am_tsw 76 0 3 #[40, 47, 54, 69] 0 = Int.toNat 40 := by decide +kernel
theorem am_1 : am_tsw 76 0 3 #[40, 47, 54, 69] 1 = Int.toNat 47 := by decide +kernel
theorem am_2 : am_tsw 76 0 3 #[40, 47, 54, 69] 2 = Int.toNat 54 := by decide +kernel
theorem am_3 : am_tsw 76 0 3 #[40, 47, 54, 69] 3 = Int.toNat 69 := by decide +kernel
theorem tsw_d {x : Int32} {d : Int} {os : Array Int} {m : Int} (hm : 0 ≤ m ∧ m < 1000) (h : ¬ (0 ≤ x.toInt ∧ x.toInt ≤ m)) : am_tsw d 0 m os x = d.toNat := by
  unfold am_tsw
  rw [if_pos (by omega)]
theorem n4_03 {x : Int32} (h : ¬ (0 ≤ x ∧ x ≤ 3)) : ¬ (0 ≤ x.toInt ∧ x.toInt ≤ 3) := by
  have h3 : (3 : Int32).toInt = 3 := rfl
  have h0 : (0 : Int32).toInt = 0 := rfl
  rw [Int32.le_iff_toInt_le, Int32.le_iff_toInt_le, h3, h0] at h
  exact h
theorem o_about (hi : INV q s n nt) (x b : Int32) : OPi E 19 125 [.ref 0, .int x, .int b, am_dm] [.ref 61, .int x, .int b] q s := by
  obtain ⟨⟨l1, l2⟩, ⟨l3, l4⟩, ⟨l5, l6⟩, l7⟩ := lay_b hi
  by_cases hx : 0 ≤ x ∧ x < nI n
  · obtain ⟨j, hj, rfl⟩ := rng_n (N := n) (by omega) hx.1 hx.2
    have hj5 : j < 5 := by omega
    have hj6 : j < 6 := by omega
    obtain ⟨e0, e1, e2, e3⟩ := hi.2.1.2.2.1 j hj
    by_cases hb : 0 ≤ b ∧ b ≤ 3
    · rcases f3_03 hb with rfl | rfl | rfl | rfl
      · refine ⟨q (6 + j) 0, q, s, q, s, n, nt, ?_, ?_, hi⟩
        · simp only [b_19_e, b_19_13, b_19_56, b_19_61, b_19_66, b_19_77, b_19_78, b_19_79, b_19_84, e_aloadr_0, g_512_0, e_iload_1, cc_Line_hasStation_0, cc_Line_hasStation_1, cc_Line_hasStation_2, cc_Line_hasStation_3, Option.toList_some, Option.toList_none, List.cons_append, List.nil_append, e_if_ne, k_m1, e_iret, g_129_1, il_3, il_4, il_29, il_51, e_astore_3, e_kpi, e_kpr, e_kpl, e_kpd, e_iload_2, e_tsw, e_aloadr_3, g_384_6, g_384_7, g_384_8, g_384_9, g_384_10, gs_f384, g_385_6, g_385_7, g_385_8, g_385_9, g_385_10, gs_f385, g_386_6, g_386_7, g_386_8, g_386_9, g_386_10, gs_f386, e_if_eq, k_1, e_goto, k_0, e_jsr, g_387_6, g_387_7, g_387_8, g_387_9, g_387_10, gs_f387, k_m2, eq_self, l1, hx, hj5, ab_0, not_true_eq_false, not_false_eq_true, if_true, if_false, true_or, or_true, false_or, or_false, true_and, and_true, false_and, and_false, and_self, or_self, reduceIte, Bool.false_eq_true, i10, i01]
        · simp only [b_125_e, b_125_10, b_125_40, b_125_47, b_125_54, b_125_67, b_125_68, b_125_69, b_125_76, e_aloadr_0, e_iload_1, cc_M_isStation_0, cc_M_isStation_1, cc_M_isStation_2, cc_M_isStation_3, Option.toList_some, Option.toList_none, List.cons_append, List.nil_append, e_if_ne, k_m1, e_iret, e_iload_2, e_tsw, g_580_61, il_62, il_63, il_64, il_66, il_67, il_68, il_69, il_70, il_71, il_72, il_73, il_74, il_75, il_76, il_77, ik_62_0, ik_62_1, ik_62_2, ik_62_3, ik_62_4, ik_73_0, ik_74_0, g_581_61, g_582_61, il_65, e_if_eq, k_0, e_goto, k_1, e_jsr, g_583_61, k_m2, eq_self, l5, hx, hj5, am_0, e0, not_true_eq_false, not_false_eq_true, if_true, if_false, true_or, or_true, false_or, or_false, true_and, and_true, false_and, and_false, and_self, or_self, reduceIte, Bool.false_eq_true, i10, i01]
      · refine ⟨q (6 + j) 1, q, s, q, s, n, nt, ?_, ?_, hi⟩
        · simp only [b_19_e, b_19_13, b_19_56, b_19_61, b_19_66, b_19_77, b_19_78, b_19_79, b_19_84, e_aloadr_0, g_512_0, e_iload_1, cc_Line_hasStation_0, cc_Line_hasStation_1, cc_Line_hasStation_2, cc_Line_hasStation_3, Option.toList_some, Option.toList_none, List.cons_append, List.nil_append, e_if_ne, k_m1, e_iret, g_129_1, il_3, il_4, il_29, il_51, e_astore_3, e_kpi, e_kpr, e_kpl, e_kpd, e_iload_2, e_tsw, e_aloadr_3, g_384_6, g_384_7, g_384_8, g_384_9, g_384_10, gs_f384, g_385_6, g_385_7, g_385_8, g_385_9, g_385_10, gs_f385, g_386_6, g_386_7, g_386_8, g_386_9, g_386_10, gs_f386, e_if_eq, k_1, e_goto, k_0, e_jsr, g_387_6, g_387_7, g_387_8, g_387_9, g_387_10, gs_f387, k_m2, eq_self, l1, hx, hj5, ab_1, not_true_eq_false, not_false_eq_true, if_true, if_false, true_or, or_true, false_or, or_false, true_and, and_true, false_and, and_false, and_self, or_self, reduceIte, Bool.false_eq_true, i10, i01]
        · simp only [b_125_e, b_125_10, b_125_40, b_125_47, b_125_54, b_125_67, b_125_68, b_125_69, b_125_76, e_aloadr_0, e_iload_1, cc_M_isStation_0, cc_M_isStation_1, cc_M_isStation_2, cc_M_isStation_3, Option.toList_some, Option.toList_none, List.cons_append, List.nil_append, e_if_ne, k_m1, e_iret, e_iload_2, e_tsw, g_580_61, il_62, il_63, il_64, il_66, il_67, il_68, il_69, il_70, il_71, il_72, il_73, il_74, il_75, il_76, il_77, ik_62_0, ik_62_1, ik_62_2, ik_62_3, ik_62_4, ik_73_0, ik_74_0, g_581_61, g_582_61, il_65, e_if_eq, k_0, e_goto, k_1, e_jsr, g_583_61, k_m2, eq_self, l5, hx, hj5, hj6, am_1, e1, not_true_eq_false, not_false_eq_true, if_true, if_false, true_or, or_true, false_or, or_false, true_and, and_true, false_and, and_false, and_self, or_self, reduceIte, Bool.false_eq_true, i10, i01]
      · by_cases hin : q (6 + j) 2 = 0
        · rw [if_pos hin] at e2
          refine ⟨0, q, s, q, s, n, nt, ?_, ?_, hi⟩
          · simp only [b_19_e, b_19_13, b_19_56, b_19_61, b_19_66, b_19_77, b_19_78, b_19_79, b_19_84, e_aloadr_0, g_512_0, e_iload_1, cc_Line_hasStation_0, cc_Line_hasStation_1, cc_Line_hasStation_2, cc_Line_hasStation_3, Option.toList_some, Option.toList_none, List.cons_append, List.nil_append, e_if_ne, k_m1, e_iret, g_129_1, il_3, il_4, il_29, il_51, e_astore_3, e_kpi, e_kpr, e_kpl, e_kpd, e_iload_2, e_tsw, e_aloadr_3, g_384_6, g_384_7, g_384_8, g_384_9, g_384_10, gs_f384, g_385_6, g_385_7, g_385_8, g_385_9, g_385_10, gs_f385, g_386_6, g_386_7, g_386_8, g_386_9, g_386_10, gs_f386, e_if_eq, k_1, e_goto, k_0, e_jsr, g_387_6, g_387_7, g_387_8, g_387_9, g_387_10, gs_f387, k_m2, eq_self, l1, hx, hj5, ab_2, hin, not_true_eq_false, not_false_eq_true, if_true, if_false, true_or, or_true, false_or, or_false, true_and, and_true, false_and, and_false, and_self, or_self, reduceIte, Bool.false_eq_true, i10, i01]
          · simp only [b_125_e, b_125_10, b_125_40, b_125_47, b_125_54, b_125_67, b_125_68, b_125_69, b_125_76, e_aloadr_0, e_iload_1, cc_M_isStation_0, cc_M_isStation_1, cc_M_isStation_2, cc_M_isStation_3, Option.toList_some, Option.toList_none, List.cons_append, List.nil_append, e_if_ne, k_m1, e_iret, e_iload_2, e_tsw, g_580_61, il_62, il_63, il_64, il_66, il_67, il_68, il_69, il_70, il_71, il_72, il_73, il_74, il_75, il_76, il_77, ik_62_0, ik_62_1, ik_62_2, ik_62_3, ik_62_4, ik_73_0, ik_74_0, g_581_61, g_582_61, il_65, e_if_eq, k_0, e_goto, k_1, e_jsr, g_583_61, k_m2, eq_self, l5, hx, hj5, am_2, e2, not_true_eq_false, not_false_eq_true, if_true, if_false, true_or, or_true, false_or, or_false, true_and, and_true, false_and, and_false, and_self, or_self, reduceIte, Bool.false_eq_true, i10, i01]
        · rw [if_neg hin] at e2
          refine ⟨1, q, s, q, s, n, nt, ?_, ?_, hi⟩
          · simp only [b_19_e, b_19_13, b_19_56, b_19_61, b_19_66, b_19_77, b_19_78, b_19_79, b_19_84, e_aloadr_0, g_512_0, e_iload_1, cc_Line_hasStation_0, cc_Line_hasStation_1, cc_Line_hasStation_2, cc_Line_hasStation_3, Option.toList_some, Option.toList_none, List.cons_append, List.nil_append, e_if_ne, k_m1, e_iret, g_129_1, il_3, il_4, il_29, il_51, e_astore_3, e_kpi, e_kpr, e_kpl, e_kpd, e_iload_2, e_tsw, e_aloadr_3, g_384_6, g_384_7, g_384_8, g_384_9, g_384_10, gs_f384, g_385_6, g_385_7, g_385_8, g_385_9, g_385_10, gs_f385, g_386_6, g_386_7, g_386_8, g_386_9, g_386_10, gs_f386, e_if_eq, k_1, e_goto, k_0, e_jsr, g_387_6, g_387_7, g_387_8, g_387_9, g_387_10, gs_f387, k_m2, eq_self, l1, hx, hj5, ab_2, hin, not_true_eq_false, not_false_eq_true, if_true, if_false, true_or, or_true, false_or, or_false, true_and, and_true, false_and, and_false, and_self, or_self, reduceIte, Bool.false_eq_true, i10, i01]
          · simp only [b_125_e, b_125_10, b_125_40, b_125_47, b_125_54, b_125_67, b_125_68, b_125_69, b_125_76, e_aloadr_0, e_iload_1, cc_M_isStation_0, cc_M_isStation_1, cc_M_isStation_2, cc_M_isStation_3, Option.toList_some, Option.toList_none, List.cons_append, List.nil_append, e_if_ne, k_m1, e_iret, e_iload_2, e_tsw, g_580_61, il_62, il_63, il_64, il_66, il_67, il_68, il_69, il_70, il_71, il_72, il_73, il_74, il_75, il_76, il_77, ik_62_0, ik_62_1, ik_62_2, ik_62_3, ik_62_4, ik_73_0, ik_74_0, g_581_61, g_582_61, il_65, e_if_eq, k_0, e_goto, k_1, e_jsr, g_583_61, k_m2, eq_self, l5, hx, hj5, am_2, e2, not_true_eq_false, not_false_eq_true, if_true, if_false, true_or, or_true, false_or, or_false, true_and, and_true, false_and, and_false, and_self, or_self, reduceIte, Bool.false_eq_true, i10, i01]
      · refine ⟨q (6 + j) 3, q, s, q, s, n, nt, ?_, ?_, hi⟩
        · simp only [b_19_e, b_19_13, b_19_56, b_19_61, b_19_66, b_19_77, b_19_78, b_19_79, b_19_84, e_aloadr_0, g_512_0, e_iload_1, cc_Line_hasStation_0, cc_Line_hasStation_1, cc_Line_hasStation_2, cc_Line_hasStation_3, Option.toList_some, Option.toList_none, List.cons_append, List.nil_append, e_if_ne, k_m1, e_iret, g_129_1, il_3, il_4, il_29, il_51, e_astore_3, e_kpi, e_kpr, e_kpl, e_kpd, e_iload_2, e_tsw, e_aloadr_3, g_384_6, g_384_7, g_384_8, g_384_9, g_384_10, gs_f384, g_385_6, g_385_7, g_385_8, g_385_9, g_385_10, gs_f385, g_386_6, g_386_7, g_386_8, g_386_9, g_386_10, gs_f386, e_if_eq, k_1, e_goto, k_0, e_jsr, g_387_6, g_387_7, g_387_8, g_387_9, g_387_10, gs_f387, k_m2, eq_self, l1, hx, hj5, ab_3, not_true_eq_false, not_false_eq_true, if_true, if_false, true_or, or_true, false_or, or_false, true_and, and_true, false_and, and_false, and_self, or_self, reduceIte, Bool.false_eq_true, i10, i01]
        · simp only [b_125_e, b_125_10, b_125_40, b_125_47, b_125_54, b_125_67, b_125_68, b_125_69, b_125_76, e_aloadr_0, e_iload_1, cc_M_isStation_0, cc_M_isStation_1, cc_M_isStation_2, cc_M_isStation_3, Option.toList_some, Option.toList_none, List.cons_append, List.nil_append, e_if_ne, k_m1, e_iret, e_iload_2, e_tsw, g_580_61, il_62, il_63, il_64, il_66, il_67, il_68, il_69, il_70, il_71, il_72, il_73, il_74, il_75, il_76, il_77, ik_62_0, ik_62_1, ik_62_2, ik_62_3, ik_62_4, ik_73_0, ik_74_0, g_581_61, g_582_61, il_65, e_if_eq, k_0, e_goto, k_1, e_jsr, g_583_61, k_m2, eq_self, l5, hx, hj5, am_3, e3, not_true_eq_false, not_false_eq_true, if_true, if_false, true_or, or_true, false_or, or_false, true_and, and_true, false_and, and_false, and_self, or_self, reduceIte, Bool.false_eq_true, i10, i01]
    · have ht1 := tsw_d (d := 84) (os := #[56, 61, 66, 79]) (m := 3) (by decide) (n4_03 hb)
      have ht2 := tsw_d (d := 76) (os := #[40, 47, 54, 69]) (m := 3) (by decide) (n4_03 hb)
      refine ⟨-2, q, s, q, s, n, nt, ?_, ?_, hi⟩
      · simp only [b_19_e, b_19_13, b_19_56, b_19_61, b_19_66, b_19_77, b_19_78, b_19_79, b_19_84, e_aloadr_0, g_512_0, e_iload_1, cc_Line_hasStation_0, cc_Line_hasStation_1, cc_Line_hasStation_2, cc_Line_hasStation_3, Option.toList_some, Option.toList_none, List.cons_append, List.nil_append, e_if_ne, k_m1, e_iret, g_129_1, il_3, il_4, il_29, il_51, e_astore_3, e_kpi, e_kpr, e_kpl, e_kpd, e_iload_2, e_tsw, e_aloadr_3, g_384_6, g_384_7, g_384_8, g_384_9, g_384_10, gs_f384, g_385_6, g_385_7, g_385_8, g_385_9, g_385_10, gs_f385, g_386_6, g_386_7, g_386_8, g_386_9, g_386_10, gs_f386, e_if_eq, k_1, e_goto, k_0, e_jsr, g_387_6, g_387_7, g_387_8, g_387_9, g_387_10, gs_f387, k_m2, eq_self, l1, hx, hj5, ht1, not_true_eq_false, not_false_eq_true, if_true, if_false, true_or, or_true, false_or, or_false, true_and, and_true, false_and, and_false, and_self, or_self, reduceIte, Bool.false_eq_true, i10, i01]
      · simp only [b_125_e, b_125_10, b_125_40, b_125_47, b_125_54, b_125_67, b_125_68, b_125_69, b_125_76, e_aloadr_0, e_iload_1, cc_M_isStation_0, cc_M_isStation_1, cc_M_isStation_2, cc_M_isStation_3, Option.toList_some, Option.toList_none, List.cons_append, List.nil_append, e_if_ne, k_m1, e_iret, e_iload_2, e_tsw, g_580_61, il_62, il_63, il_64, il_66, il_67, il_68, il_69, il_70, il_71, il_72, il_73, il_74, il_75, il_76, il_77, ik_62_0, ik_62_1, ik_62_2, ik_62_3, ik_62_4, ik_73_0, ik_74_0, g_581_61, g_582_61, il_65, e_if_eq, k_0, e_goto, k_1, e_jsr, g_583_61, k_m2, eq_self, l5, hx, ht2, not_true_eq_false, not_false_eq_true, if_true, if_false, true_or, or_true, false_or, or_false, true_and, and_true, false_and, and_false, and_self, or_self, reduceIte, Bool.false_eq_true, i10, i01]
  · refine ⟨-1, q, s, q, s, n, nt, ?_, ?_, hi⟩
    · simp only [b_19_e, b_19_13, b_19_56, b_19_61, b_19_66, b_19_77, b_19_78, b_19_79, b_19_84, e_aloadr_0, g_512_0, e_iload_1, cc_Line_hasStation_0, cc_Line_hasStation_1, cc_Line_hasStation_2, cc_Line_hasStation_3, Option.toList_some, Option.toList_none, List.cons_append, List.nil_append, e_if_ne, k_m1, e_iret, g_129_1, il_3, il_4, il_29, il_51, e_astore_3, e_kpi, e_kpr, e_kpl, e_kpd, e_iload_2, e_tsw, e_aloadr_3, g_384_6, g_384_7, g_384_8, g_384_9, g_384_10, gs_f384, g_385_6, g_385_7, g_385_8, g_385_9, g_385_10, gs_f385, g_386_6, g_386_7, g_386_8, g_386_9, g_386_10, gs_f386, e_if_eq, k_1, e_goto, k_0, e_jsr, g_387_6, g_387_7, g_387_8, g_387_9, g_387_10, gs_f387, k_m2, eq_self, l1, hx, not_true_eq_false, not_false_eq_true, if_true, if_false, true_or, or_true, false_or, or_false, true_and, and_true, false_and, and_false, and_self, or_self, reduceIte, Bool.false_eq_true, i10, i01]
    · simp only [b_125_e, b_125_10, b_125_40, b_125_47, b_125_54, b_125_67, b_125_68, b_125_69, b_125_76, e_aloadr_0, e_iload_1, cc_M_isStation_0, cc_M_isStation_1, cc_M_isStation_2, cc_M_isStation_3, Option.toList_some, Option.toList_none, List.cons_append, List.nil_append, e_if_ne, k_m1, e_iret, e_iload_2, e_tsw, g_580_61, il_62, il_63, il_64, il_66, il_67, il_68, il_69, il_70, il_71, il_72, il_73, il_74, il_75, il_76, il_77, ik_62_0, ik_62_1, ik_62_2, ik_62_3, ik_62_4, ik_73_0, ik_74_0, g_581_61, g_582_61, il_65, e_if_eq, k_0, e_goto, k_1, e_jsr, g_583_61, k_m2, eq_self, l5, hx, not_true_eq_false, not_false_eq_true, if_true, if_false, true_or, or_true, false_or, or_false, true_and, and_true, false_and, and_false, and_self, or_self, reduceIte, Bool.false_eq_true, i10, i01]
theorem o_trace (hi : INV q s n nt) : OPi E 108 183 [.ref 0] [.ref 61] q s := by
  refine ⟨q 0 4, q, s, q, s, n, nt, ?_, ?_, hi⟩
  · simp only [b_108_e, e_aloadr_0, g_516_0, e_iret, eq_self]
  · have := hi.2.2.2.1.1
    rw [this]
    simp only [b_183_e, e_aloadr_0, g_577_61, e_iret, eq_self]
theorem o_fault (hi : INV q s n nt) : OPi E 109 184 [.ref 0] [.ref 61] q s := by
  refine ⟨q 0 5, q, s, q, s, n, nt, ?_, ?_, hi⟩
  · simp only [b_109_e, e_aloadr_0, g_517_0, e_iret, eq_self]
  · have := hi.2.2.2.1.2
    rw [this]
    simp only [b_184_e, e_aloadr_0, g_576_61, e_iret, eq_self]
end Ci
