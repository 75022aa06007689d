/-! train, run, station -/
section Cj
variable {E : aE} {q : Nat → Nat → Int32} {s : Nat → Nat → Int64} {n nt : Nat}
theorem o_train (hi : INV q s n nt) : OPi E 20 126 [.ref 0, am_dm] [.ref 61, am_dm] q s := by
  obtain ⟨⟨l1, l2⟩, ⟨l3, l4⟩, ⟨l5, l6⟩, l7⟩ := lay_b hi
  by_cases hn : nt < 5
  · have hlt : (nI nt < 5) = True := lt5 hn
    have hne5 : (nI nt = 5) = False := eq_false (fun z => by have := (nI_eq (b := 5) (by omega) (by decide)).mp z; omega)
    obtain ⟨⟨⟨a1, a1b⟩, a2, a3, a4, a5⟩, a6, a7, a8, a9, a10⟩ := iA_raw.mp hi.1
    obtain ⟨r1, r2, r3, w1, w2, w3, w4⟩ := (iR_raw l4).mp hi.2.1
    have hp1 : ∀ a c, ¬ ((a = 1 ∧ c = 5) ∨ a = 26 ∨ a = 45 ∨ a = 48) → fgt (am_up q 1 5 (nI (nt + 1))) a c = q a c := fun a c h => by rw [fgt_ne (by omega), am_upa, if_neg (by omega)]
    have v15 : fgt (am_up q 1 5 (nI (nt + 1))) 1 5 = nI (nt + 1) := by rw [fgt_ne (by decide), am_up_self]
    have hf1 := fgt_at (q := am_up q 1 5 (nI (nt + 1)))
    have hcl : ev E 20 (am_B 20 0) [.ref 0, am_dm] [] (HH q s) = some (some (.int (nI nt)), HH (fgt (am_up q 1 5 (nI (nt + 1)))) s) := by
      simp only [b_20_e, b_20_14, e_aloadr_0, g_512_0, g_133_1, k_5, e_icmp_lt, k_m4, e_iret, e_istore_1, e_kpi, e_kpr, e_kpl, e_kpd, e_iload_1, k_1, e_iadd, p_133_1, g_513_0, cc_Day_forget_0, cc_Day_forget_1, cc_Day_forget_2, cc_Day_forget_3, Option.toList_some, Option.toList_none, List.cons_append, List.nil_append, eq_self, l3, hlt, nI_1, not_true_eq_false, not_false_eq_true, if_true, if_false, true_or, or_true, false_or, or_false, true_and, and_true, false_and, and_false, and_self, or_self, reduceIte, Bool.false_eq_true, i10, i01]
    generalize fgt (am_up q 1 5 (nI (nt + 1))) = p1 at *
    have e618 : p1 61 8 = nI nt := by rw [hp1 61 8 (by omega)]; exact l6
    obtain ⟨p2, hl, hJ⟩ := loop_inv (fun i (x : Nat → Nat → Int32) => ev E 126 (am_B 126 (Int.toNat 13)) [.ref 61, .int (nI i)] [] (HH x s)) (fun i x => ∀ a b, x a b = if (a = 67 ∨ a = 68) ∧ 24 * nt ≤ b ∧ b < 24 * nt + i then 0 else p1 a b) 24 (fun i x hi2 hj => by
      have e8 : x 61 8 = nI nt := by rw [hj 61 8, if_neg (by omega)]; exact e618
      have e8b : ∀ v, am_up x 67 (24 * nt + i) v 61 8 = nI nt := fun v => by rw [am_upa, if_neg (by omega)]; exact e8
      have hk : 24 * nt + i < 120 := by omega
      refine ⟨am_up (am_up x 67 (24 * nt + i) 0) 68 (24 * nt + i) 0, hd b_126_13 ?_, fun a b => ?_⟩
      · simp only [b_126_e, b_126_11, b_126_55, e_aloadr_0, g_584_61, k_5, e_icmp_ne, k_m4, e_iret, k_0, e_istore_1, e_kpi, e_kpr, e_kpl, e_kpd, e_jsr, e_iload_1, k_24, e_icmp_ge, g_585_61, e_imul, e_iadd, is_62, is_63, is_64, is_66, is_67, is_68, is_69, is_70, is_71, is_72, is_73, is_74, is_75, is_76, is_77, iks_73_0, iks_74_0, g_586_61, e_iinc_1, e_goto, g_587_61, e_dupr, e_dupi, k_1, p_584_61, e_isub, eq_self, le24 hi2, e8, e8b, k24 hn, nI_add, hk, not_true_eq_false, not_false_eq_true, if_true, if_false, true_or, or_true, false_or, or_false, true_and, and_true, false_and, and_false, and_self, or_self, reduceIte, Bool.false_eq_true, i10, i01, e_inc1]
      · rw [am_upa, am_upa, hj a b]
        by_cases h1 : a = 68 ∧ b = 24 * nt + i
        · rw [if_pos h1, if_pos ⟨Or.inr h1.1, by omega, by omega⟩]
        · rw [if_neg h1]
          by_cases h2 : a = 67 ∧ b = 24 * nt + i
          · rw [if_pos h2, if_pos ⟨Or.inl h2.1, by omega, by omega⟩]
          · rw [if_neg h2]
            by_cases h3 : (a = 67 ∨ a = 68) ∧ 24 * nt ≤ b ∧ b < 24 * nt + i
            · rw [if_pos h3, if_pos ⟨h3.1, by omega, by omega⟩]
            · rw [if_neg h3, if_neg (by omega)]) p1 (fun a b => by rw [if_neg (by omega)])
    have e8 : p2 61 8 = nI nt := by rw [hJ 61 8, if_neg (by omega)]; exact e618
    have e8b : am_up p2 69 nt 0 61 8 = nI nt := by rw [am_upa, if_neg (by omega)]; exact e8
    have hsub : nI (nt + 1) - 1 = nI nt := nI_pred nt
    refine ⟨nI nt, p1, s, am_up (am_up p2 69 nt 0) 61 8 (nI (nt + 1)), s, n, nt + 1, hcl, ?_, ?_⟩
    · have hend : ev E 126 (am_B 126 (Int.toNat 13)) [.ref 61, .int (nI 24)] [] (HH p2 s) = some (some (.int (nI nt)), HH (am_up (am_up p2 69 nt 0) 61 8 (nI (nt + 1))) s) := by
        refine hd b_126_13 ?_
        simp only [b_126_e, b_126_11, b_126_55, e_aloadr_0, g_584_61, k_5, e_icmp_ne, k_m4, e_iret, k_0, e_istore_1, e_kpi, e_kpr, e_kpl, e_kpd, e_jsr, e_iload_1, k_24, e_icmp_ge, g_585_61, e_imul, e_iadd, is_62, is_63, is_64, is_66, is_67, is_68, is_69, is_70, is_71, is_72, is_73, is_74, is_75, is_76, is_77, iks_73_0, iks_74_0, g_586_61, e_iinc_1, e_goto, g_587_61, e_dupr, e_dupi, k_1, p_584_61, e_isub, eq_self, le2424, e8, e8b, hn, nI_1, am_up_self, hsub, not_true_eq_false, not_false_eq_true, if_true, if_false, true_or, or_true, false_or, or_false, true_and, and_true, false_and, and_false, and_self, or_self, reduceIte, Bool.false_eq_true, i10, i01]
      rw [← hend, ← hl]
      simp only [b_126_e, b_126_11, b_126_55, e_aloadr_0, g_584_61, k_5, e_icmp_ne, k_m4, e_iret, k_0, e_istore_1, e_kpi, e_kpr, e_kpl, e_kpd, e_jsr, e_iload_1, k_24, e_icmp_ge, g_585_61, e_imul, e_iadd, is_62, is_63, is_64, is_66, is_67, is_68, is_69, is_70, is_71, is_72, is_73, is_74, is_75, is_76, is_77, iks_73_0, iks_74_0, g_586_61, e_iinc_1, e_goto, g_587_61, e_dupr, e_dupi, k_1, p_584_61, e_isub, eq_self, e618, hne5, not_true_eq_false, not_false_eq_true, if_true, if_false, true_or, or_true, false_or, or_false, true_and, and_true, false_and, and_false, and_self, or_self, reduceIte, Bool.false_eq_true, i10, i01]
      rfl
    · have hp : ∀ a c, ¬ ((a = 1 ∧ c = 5) ∨ a = 26 ∨ a = 45 ∨ a = 48 ∨ ((a = 67 ∨ a = 68) ∧ 24 * nt ≤ c ∧ c < 24 * nt + 24) ∨ (a = 69 ∧ c = nt) ∨ (a = 61 ∧ c = 8)) → am_up (am_up p2 69 nt 0) 61 8 (nI (nt + 1)) a c = q a c := fun a c h => by rw [am_upa, if_neg (by omega), am_upa, if_neg (by omega), hJ a c, if_neg (by omega), hp1 a c (by omega)]
      have v8 : am_up (am_up p2 69 nt 0) 61 8 (nI (nt + 1)) 61 8 = nI (nt + 1) := am_up_self
      have v69 : am_up (am_up p2 69 nt 0) 61 8 (nI (nt + 1)) 69 nt = 0 := by rw [am_upa, if_neg (by omega), am_up_self]
      have v67 : ∀ t, t < 24 → am_up (am_up p2 69 nt 0) 61 8 (nI (nt + 1)) 67 (24 * nt + t) = 0 := fun t ht => by rw [am_upa, if_neg (by omega), am_upa, if_neg (by omega), hJ, if_pos ⟨Or.inl rfl, by omega, by omega⟩]
      have v5 : am_up (am_up p2 69 nt 0) 61 8 (nI (nt + 1)) 1 5 = nI (nt + 1) := by rw [am_upa, if_neg (by omega), am_upa, if_neg (by omega), hJ, if_neg (by omega)]; exact v15
      have hf : am_up (am_up p2 69 nt 0) 61 8 (nI (nt + 1)) 26 8 = 0 ∧ am_up (am_up p2 69 nt 0) 61 8 (nI (nt + 1)) 45 2 = 0 ∧ am_up (am_up p2 69 nt 0) 61 8 (nI (nt + 1)) 48 2 = 0 := by
        rw [am_upa, if_neg (by omega), am_upa, if_neg (by omega), hJ, if_neg (by omega), am_upa, if_neg (by omega), am_upa, if_neg (by omega), hJ, if_neg (by omega), am_upa, if_neg (by omega), am_upa, if_neg (by omega), hJ, if_neg (by omega)]
        exact hf1
      generalize am_up (am_up p2 69 nt 0) 61 8 (nI (nt + 1)) = p at *
      have h10 := a10 nt (Nat.le_refl _) hn
      have eP : ∀ k, k < 5 → sP p k = sP q k := fun k hk => hp _ _ (by omega)
      have e2 : ∀ c, p 2 c = q 2 c := fun c => hp _ _ (by omega)
      have eT : ∀ k t, k < 5 → tP p k t = tP q k t ∧ tA p k t = tA q k t := fun k t hk => ⟨hp _ _ (by omega), hp _ _ (by omega)⟩
      have e5 : ∀ k, p 5 k = q 5 k := fun k => hp _ _ (by omega)
      have eO : ∀ k, oF p 5 k = oF q 5 k := fun k => by unfold oF; rw [e5]
      refine INV_new hi ⟨⟨⟨?_, ?_⟩, ⟨?_, ?_, ?_⟩, ?_, ⟨?_, ?_⟩, ?_⟩, ?_, ?_, ?_, ?_, ?_⟩ ⟨?_, ?_, ?_, ?_, ?_, ?_, ?_⟩ ?_ hf
      · rw [hp 1 4 (by omega)]; exact a1
      · exact v5
      · exact a2.1
      · intro k hk; rw [eP k (by omega)]; exact a2.2.1 k hk
      · intro k t h1 h2; rw [eP k (by omega), eP t (by omega)]; exact a2.2.2 k t h1 h2
      · unfold LiR; rw [e2, e2, e2, e2, e2]; exact a3
      · omega
      · intro k hk t ht
        rw [(eT k t (by omega)).1, (eT k t (by omega)).2]
        by_cases e : k = nt
        · subst e; exact Or.inl (h10.1 t ht)
        · exact a4.2 k (by omega) t ht
      · intro k hk; rw [e5, eO]; exact a5 k hk
      · intro k hk; rw [hp (6 + k) 2 (by omega), hp (6 + k) 3 (by omega)]; exact a6 k hk
      · intro k h1 h2; rw [hp (6 + k) 2 (by omega), hp (6 + k) 3 (by omega)]; exact a7 k h1 h2
      · intro k hk; rw [hp (6 + k) 0 (by omega), eP k (by omega), e2]; exact a8 k hk
      · intro k hk t ht
        rw [(eT k t (by omega)).1, e2]
        by_cases e : k = nt
        · subst e; exact Or.inl (h10.1 t ht)
        · exact a9 k (by omega) t ht
      · intro k h1 h2; refine ⟨fun t ht => ?_, ?_⟩; rw [(eT k t (by omega)).1]; exact (a10 k (by omega) h2).1 t ht; rw [e5]; exact (a10 k (by omega) h2).2
      · rw [hp 61 3 (by omega)]; exact r1
      · intro c hc; rw [hp 62 c (by omega), e2]; exact r2 c hc
      · intro k hk; rw [hp 63 k (by omega), hp 64 k (by omega), hp 65 k (by omega), hp 66 k (by omega), hp (6 + k) 0 (by omega), hp (6 + k) 1 (by omega), hp (6 + k) 2 (by omega), hp (6 + k) 3 (by omega)]; exact r3 k hk
      · exact v8
      · intro k hk
        by_cases e : k = nt
        · subst e
          rw [v69, eO]
          have : oF q 5 k = 0 := by unfold oF; rw [h10.2]; rfl
          rw [this]; exact ⟨rfl, by omega⟩
        · rw [hp 69 k (by omega), eO]; exact w2 k (by omega)
      · intro k hk t ht
        rw [(eT k t (by omega)).1, (eT k t (by omega)).2]
        by_cases e : k = nt
        · subst e
          rw [v67 t ht, h10.1 t ht]
          exact ⟨by decide, fun z => absurd rfl z⟩
        · rw [hp 67 _ (by omega), hp 68 _ (by omega)]; exact w3 k (by omega) t ht
      · intro k hk
        by_cases e : 24 * nt ≤ k ∧ k < 24 * nt + 24
        · have := v67 (k - 24 * nt) (by omega)
          rw [show 24 * nt + (k - 24 * nt) = k by omega] at this
          rw [this]; decide
        · rw [hp 67 k (by omega)]; exact w4 k hk
      · intro a c z; exact hp a c (by omega)
  · have h5 : nt = 5 := by omega
    have hlt : (nI nt < 5) = False := by rw [h5]; exact eq_false (by decide +kernel)
    have hne5 : (nI nt = 5) = True := by rw [h5]; exact eq_true (by decide +kernel)
    refine ⟨-4, q, s, q, s, n, nt, ?_, ?_, hi⟩
    · simp only [b_20_e, b_20_14, e_aloadr_0, g_512_0, g_133_1, k_5, e_icmp_lt, k_m4, e_iret, e_istore_1, e_kpi, e_kpr, e_kpl, e_kpd, e_iload_1, k_1, e_iadd, p_133_1, g_513_0, cc_Day_forget_0, cc_Day_forget_1, cc_Day_forget_2, cc_Day_forget_3, Option.toList_some, Option.toList_none, List.cons_append, List.nil_append, eq_self, l3, hlt, not_true_eq_false, not_false_eq_true, if_true, if_false, true_or, or_true, false_or, or_false, true_and, and_true, false_and, and_false, and_self, or_self, reduceIte, Bool.false_eq_true, i10, i01]
    · simp only [b_126_e, b_126_11, b_126_55, e_aloadr_0, g_584_61, k_5, e_icmp_ne, k_m4, e_iret, k_0, e_istore_1, e_kpi, e_kpr, e_kpl, e_kpd, e_jsr, e_iload_1, k_24, e_icmp_ge, g_585_61, e_imul, e_iadd, is_62, is_63, is_64, is_66, is_67, is_68, is_69, is_70, is_71, is_72, is_73, is_74, is_75, is_76, is_77, iks_73_0, iks_74_0, g_586_61, e_iinc_1, e_goto, g_587_61, e_dupr, e_dupi, k_1, p_584_61, e_isub, eq_self, l6, hne5, not_true_eq_false, not_false_eq_true, if_true, if_false, true_or, or_true, false_or, or_false, true_and, and_true, false_and, and_false, and_self, or_self, reduceIte, Bool.false_eq_true, i10, i01]
variable {mi : Nat → Nat → Int32} {ml : Nat → Nat → Int64}
theorem ct_M_lay {k t : Nat} {x a : Int32} (hk : k < 5) (ht : t < 24) : ev E 131 (am_B 131 0) [.ref 61, .int (nI k), .int (nI t), .int x, .int a] [] (HH mi ml) = some (none, HH (am_up (am_up mi 67 (24 * k + t) (x + 1)) 68 (24 * k + t) (if 0 ≤ x then a else 0)) ml) := by
  have hi : 24 * k + t < 120 := by omega
  by_cases h0 : 0 ≤ x
  · simp only [b_131_e, b_131_32, b_131_34, e_aloadr_0, g_585_61, k_24, e_iload_1, e_imul, e_iload_2, e_iadd, e_iload_3, k_1, is_62, is_63, is_64, is_66, is_67, is_68, is_69, is_70, is_71, is_72, is_73, is_74, is_75, is_76, is_77, iks_73_0, iks_74_0, g_586_61, e_if_ge, k_0, e_goto, e_iload_4, e_jsr, e_ret, eq_self, k24 hk, nI_add, hi, h0, not_true_eq_false, not_false_eq_true, if_true, if_false, true_or, or_true, false_or, or_false, true_and, and_true, false_and, and_false, and_self, or_self, reduceIte, Bool.false_eq_true, i10, i01]
  · simp only [b_131_e, b_131_32, b_131_34, e_aloadr_0, g_585_61, k_24, e_iload_1, e_imul, e_iload_2, e_iadd, e_iload_3, k_1, is_62, is_63, is_64, is_66, is_67, is_68, is_69, is_70, is_71, is_72, is_73, is_74, is_75, is_76, is_77, iks_73_0, iks_74_0, g_586_61, e_if_ge, k_0, e_goto, e_iload_4, e_jsr, e_ret, eq_self, k24 hk, nI_add, hi, h0, not_true_eq_false, not_false_eq_true, if_true, if_false, true_or, or_true, false_or, or_false, true_and, and_true, false_and, and_false, and_self, or_self, reduceIte, Bool.false_eq_true, i10, i01]
theorem cc_M_lay_0 {M : Nat} {c : List Instr} {L : List Value} {k t : Nat} {x a : Int32} (hk : k < 5) (ht : t < 24) : ev E M (.invokevirtual 131 :: c) L (.int a :: .int x :: .int (nI t) :: .int (nI k) :: .ref 61 :: []) (HH mi ml) = ev E M c L [] (HH (am_up (am_up mi 67 (24 * k + t) (x + 1)) 68 (24 * k + t) (if 0 ≤ x then a else 0)) ml) := e_inv (as := [.ref 61, .int (nI k), .int (nI t), .int x, .int a]) (S := []) rfl rfl (Nat.le_of_ble_eq_true rfl) (rfl) (ct_M_lay hk ht)
theorem cc_M_lay_1 {M : Nat} {c : List Instr} {L : List Value} {s0 : Value} {k t : Nat} {x a : Int32} (hk : k < 5) (ht : t < 24) : ev E M (.invokevirtual 131 :: c) L (.int a :: .int x :: .int (nI t) :: .int (nI k) :: .ref 61 :: [s0]) (HH mi ml) = ev E M c L [s0] (HH (am_up (am_up mi 67 (24 * k + t) (x + 1)) 68 (24 * k + t) (if 0 ≤ x then a else 0)) ml) := e_inv (as := [.ref 61, .int (nI k), .int (nI t), .int x, .int a]) (S := [s0]) rfl rfl (Nat.le_of_ble_eq_true rfl) (rfl) (ct_M_lay hk ht)
theorem cc_M_lay_2 {M : Nat} {c : List Instr} {L : List Value} {s0 s1 : Value} {k t : Nat} {x a : Int32} (hk : k < 5) (ht : t < 24) : ev E M (.invokevirtual 131 :: c) L (.int a :: .int x :: .int (nI t) :: .int (nI k) :: .ref 61 :: [s0, s1]) (HH mi ml) = ev E M c L [s0, s1] (HH (am_up (am_up mi 67 (24 * k + t) (x + 1)) 68 (24 * k + t) (if 0 ≤ x then a else 0)) ml) := e_inv (as := [.ref 61, .int (nI k), .int (nI t), .int x, .int a]) (S := [s0, s1]) rfl rfl (Nat.le_of_ble_eq_true rfl) (rfl) (ct_M_lay hk ht)
theorem cc_M_lay_3 {M : Nat} {c : List Instr} {L : List Value} {s0 s1 s2 : Value} {k t : Nat} {x a : Int32} (hk : k < 5) (ht : t < 24) : ev E M (.invokevirtual 131 :: c) L (.int a :: .int x :: .int (nI t) :: .int (nI k) :: .ref 61 :: [s0, s1, s2]) (HH mi ml) = ev E M c L [s0, s1, s2] (HH (am_up (am_up mi 67 (24 * k + t) (x + 1)) 68 (24 * k + t) (if 0 ≤ x then a else 0)) ml) := e_inv (as := [.ref 61, .int (nI k), .int (nI t), .int x, .int a]) (S := [s0, s1, s2]) rfl rfl (Nat.le_of_ble_eq_true rfl) (rfl) (ct_M_lay hk ht)
theorem pl_ok {q : Nat → Nat → Int32} {n nt : Nat} {s : Nat → Nat → Int64} {x a : Int32} (hi : INV q s n nt) (h : x = -1 ∨ ((0 ≤ x ∧ x ≤ q 2 0) ∧ -400 ≤ a ∧ a ≤ 400)) : (x = -1 ∨ (bd x ∧ a.toInt.natAbs ≤ 400)) ∧ (x = -1 ∨ x.toInt ≤ (q 2 0).toInt) ∧ (¬ x = -1 → 0 ≤ x) ∧ ¬ x = -9 := by
  rcases h with rfl | ⟨h1, h2⟩
  · exact ⟨Or.inl rfl, Or.inl rfl, fun z => absurd rfl z, by decide⟩
  · have hb := pl_bd hi h1
    have h3 : (-400 : Int32).toInt = -400 := rfl
    have h4 : (400 : Int32).toInt = 400 := rfl
    rw [Int32.le_iff_toInt_le, Int32.le_iff_toInt_le, h3, h4] at h2
    refine ⟨Or.inr ⟨hb, by omega⟩, Or.inr ?_, fun _ => h1.1, nI_ne9 hb⟩
    have := h1.2
    rwa [Int32.le_iff_toInt_le] at this
theorem o_run (hi : INV q s n nt) (x t y a : Int32) : OPi E 21 127 [.ref 0, .int x, .int t, .int y, .int a] [.ref 61, .int x, .int t, .int y, .int a] q s := by
  obtain ⟨⟨l1, l2⟩, ⟨l3, l4⟩, ⟨l5, l6⟩, l7⟩ := lay_b hi
  have e0 := l7 0 (by decide)
  by_cases hx : 0 ≤ x ∧ x < nI nt
  · by_cases ht : 0 ≤ t ∧ t < 24
    · by_cases hm : y = -1 ∨ ((0 ≤ y ∧ y ≤ q 2 0) ∧ -400 ≤ a ∧ a ≤ 400)
      · obtain ⟨j, hj, rfl⟩ := rng_n (N := nt) (by omega) hx.1 hx.2
        obtain ⟨k, hk, rfl⟩ := rng_n (N := 24) (by decide) ht.1 ht.2
        have hj5 : j < 5 := by omega
        obtain ⟨o1, o2, o3, o4⟩ := pl_ok hi hm
        obtain ⟨⟨⟨a1, a1b⟩, a2, a3, a4, a5⟩, a6, a7, a8, a9, a10⟩ := iA_raw.mp hi.1
        obtain ⟨r1, r2, r3, w1, w2, w3, w4⟩ := (iR_raw l4).mp hi.2.1
        have hp1 : ∀ b c, ¬ ((b = 12 + 3 * j ∧ c = k) ∨ (b = 13 + 3 * j ∧ c = k) ∨ b = 26 ∨ b = 45 ∨ b = 48) → fgt (am_up (am_up q (12 + 3 * j) k y) (13 + 3 * j) k a) b c = q b c := fun b c h => by rw [fgt_ne (by omega), am_upa, if_neg (by omega), am_upa, if_neg (by omega)]
        have vP : fgt (am_up (am_up q (12 + 3 * j) k y) (13 + 3 * j) k a) (12 + 3 * j) k = y := by rw [fgt_ne (by omega), am_upa, if_neg (by omega), am_up_self]
        have vA : fgt (am_up (am_up q (12 + 3 * j) k y) (13 + 3 * j) k a) (13 + 3 * j) k = a := by rw [fgt_ne (by omega), am_up_self]
        have hf1 := fgt_at (q := am_up (am_up q (12 + 3 * j) k y) (13 + 3 * j) k a)
        have hcl : ev E 21 (am_B 21 0) [.ref 0, .int (nI j), .int (nI k), .int y, .int a] [] (HH q s) = some (some (.int 1), HH (fgt (am_up (am_up q (12 + 3 * j) k y) (13 + 3 * j) k a)) s) := by
          simp only [b_21_e, b_21_18, b_21_20, b_21_36, e_aloadr_0, g_512_0, e_iload_1, cc_Line_hasTrain_0, cc_Line_hasTrain_1, cc_Line_hasTrain_2, cc_Line_hasTrain_3, Option.toList_some, Option.toList_none, List.cons_append, List.nil_append, e_if_eq, e_iload_2, cc_X_isTick_0, cc_X_isTick_1, cc_X_isTick_2, cc_X_isTick_3, e_if_ne, e_jsr, k_m1, e_iret, e_iload_3, e_iload_4, cc_Line_mayRun_0, cc_Line_mayRun_1, cc_Line_mayRun_2, cc_Line_mayRun_3, k_m2, g_130_1, il_3, il_4, il_29, il_51, cc_Train_beAt_0, cc_Train_beAt_1, cc_Train_beAt_2, cc_Train_beAt_3, lay_tr, g_513_0, cc_Day_forget_0, cc_Day_forget_1, cc_Day_forget_2, cc_Day_forget_3, k_1, eq_self, l3, hx, ht, hm, hj5, cc_Train_beAt_0 hj5 hk, not_true_eq_false, not_false_eq_true, if_true, if_false, true_or, or_true, false_or, or_false, true_and, and_true, false_and, and_false, and_self, or_self, reduceIte, Bool.false_eq_true, i10, i01]
        generalize fgt (am_up (am_up q (12 + 3 * j) k y) (13 + 3 * j) k a) = p1 at *
        have e618 : p1 61 8 = nI nt := by rw [hp1 61 8 (by omega)]; exact l6
        have e620 : p1 62 0 = q 2 0 := by rw [hp1 62 0 (by omega)]; exact e0
        refine ⟨1, p1, s, am_up (am_up p1 67 (24 * j + k) (y + 1)) 68 (24 * j + k) (if 0 ≤ y then a else 0), s, n, nt, hcl, ?_, ?_⟩
        · simp only [b_127_e, b_127_15, b_127_17, b_127_30, e_aloadr_0, e_iload_1, cc_M_isTrain_0, cc_M_isTrain_1, cc_M_isTrain_2, cc_M_isTrain_3, Option.toList_some, Option.toList_none, List.cons_append, List.nil_append, e_if_eq, e_iload_2, cc_M_isTick_0, cc_M_isTick_1, cc_M_isTick_2, cc_M_isTick_3, e_if_ne, e_jsr, k_m1, e_iret, e_iload_3, e_iload_4, cc_M_mayRun_0, cc_M_mayRun_1, cc_M_mayRun_2, cc_M_mayRun_3, k_m2, cc_M_lay_0, cc_M_lay_1, cc_M_lay_2, cc_M_lay_3, k_1, eq_self, e618, hx, t23p ht, e620, hm, cc_M_lay_0 hj5 hk, not_true_eq_false, not_false_eq_true, if_true, if_false, true_or, or_true, false_or, or_false, true_and, and_true, false_and, and_false, and_self, or_self, reduceIte, Bool.false_eq_true, i10, i01]
        · have hp : ∀ b c, ¬ ((b = 12 + 3 * j ∧ c = k) ∨ (b = 13 + 3 * j ∧ c = k) ∨ b = 26 ∨ b = 45 ∨ b = 48 ∨ ((b = 67 ∨ b = 68) ∧ c = 24 * j + k)) → am_up (am_up p1 67 (24 * j + k) (y + 1)) 68 (24 * j + k) (if 0 ≤ y then a else 0) b c = q b c := fun b c h => by rw [am_upa, if_neg (by omega), am_upa, if_neg (by omega), hp1 b c (by omega)]
          have v67 : am_up (am_up p1 67 (24 * j + k) (y + 1)) 68 (24 * j + k) (if 0 ≤ y then a else 0) 67 (24 * j + k) = y + 1 := by rw [am_upa, if_neg (by omega), am_up_self]
          have v68 : am_up (am_up p1 67 (24 * j + k) (y + 1)) 68 (24 * j + k) (if 0 ≤ y then a else 0) 68 (24 * j + k) = if 0 ≤ y then a else 0 := am_up_self
          have vP2 : am_up (am_up p1 67 (24 * j + k) (y + 1)) 68 (24 * j + k) (if 0 ≤ y then a else 0) (12 + 3 * j) k = y := by rw [am_upa, if_neg (by omega), am_upa, if_neg (by omega)]; exact vP
          have vA2 : am_up (am_up p1 67 (24 * j + k) (y + 1)) 68 (24 * j + k) (if 0 ≤ y then a else 0) (13 + 3 * j) k = a := by rw [am_upa, if_neg (by omega), am_upa, if_neg (by omega)]; exact vA
          have hf : am_up (am_up p1 67 (24 * j + k) (y + 1)) 68 (24 * j + k) (if 0 ≤ y then a else 0) 26 8 = 0 ∧ am_up (am_up p1 67 (24 * j + k) (y + 1)) 68 (24 * j + k) (if 0 ≤ y then a else 0) 45 2 = 0 ∧ am_up (am_up p1 67 (24 * j + k) (y + 1)) 68 (24 * j + k) (if 0 ≤ y then a else 0) 48 2 = 0 := by
            rw [am_upa, if_neg (by omega), am_upa, if_neg (by omega), am_upa, if_neg (by omega), am_upa, if_neg (by omega), am_upa, if_neg (by omega), am_upa, if_neg (by omega)]
            exact hf1
          generalize am_up (am_up p1 67 (24 * j + k) (y + 1)) 68 (24 * j + k) (if 0 ≤ y then a else 0) = p at *
          have tS : tP p j k = y ∧ tA p j k = a := ⟨vP2, vA2⟩
          have tN : ∀ i t, i < 5 → ¬ (i = j ∧ t = k) → tP p i t = tP q i t ∧ tA p i t = tA q i t := fun i t h1 h2 => ⟨hp _ _ (by omega), hp _ _ (by omega)⟩
          have eP : ∀ k, k < 5 → sP p k = sP q k := fun k hk => hp _ _ (by omega)
          have e2 : ∀ c, p 2 c = q 2 c := fun c => hp _ _ (by omega)
          have e5 : ∀ k, p 5 k = q 5 k := fun k => hp _ _ (by omega)
          have eO : ∀ k, oF p 5 k = oF q 5 k := fun k => by unfold oF; rw [e5]
          refine INV_new hi ⟨⟨⟨?_, ?_⟩, ⟨?_, ?_, ?_⟩, ?_, ⟨?_, ?_⟩, ?_⟩, ?_, ?_, ?_, ?_, ?_⟩ ⟨?_, ?_, ?_, ?_, ?_, ?_, ?_⟩ ?_ hf
          · rw [hp 1 4 (by omega)]; exact a1
          · rw [hp 1 5 (by omega)]; exact a1b
          · exact a2.1
          · intro k hk; rw [eP k (by omega)]; exact a2.2.1 k hk
          · intro k t h1 h2; rw [eP k (by omega), eP t (by omega)]; exact a2.2.2 k t h1 h2
          · unfold LiR; rw [e2, e2, e2, e2, e2]; exact a3
          · exact a4.1
          · intro i hi2 u hu
            by_cases e : i = j ∧ u = k
            · rw [e.1, e.2, tS.1, tS.2]; exact o1
            · rw [(tN i u (by omega) e).1, (tN i u (by omega) e).2]; exact a4.2 i hi2 u hu
          · intro k hk; rw [e5, eO]; exact a5 k hk
          · intro k hk; rw [hp (6 + k) 2 (by omega), hp (6 + k) 3 (by omega)]; exact a6 k hk
          · intro k h1 h2; rw [hp (6 + k) 2 (by omega), hp (6 + k) 3 (by omega)]; exact a7 k h1 h2
          · intro k hk; rw [hp (6 + k) 0 (by omega), eP k (by omega), e2]; exact a8 k hk
          · intro i hi2 u hu
            rw [e2]
            by_cases e : i = j ∧ u = k
            · rw [e.1, e.2, tS.1]; exact o2
            · rw [(tN i u (by omega) e).1]; exact a9 i hi2 u hu
          · intro i h1 h2; refine ⟨fun u hu => ?_, ?_⟩; rw [(tN i u (by omega) (by omega)).1]; exact (a10 i h1 h2).1 u hu; rw [e5]; exact (a10 i h1 h2).2
          · rw [hp 61 3 (by omega)]; exact r1
          · intro c hc; rw [hp 62 c (by omega), e2]; exact r2 c hc
          · intro k hk; rw [hp 63 k (by omega), hp 64 k (by omega), hp 65 k (by omega), hp 66 k (by omega), hp (6 + k) 0 (by omega), hp (6 + k) 1 (by omega), hp (6 + k) 2 (by omega), hp (6 + k) 3 (by omega)]; exact r3 k hk
          · rw [hp 61 8 (by omega)]; exact w1
          · intro k hk; rw [hp 69 k (by omega), eO]; exact w2 k hk
          · intro i hi2 u hu
            by_cases e : i = j ∧ u = k
            · rw [e.1, e.2, tS.1, tS.2, v67, v68]
              exact ⟨rfl, fun z => if_pos (o3 z)⟩
            · rw [(tN i u (by omega) e).1, (tN i u (by omega) e).2, hp 67 _ (by omega), hp 68 _ (by omega)]; exact w3 i hi2 u hu
          · intro i hi2
            by_cases e : i = 24 * j + k
            · rw [e, v67, i32_p1m1]; exact o4
            · rw [hp 67 i (by omega)]; exact w4 i hi2
          · intro a c z; exact hp a c (by omega)
      · refine ⟨-2, q, s, q, s, n, nt, ?_, ?_, hi⟩
        · simp only [b_21_e, b_21_18, b_21_20, b_21_36, e_aloadr_0, g_512_0, e_iload_1, cc_Line_hasTrain_0, cc_Line_hasTrain_1, cc_Line_hasTrain_2, cc_Line_hasTrain_3, Option.toList_some, Option.toList_none, List.cons_append, List.nil_append, e_if_eq, e_iload_2, cc_X_isTick_0, cc_X_isTick_1, cc_X_isTick_2, cc_X_isTick_3, e_if_ne, e_jsr, k_m1, e_iret, e_iload_3, e_iload_4, cc_Line_mayRun_0, cc_Line_mayRun_1, cc_Line_mayRun_2, cc_Line_mayRun_3, k_m2, g_130_1, il_3, il_4, il_29, il_51, cc_Train_beAt_0, cc_Train_beAt_1, cc_Train_beAt_2, cc_Train_beAt_3, lay_tr, g_513_0, cc_Day_forget_0, cc_Day_forget_1, cc_Day_forget_2, cc_Day_forget_3, k_1, eq_self, l3, hx, ht, hm, not_true_eq_false, not_false_eq_true, if_true, if_false, true_or, or_true, false_or, or_false, true_and, and_true, false_and, and_false, and_self, or_self, reduceIte, Bool.false_eq_true, i10, i01]
        · simp only [b_127_e, b_127_15, b_127_17, b_127_30, e_aloadr_0, e_iload_1, cc_M_isTrain_0, cc_M_isTrain_1, cc_M_isTrain_2, cc_M_isTrain_3, Option.toList_some, Option.toList_none, List.cons_append, List.nil_append, e_if_eq, e_iload_2, cc_M_isTick_0, cc_M_isTick_1, cc_M_isTick_2, cc_M_isTick_3, e_if_ne, e_jsr, k_m1, e_iret, e_iload_3, e_iload_4, cc_M_mayRun_0, cc_M_mayRun_1, cc_M_mayRun_2, cc_M_mayRun_3, k_m2, cc_M_lay_0, cc_M_lay_1, cc_M_lay_2, cc_M_lay_3, k_1, eq_self, l6, hx, t23p ht, e0, hm, not_true_eq_false, not_false_eq_true, if_true, if_false, true_or, or_true, false_or, or_false, true_and, and_true, false_and, and_false, and_self, or_self, reduceIte, Bool.false_eq_true, i10, i01]
    · refine ⟨-1, q, s, q, s, n, nt, ?_, ?_, hi⟩
      · simp only [b_21_e, b_21_18, b_21_20, b_21_36, e_aloadr_0, g_512_0, e_iload_1, cc_Line_hasTrain_0, cc_Line_hasTrain_1, cc_Line_hasTrain_2, cc_Line_hasTrain_3, Option.toList_some, Option.toList_none, List.cons_append, List.nil_append, e_if_eq, e_iload_2, cc_X_isTick_0, cc_X_isTick_1, cc_X_isTick_2, cc_X_isTick_3, e_if_ne, e_jsr, k_m1, e_iret, e_iload_3, e_iload_4, cc_Line_mayRun_0, cc_Line_mayRun_1, cc_Line_mayRun_2, cc_Line_mayRun_3, k_m2, g_130_1, il_3, il_4, il_29, il_51, cc_Train_beAt_0, cc_Train_beAt_1, cc_Train_beAt_2, cc_Train_beAt_3, lay_tr, g_513_0, cc_Day_forget_0, cc_Day_forget_1, cc_Day_forget_2, cc_Day_forget_3, k_1, eq_self, l3, hx, ht, not_true_eq_false, not_false_eq_true, if_true, if_false, true_or, or_true, false_or, or_false, true_and, and_true, false_and, and_false, and_self, or_self, reduceIte, Bool.false_eq_true, i10, i01]
      · simp only [b_127_e, b_127_15, b_127_17, b_127_30, e_aloadr_0, e_iload_1, cc_M_isTrain_0, cc_M_isTrain_1, cc_M_isTrain_2, cc_M_isTrain_3, Option.toList_some, Option.toList_none, List.cons_append, List.nil_append, e_if_eq, e_iload_2, cc_M_isTick_0, cc_M_isTick_1, cc_M_isTick_2, cc_M_isTick_3, e_if_ne, e_jsr, k_m1, e_iret, e_iload_3, e_iload_4, cc_M_mayRun_0, cc_M_mayRun_1, cc_M_mayRun_2, cc_M_mayRun_3, k_m2, cc_M_lay_0, cc_M_lay_1, cc_M_lay_2, cc_M_lay_3, k_1, eq_self, l6, hx, t23n ht, not_true_eq_false, not_false_eq_true, if_true, if_false, true_or, or_true, false_or, or_false, true_and, and_true, false_and, and_false, and_self, or_self, reduceIte, Bool.false_eq_true, i10, i01]
  · refine ⟨-1, q, s, q, s, n, nt, ?_, ?_, hi⟩
    · simp only [b_21_e, b_21_18, b_21_20, b_21_36, e_aloadr_0, g_512_0, e_iload_1, cc_Line_hasTrain_0, cc_Line_hasTrain_1, cc_Line_hasTrain_2, cc_Line_hasTrain_3, Option.toList_some, Option.toList_none, List.cons_append, List.nil_append, e_if_eq, e_iload_2, cc_X_isTick_0, cc_X_isTick_1, cc_X_isTick_2, cc_X_isTick_3, e_if_ne, e_jsr, k_m1, e_iret, e_iload_3, e_iload_4, cc_Line_mayRun_0, cc_Line_mayRun_1, cc_Line_mayRun_2, cc_Line_mayRun_3, k_m2, g_130_1, il_3, il_4, il_29, il_51, cc_Train_beAt_0, cc_Train_beAt_1, cc_Train_beAt_2, cc_Train_beAt_3, lay_tr, g_513_0, cc_Day_forget_0, cc_Day_forget_1, cc_Day_forget_2, cc_Day_forget_3, k_1, eq_self, l3, hx, not_true_eq_false, not_false_eq_true, if_true, if_false, true_or, or_true, false_or, or_false, true_and, and_true, false_and, and_false, and_self, or_self, reduceIte, Bool.false_eq_true, i10, i01]
    · simp only [b_127_e, b_127_15, b_127_17, b_127_30, e_aloadr_0, e_iload_1, cc_M_isTrain_0, cc_M_isTrain_1, cc_M_isTrain_2, cc_M_isTrain_3, Option.toList_some, Option.toList_none, List.cons_append, List.nil_append, e_if_eq, e_iload_2, cc_M_isTick_0, cc_M_isTick_1, cc_M_isTick_2, cc_M_isTick_3, e_if_ne, e_jsr, k_m1, e_iret, e_iload_3, e_iload_4, cc_M_mayRun_0, cc_M_mayRun_1, cc_M_mayRun_2, cc_M_mayRun_3, k_m2, cc_M_lay_0, cc_M_lay_1, cc_M_lay_2, cc_M_lay_3, k_1, eq_self, l6, hx, not_true_eq_false, not_false_eq_true, if_true, if_false, true_or, or_true, false_or, or_false, true_and, and_true, false_and, and_false, and_self, or_self, reduceIte, Bool.false_eq_true, i10, i01]
theorem o_station (hi : INV q s n nt) (x y : Int32) : OPi E 13 119 [.ref 0, .int x, .int y, am_dm] [.ref 61, .int x, .int y] q s := by
  obtain ⟨⟨l1, l2⟩, ⟨l3, l4⟩, ⟨l5, l6⟩, l7⟩ := lay_b hi
  have e0 := l7 0 (by decide)
  have hta0 : anyB (fun k => decide (q 64 k = y)) n = anyB (fun k => decide (sP q k = y)) n := by
    have e : ∀ k, k < n → q 64 k = sP q k := fun k hk => (hi.2.1.2.2.1 k hk).2.1
    rw [Bool.eq_iff_iff, anyB_iff, anyB_iff]
    constructor
    · rintro ⟨k, h1, h2⟩; exact ⟨k, h1, by rw [← e k h1]; exact h2⟩
    · rintro ⟨k, h1, h2⟩; exact ⟨k, h1, by rw [e k h1]; exact h2⟩
  by_cases hx : 0 ≤ x ∧ x ≤ 2
  · have hx1 : (x < 0) = False := eq_false (Int32.not_lt.mpr hx.1)
    have hx2 : (2 < x) = False := eq_false (Int32.not_lt.mpr hx.2)
    by_cases hy : 0 ≤ y ∧ y ≤ q 2 0
    · by_cases hta : anyB (fun k => decide (sP q k = y)) n = true
      · refine ⟨-3, q, s, q, s, n, nt, ?_, ?_, hi⟩
        · simp only [b_13_e, b_13_20, b_13_23, b_13_37, b_13_51, e_iload_1, e_if_lt, k_2, e_icmp_gt, e_aloadr_0, g_512_0, e_iload_2, cc_Line_hasPlace_0, cc_Line_hasPlace_1, cc_Line_hasPlace_2, cc_Line_hasPlace_3, Option.toList_some, Option.toList_none, List.cons_append, List.nil_append, e_if_ne, e_jsr, k_m2, e_iret, cc_Line_hasStationAt_0, cc_Line_hasStationAt_1, cc_Line_hasStationAt_2, cc_Line_hasStationAt_3, e_if_eq, k_m3, g_132_1, k_5, e_icmp_lt, k_m4, e_istore_3, e_kpi, e_kpr, e_kpl, e_kpd, g_129_1, e_iload_3, il_3, il_4, il_29, il_51, p_384_6, p_384_7, p_384_8, p_384_9, p_384_10, ps_f384, p_385_6, p_385_7, p_385_8, p_385_9, p_385_10, ps_f385, k_1, e_iadd, p_132_1, g_513_0, cc_Day_forget_0, cc_Day_forget_1, cc_Day_forget_2, cc_Day_forget_3, eq_self, hx1, hx2, hy, cc_Line_hasStationAt_0 l1 l2, hta, not_true_eq_false, not_false_eq_true, if_true, if_false, true_or, or_true, false_or, or_false, true_and, and_true, false_and, and_false, and_self, or_self, reduceIte, Bool.false_eq_true, i10, i01]
        · simp only [b_119_e, b_119_17, b_119_20, b_119_31, b_119_42, e_iload_1, k_0, k_2, cc_M_within_0, cc_M_within_1, cc_M_within_2, cc_M_within_3, Option.toList_some, Option.toList_none, List.cons_append, List.nil_append, e_if_eq, e_aloadr_0, e_iload_2, cc_M_isPlace_0, cc_M_isPlace_1, cc_M_isPlace_2, cc_M_isPlace_3, e_if_ne, e_jsr, k_m2, e_iret, cc_M_isTaken_0, cc_M_isTaken_1, cc_M_isTaken_2, cc_M_isTaken_3, k_m3, g_579_61, k_5, e_icmp_ne, k_m4, g_580_61, is_62, is_63, is_64, is_66, is_67, is_68, is_69, is_70, is_71, is_72, is_73, is_74, is_75, is_76, is_77, iks_73_0, iks_74_0, g_581_61, g_582_61, is_65, g_583_61, k_3000, e_dupr, e_dupi, k_1, e_iadd, p_579_61, e_isub, eq_self, hx, e0, hy, cc_M_isTaken_0 l5 l2, hta0, hta, not_true_eq_false, not_false_eq_true, if_true, if_false, true_or, or_true, false_or, or_false, true_and, and_true, false_and, and_false, and_self, or_self, reduceIte, Bool.false_eq_true, i10, i01]
      · by_cases hn : n < 5
        · have hlt : (nI n < 5) = True := lt5 hn
          have hne5 : (nI n = 5) = False := eq_false (fun z => by have := (nI_eq (b := 5) (by omega) (by decide)).mp z; omega)
          have hn6 : n < 6 := by omega
          obtain ⟨⟨⟨a1, a1b⟩, a2, a3, a4, a5⟩, a6, a7, a8, a9, a10⟩ := iA_raw.mp hi.1
          obtain ⟨r1, r2, r3, w1, w2, w3, w4⟩ := (iR_raw l4).mp hi.2.1
          have hp1 : ∀ b c, ¬ ((b = 6 + n ∧ (c = 0 ∨ c = 1)) ∨ (b = 1 ∧ c = 4) ∨ b = 26 ∨ b = 45 ∨ b = 48) → fgt (am_up (am_up (am_up q (6 + n) 0 x) (6 + n) 1 y) 1 4 (nI (n + 1))) b c = q b c := fun b c h => by rw [fgt_ne (by omega), am_upa, if_neg (by omega), am_upa, if_neg (by omega), am_upa, if_neg (by omega)]
          have vK : fgt (am_up (am_up (am_up q (6 + n) 0 x) (6 + n) 1 y) 1 4 (nI (n + 1))) (6 + n) 0 = x := by rw [fgt_ne (by omega), am_upa, if_neg (by omega), am_upa, if_neg (by omega), am_up_self]
          have vP : fgt (am_up (am_up (am_up q (6 + n) 0 x) (6 + n) 1 y) 1 4 (nI (n + 1))) (6 + n) 1 = y := by rw [fgt_ne (by omega), am_upa, if_neg (by omega), am_up_self]
          have vN : fgt (am_up (am_up (am_up q (6 + n) 0 x) (6 + n) 1 y) 1 4 (nI (n + 1))) 1 4 = nI (n + 1) := by rw [fgt_ne (by omega), am_up_self]
          have hf1 := fgt_at (q := am_up (am_up (am_up q (6 + n) 0 x) (6 + n) 1 y) 1 4 (nI (n + 1)))
          have hcl : ev E 13 (am_B 13 0) [.ref 0, .int x, .int y, am_dm] [] (HH q s) = some (some (.int (nI n)), HH (fgt (am_up (am_up (am_up q (6 + n) 0 x) (6 + n) 1 y) 1 4 (nI (n + 1)))) s) := by
            simp only [b_13_e, b_13_20, b_13_23, b_13_37, b_13_51, e_iload_1, e_if_lt, k_2, e_icmp_gt, e_aloadr_0, g_512_0, e_iload_2, cc_Line_hasPlace_0, cc_Line_hasPlace_1, cc_Line_hasPlace_2, cc_Line_hasPlace_3, Option.toList_some, Option.toList_none, List.cons_append, List.nil_append, e_if_ne, e_jsr, k_m2, e_iret, cc_Line_hasStationAt_0, cc_Line_hasStationAt_1, cc_Line_hasStationAt_2, cc_Line_hasStationAt_3, e_if_eq, k_m3, g_132_1, k_5, e_icmp_lt, k_m4, e_istore_3, e_kpi, e_kpr, e_kpl, e_kpd, g_129_1, e_iload_3, il_3, il_4, il_29, il_51, p_384_6, p_384_7, p_384_8, p_384_9, p_384_10, ps_f384, p_385_6, p_385_7, p_385_8, p_385_9, p_385_10, ps_f385, k_1, e_iadd, p_132_1, g_513_0, cc_Day_forget_0, cc_Day_forget_1, cc_Day_forget_2, cc_Day_forget_3, eq_self, hx1, hx2, hy, cc_Line_hasStationAt_0 l1 l2, hta, l1, hlt, hn, nI_1, not_true_eq_false, not_false_eq_true, if_true, if_false, true_or, or_true, false_or, or_false, true_and, and_true, false_and, and_false, and_self, or_self, reduceIte, Bool.false_eq_true, i10, i01]
          generalize fgt (am_up (am_up (am_up q (6 + n) 0 x) (6 + n) 1 y) 1 4 (nI (n + 1))) = p1 at *
          have e613 : p1 61 3 = nI n := by rw [hp1 61 3 (by omega)]; exact l5
          have e620 : p1 62 0 = q 2 0 := by rw [hp1 62 0 (by omega)]; exact e0
          have hta1 : anyB (fun k => decide (p1 64 k = y)) n = anyB (fun k => decide (sP q k = y)) n := by
            rw [← hta0, Bool.eq_iff_iff, anyB_iff, anyB_iff]
            have e : ∀ k, p1 64 k = q 64 k := fun k => hp1 64 k (by omega)
            simp only [e]
          have m1 : am_up p1 63 n x 61 3 = nI n := by rw [am_upa, if_neg (by omega)]; exact e613
          have m2 : am_up (am_up p1 63 n x) 64 n y 61 3 = nI n := by rw [am_upa, if_neg (by omega)]; exact m1
          have m3 : am_up (am_up (am_up p1 63 n x) 64 n y) 65 n 0 61 3 = nI n := by rw [am_upa, if_neg (by omega)]; exact m2
          have m4 : am_up (am_up (am_up (am_up p1 63 n x) 64 n y) 65 n 0) 66 n 3000 61 3 = nI n := by rw [am_upa, if_neg (by omega)]; exact m3
          have hsub : nI (n + 1) - 1 = nI n := nI_pred n
          refine ⟨nI n, p1, s, am_up (am_up (am_up (am_up (am_up p1 63 n x) 64 n y) 65 n 0) 66 n 3000) 61 3 (nI (n + 1)), s, n + 1, nt, hcl, ?_, ?_⟩
          · simp only [b_119_e, b_119_17, b_119_20, b_119_31, b_119_42, e_iload_1, k_0, k_2, cc_M_within_0, cc_M_within_1, cc_M_within_2, cc_M_within_3, Option.toList_some, Option.toList_none, List.cons_append, List.nil_append, e_if_eq, e_aloadr_0, e_iload_2, cc_M_isPlace_0, cc_M_isPlace_1, cc_M_isPlace_2, cc_M_isPlace_3, e_if_ne, e_jsr, k_m2, e_iret, cc_M_isTaken_0, cc_M_isTaken_1, cc_M_isTaken_2, cc_M_isTaken_3, k_m3, g_579_61, k_5, e_icmp_ne, k_m4, g_580_61, is_62, is_63, is_64, is_66, is_67, is_68, is_69, is_70, is_71, is_72, is_73, is_74, is_75, is_76, is_77, iks_73_0, iks_74_0, g_581_61, g_582_61, is_65, g_583_61, k_3000, e_dupr, e_dupi, k_1, e_iadd, p_579_61, e_isub, eq_self, hx, e620, hy, cc_M_isTaken_0 e613 l2, hta1, hta, e613, hne5, hn, hn6, m1, m2, m3, m4, true_or, nI_1, am_up_self, hsub, not_true_eq_false, not_false_eq_true, if_true, if_false, true_or, or_true, false_or, or_false, true_and, and_true, false_and, and_false, and_self, or_self, reduceIte, Bool.false_eq_true, i10, i01]
          · have hp : ∀ b c, ¬ ((b = 6 + n ∧ (c = 0 ∨ c = 1)) ∨ (b = 1 ∧ c = 4) ∨ b = 26 ∨ b = 45 ∨ b = 48 ∨ ((b = 63 ∨ b = 64 ∨ b = 65 ∨ b = 66) ∧ c = n) ∨ (b = 61 ∧ c = 3)) → am_up (am_up (am_up (am_up (am_up p1 63 n x) 64 n y) 65 n 0) 66 n 3000) 61 3 (nI (n + 1)) b c = q b c := fun b c h => by rw [am_upa, if_neg (by omega), am_upa, if_neg (by omega), am_upa, if_neg (by omega), am_upa, if_neg (by omega), am_upa, if_neg (by omega), hp1 b c (by omega)]
            have hp2 : ∀ b c, b ≤ 60 → am_up (am_up (am_up (am_up (am_up p1 63 n x) 64 n y) 65 n 0) 66 n 3000) 61 3 (nI (n + 1)) b c = p1 b c := fun b c h => by rw [am_upa, if_neg (by omega), am_upa, if_neg (by omega), am_upa, if_neg (by omega), am_upa, if_neg (by omega), am_upa, if_neg (by omega)]
            have u63 : am_up (am_up (am_up (am_up (am_up p1 63 n x) 64 n y) 65 n 0) 66 n 3000) 61 3 (nI (n + 1)) 63 n = x := by rw [am_upa, if_neg (by omega), am_upa, if_neg (by omega), am_upa, if_neg (by omega), am_upa, if_neg (by omega), am_up_self]
            have u64 : am_up (am_up (am_up (am_up (am_up p1 63 n x) 64 n y) 65 n 0) 66 n 3000) 61 3 (nI (n + 1)) 64 n = y := by rw [am_upa, if_neg (by omega), am_upa, if_neg (by omega), am_upa, if_neg (by omega), am_up_self]
            have u65 : am_up (am_up (am_up (am_up (am_up p1 63 n x) 64 n y) 65 n 0) 66 n 3000) 61 3 (nI (n + 1)) 65 n = 0 := by rw [am_upa, if_neg (by omega), am_upa, if_neg (by omega), am_up_self]
            have u66 : am_up (am_up (am_up (am_up (am_up p1 63 n x) 64 n y) 65 n 0) 66 n 3000) 61 3 (nI (n + 1)) 66 n = 3000 := by rw [am_upa, if_neg (by omega), am_up_self]
            have u3 : am_up (am_up (am_up (am_up (am_up p1 63 n x) 64 n y) 65 n 0) 66 n 3000) 61 3 (nI (n + 1)) 61 3 = nI (n + 1) := am_up_self
            generalize am_up (am_up (am_up (am_up (am_up p1 63 n x) 64 n y) 65 n 0) 66 n 3000) 61 3 (nI (n + 1)) = p at *
            have hf : p 26 8 = 0 ∧ p 45 2 = 0 ∧ p 48 2 = 0 := by rw [hp2 26 8 (by omega), hp2 45 2 (by omega), hp2 48 2 (by omega)]; exact hf1
            have sN : ∀ k, k < n → sP p k = sP q k := fun k hk => hp _ _ (by omega)
            have sE : sP p n = y := by show p (6 + n) 1 = y; rw [hp2 (6 + n) 1 (by omega)]; exact vP
            have kE : p (6 + n) 0 = x := by rw [hp2 (6 + n) 0 (by omega)]; exact vK
            have i7 := a7 n (Nat.le_refl _) hn
            have hxb : 0 ≤ x.toInt ∧ x.toInt ≤ 2 := by
              have h5 : (2 : Int32).toInt = 2 := rfl
              have h0 : (0 : Int32).toInt = 0 := rfl
              have h := hx
              rw [Int32.le_iff_toInt_le, Int32.le_iff_toInt_le, h5, h0] at h
              exact h
            have hyb : y.toInt ≤ (q 2 0).toInt := by have := hy.2; rwa [Int32.le_iff_toInt_le] at this
            have e2 : ∀ c, p 2 c = q 2 c := fun c => hp _ _ (by omega)
            have eT : ∀ k t, k < 5 → tP p k t = tP q k t ∧ tA p k t = tA q k t := fun k t hk => ⟨hp _ _ (by omega), hp _ _ (by omega)⟩
            have e5 : ∀ k, p 5 k = q 5 k := fun k => hp _ _ (by omega)
            have eO : ∀ k, oF p 5 k = oF q 5 k := fun k => by unfold oF; rw [e5]
            refine INV_new hi ⟨⟨⟨?_, ?_⟩, ⟨?_, ?_, ?_⟩, ?_, ⟨?_, ?_⟩, ?_⟩, ?_, ?_, ?_, ?_, ?_⟩ ⟨?_, ?_, ?_, ?_, ?_, ?_, ?_⟩ ?_ hf
            · rw [hp2 1 4 (by omega)]; exact vN
            · rw [hp 1 5 (by omega)]; exact a1b
            · omega
            · intro k hk
              by_cases e : k = n
              · rw [e, sE]; exact pl_bd hi hy
              · rw [sN k (by omega)]; exact a2.2.1 k (by omega)
            · intro k t h1 h2
              by_cases e : t = n
              · rw [e, sE, sN k (by omega)]
                exact fun z => hta (anyB_iff.mpr ⟨k, by omega, by simpa using z⟩)
              · rw [sN k (by omega), sN t (by omega)]; exact a2.2.2 k t h1 (by omega)
            · unfold LiR; rw [e2, e2, e2, e2, e2]; exact a3
            · exact a4.1
            · intro k hk t ht; rw [(eT k t (by omega)).1, (eT k t (by omega)).2]; exact a4.2 k hk t ht
            · intro k hk; rw [e5, eO]; exact a5 k hk
            · intro k hk; rw [hp (6 + k) 2 (by omega), hp (6 + k) 3 (by omega)]; exact a6 k hk
            · intro k h1 h2; rw [hp (6 + k) 2 (by omega), hp (6 + k) 3 (by omega)]; exact a7 k (by omega) h2
            · intro k hk
              rw [e2]
              by_cases e : k = n
              · rw [e, sE, kE]; exact ⟨hxb, hyb⟩
              · rw [hp (6 + k) 0 (by omega), sN k (by omega)]; exact a8 k (by omega)
            · intro k hk t ht; rw [(eT k t (by omega)).1, e2]; exact a9 k hk t ht
            · intro k h1 h2; refine ⟨fun t ht => ?_, ?_⟩; rw [(eT k t (by omega)).1]; exact (a10 k h1 h2).1 t ht; rw [e5]; exact (a10 k h1 h2).2
            · exact u3
            · intro c hc; rw [hp 62 c (by omega), e2]; exact r2 c hc
            · intro k hk
              by_cases e : k = n
              · rw [e, u63, u64, u65, u66, kE, hp (6 + n) 2 (by omega), hp (6 + n) 3 (by omega), i7.1, i7.2]
                exact ⟨rfl, sE.symm, by decide, rfl⟩
              · rw [hp 63 k (by omega), hp 64 k (by omega), hp 65 k (by omega), hp 66 k (by omega), hp (6 + k) 0 (by omega), hp (6 + k) 1 (by omega), hp (6 + k) 2 (by omega), hp (6 + k) 3 (by omega)]; exact r3 k (by omega)
            · rw [hp 61 8 (by omega)]; exact w1
            · intro k hk; rw [hp 69 k (by omega), eO]; exact w2 k hk
            · intro k hk t ht; rw [hp 67 _ (by omega), hp 68 _ (by omega), (eT k t (by omega)).1, (eT k t (by omega)).2]; exact w3 k hk t ht
            · intro k hk; rw [hp 67 k (by omega)]; exact w4 k hk
            · intro a c z; exact hp a c (by omega)
        · have h5 : n = 5 := by omega
          have hlt : (nI n < 5) = False := by rw [h5]; exact eq_false (by decide +kernel)
          have hne5 : (nI n = 5) = True := by rw [h5]; exact eq_true (by decide +kernel)
          refine ⟨-4, q, s, q, s, n, nt, ?_, ?_, hi⟩
          · simp only [b_13_e, b_13_20, b_13_23, b_13_37, b_13_51, e_iload_1, e_if_lt, k_2, e_icmp_gt, e_aloadr_0, g_512_0, e_iload_2, cc_Line_hasPlace_0, cc_Line_hasPlace_1, cc_Line_hasPlace_2, cc_Line_hasPlace_3, Option.toList_some, Option.toList_none, List.cons_append, List.nil_append, e_if_ne, e_jsr, k_m2, e_iret, cc_Line_hasStationAt_0, cc_Line_hasStationAt_1, cc_Line_hasStationAt_2, cc_Line_hasStationAt_3, e_if_eq, k_m3, g_132_1, k_5, e_icmp_lt, k_m4, e_istore_3, e_kpi, e_kpr, e_kpl, e_kpd, g_129_1, e_iload_3, il_3, il_4, il_29, il_51, p_384_6, p_384_7, p_384_8, p_384_9, p_384_10, ps_f384, p_385_6, p_385_7, p_385_8, p_385_9, p_385_10, ps_f385, k_1, e_iadd, p_132_1, g_513_0, cc_Day_forget_0, cc_Day_forget_1, cc_Day_forget_2, cc_Day_forget_3, eq_self, hx1, hx2, hy, cc_Line_hasStationAt_0 l1 l2, hta, l1, hlt, not_true_eq_false, not_false_eq_true, if_true, if_false, true_or, or_true, false_or, or_false, true_and, and_true, false_and, and_false, and_self, or_self, reduceIte, Bool.false_eq_true, i10, i01]
          · simp only [b_119_e, b_119_17, b_119_20, b_119_31, b_119_42, e_iload_1, k_0, k_2, cc_M_within_0, cc_M_within_1, cc_M_within_2, cc_M_within_3, Option.toList_some, Option.toList_none, List.cons_append, List.nil_append, e_if_eq, e_aloadr_0, e_iload_2, cc_M_isPlace_0, cc_M_isPlace_1, cc_M_isPlace_2, cc_M_isPlace_3, e_if_ne, e_jsr, k_m2, e_iret, cc_M_isTaken_0, cc_M_isTaken_1, cc_M_isTaken_2, cc_M_isTaken_3, k_m3, g_579_61, k_5, e_icmp_ne, k_m4, g_580_61, is_62, is_63, is_64, is_66, is_67, is_68, is_69, is_70, is_71, is_72, is_73, is_74, is_75, is_76, is_77, iks_73_0, iks_74_0, g_581_61, g_582_61, is_65, g_583_61, k_3000, e_dupr, e_dupi, k_1, e_iadd, p_579_61, e_isub, eq_self, hx, e0, hy, cc_M_isTaken_0 l5 l2, hta0, hta, l5, hne5, not_true_eq_false, not_false_eq_true, if_true, if_false, true_or, or_true, false_or, or_false, true_and, and_true, false_and, and_false, and_self, or_self, reduceIte, Bool.false_eq_true, i10, i01]
    · refine ⟨-2, q, s, q, s, n, nt, ?_, ?_, hi⟩
      · simp only [b_13_e, b_13_20, b_13_23, b_13_37, b_13_51, e_iload_1, e_if_lt, k_2, e_icmp_gt, e_aloadr_0, g_512_0, e_iload_2, cc_Line_hasPlace_0, cc_Line_hasPlace_1, cc_Line_hasPlace_2, cc_Line_hasPlace_3, Option.toList_some, Option.toList_none, List.cons_append, List.nil_append, e_if_ne, e_jsr, k_m2, e_iret, cc_Line_hasStationAt_0, cc_Line_hasStationAt_1, cc_Line_hasStationAt_2, cc_Line_hasStationAt_3, e_if_eq, k_m3, g_132_1, k_5, e_icmp_lt, k_m4, e_istore_3, e_kpi, e_kpr, e_kpl, e_kpd, g_129_1, e_iload_3, il_3, il_4, il_29, il_51, p_384_6, p_384_7, p_384_8, p_384_9, p_384_10, ps_f384, p_385_6, p_385_7, p_385_8, p_385_9, p_385_10, ps_f385, k_1, e_iadd, p_132_1, g_513_0, cc_Day_forget_0, cc_Day_forget_1, cc_Day_forget_2, cc_Day_forget_3, eq_self, hx1, hx2, hy, not_true_eq_false, not_false_eq_true, if_true, if_false, true_or, or_true, false_or, or_false, true_and, and_true, false_and, and_false, and_self, or_self, reduceIte, Bool.false_eq_true, i10, i01]
      · simp only [b_119_e, b_119_17, b_119_20, b_119_31, b_119_42, e_iload_1, k_0, k_2, cc_M_within_0, cc_M_within_1, cc_M_within_2, cc_M_within_3, Option.toList_some, Option.toList_none, List.cons_append, List.nil_append, e_if_eq, e_aloadr_0, e_iload_2, cc_M_isPlace_0, cc_M_isPlace_1, cc_M_isPlace_2, cc_M_isPlace_3, e_if_ne, e_jsr, k_m2, e_iret, cc_M_isTaken_0, cc_M_isTaken_1, cc_M_isTaken_2, cc_M_isTaken_3, k_m3, g_579_61, k_5, e_icmp_ne, k_m4, g_580_61, is_62, is_63, is_64, is_66, is_67, is_68, is_69, is_70, is_71, is_72, is_73, is_74, is_75, is_76, is_77, iks_73_0, iks_74_0, g_581_61, g_582_61, is_65, g_583_61, k_3000, e_dupr, e_dupi, k_1, e_iadd, p_579_61, e_isub, eq_self, hx, e0, hy, not_true_eq_false, not_false_eq_true, if_true, if_false, true_or, or_true, false_or, or_false, true_and, and_true, false_and, and_false, and_self, or_self, reduceIte, Bool.false_eq_true, i10, i01]
  · refine ⟨-2, q, s, q, s, n, nt, ?_, ?_, hi⟩
    · by_cases h1 : x < 0
      · simp only [b_13_e, b_13_20, b_13_23, b_13_37, b_13_51, e_iload_1, e_if_lt, k_2, e_icmp_gt, e_aloadr_0, g_512_0, e_iload_2, cc_Line_hasPlace_0, cc_Line_hasPlace_1, cc_Line_hasPlace_2, cc_Line_hasPlace_3, Option.toList_some, Option.toList_none, List.cons_append, List.nil_append, e_if_ne, e_jsr, k_m2, e_iret, cc_Line_hasStationAt_0, cc_Line_hasStationAt_1, cc_Line_hasStationAt_2, cc_Line_hasStationAt_3, e_if_eq, k_m3, g_132_1, k_5, e_icmp_lt, k_m4, e_istore_3, e_kpi, e_kpr, e_kpl, e_kpd, g_129_1, e_iload_3, il_3, il_4, il_29, il_51, p_384_6, p_384_7, p_384_8, p_384_9, p_384_10, ps_f384, p_385_6, p_385_7, p_385_8, p_385_9, p_385_10, ps_f385, k_1, e_iadd, p_132_1, g_513_0, cc_Day_forget_0, cc_Day_forget_1, cc_Day_forget_2, cc_Day_forget_3, eq_self, h1, not_true_eq_false, not_false_eq_true, if_true, if_false, true_or, or_true, false_or, or_false, true_and, and_true, false_and, and_false, and_self, or_self, reduceIte, Bool.false_eq_true, i10, i01]
      · have h2 : 2 < x := Int32.not_le.mp (fun z => hx ⟨Int32.not_lt.mp h1, z⟩)
        simp only [b_13_e, b_13_20, b_13_23, b_13_37, b_13_51, e_iload_1, e_if_lt, k_2, e_icmp_gt, e_aloadr_0, g_512_0, e_iload_2, cc_Line_hasPlace_0, cc_Line_hasPlace_1, cc_Line_hasPlace_2, cc_Line_hasPlace_3, Option.toList_some, Option.toList_none, List.cons_append, List.nil_append, e_if_ne, e_jsr, k_m2, e_iret, cc_Line_hasStationAt_0, cc_Line_hasStationAt_1, cc_Line_hasStationAt_2, cc_Line_hasStationAt_3, e_if_eq, k_m3, g_132_1, k_5, e_icmp_lt, k_m4, e_istore_3, e_kpi, e_kpr, e_kpl, e_kpd, g_129_1, e_iload_3, il_3, il_4, il_29, il_51, p_384_6, p_384_7, p_384_8, p_384_9, p_384_10, ps_f384, p_385_6, p_385_7, p_385_8, p_385_9, p_385_10, ps_f385, k_1, e_iadd, p_132_1, g_513_0, cc_Day_forget_0, cc_Day_forget_1, cc_Day_forget_2, cc_Day_forget_3, eq_self, h1, h2, not_true_eq_false, not_false_eq_true, if_true, if_false, true_or, or_true, false_or, or_false, true_and, and_true, false_and, and_false, and_self, or_self, reduceIte, Bool.false_eq_true, i10, i01]
    · simp only [b_119_e, b_119_17, b_119_20, b_119_31, b_119_42, e_iload_1, k_0, k_2, cc_M_within_0, cc_M_within_1, cc_M_within_2, cc_M_within_3, Option.toList_some, Option.toList_none, List.cons_append, List.nil_append, e_if_eq, e_aloadr_0, e_iload_2, cc_M_isPlace_0, cc_M_isPlace_1, cc_M_isPlace_2, cc_M_isPlace_3, e_if_ne, e_jsr, k_m2, e_iret, cc_M_isTaken_0, cc_M_isTaken_1, cc_M_isTaken_2, cc_M_isTaken_3, k_m3, g_579_61, k_5, e_icmp_ne, k_m4, g_580_61, is_62, is_63, is_64, is_66, is_67, is_68, is_69, is_70, is_71, is_72, is_73, is_74, is_75, is_76, is_77, iks_73_0, iks_74_0, g_581_61, g_582_61, is_65, g_583_61, k_3000, e_dupr, e_dupi, k_1, e_iadd, p_579_61, e_isub, eq_self, hx, not_true_eq_false, not_false_eq_true, if_true, if_false, true_or, or_true, false_or, or_false, true_and, and_true, false_and, and_false, and_self, or_self, reduceIte, Bool.false_eq_true, i10, i01]
end Cj
