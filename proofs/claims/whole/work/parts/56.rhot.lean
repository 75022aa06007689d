/-! THE REFERENCE'S isTooHigh, nextBack -/
theorem rdiv_nn {a b : Rat} (ha : 0 ≤ a) (hb : 0 < b) : 0 ≤ a / b := by
  have h : a = a / b * b := by grind
  rcases (show 0 ≤ a / b ∨ a / b < 0 by grind) with z | z
  · exact z
  · have := Rat.mul_lt_mul_of_pos_right z hb; grind
theorem gq_pos {a b : Option Rat} {x y : Rat} (ha : ∀ p, a = some p → p ≤ x) (hb : ∀ p, b = some p → x ≤ p) : 0 ≤ gq a b x y := by
  unfold gq
  cases a with
  | none =>
    cases b with
    | none => exact Rat.le_refl
    | some b =>
      have := hb b rfl
      dsimp only
      by_cases h1 : y < b <;> by_cases h2 : x ≤ y <;> grind
  | some a =>
    have ha := ha a rfl
    cases b with
    | none =>
      dsimp only
      by_cases h1 : a < y <;> by_cases h2 : x ≤ y <;> grind
    | some b =>
      have hb := hb b rfl
      dsimp only
      by_cases h1 : a < y ∧ y < b
      · rw [if_pos h1]
        have hp : 0 < b - a := by grind
        by_cases h2 : x ≤ y
        · rw [if_pos h2]
          have := Rat.mul_nonneg (show 0 ≤ x - a by grind) (show 0 ≤ b - y by grind)
          exact rdiv_nn this hp
        · rw [if_neg h2]
          have := Rat.mul_nonneg (show 0 ≤ y - a by grind) (show 0 ≤ b - x by grind)
          exact rdiv_nn this hp
      · rw [if_neg h1]; exact Rat.le_refl
theorem sumR_nn {f : Nat → Rat} : ∀ {n : Nat}, (∀ i, i < n → 0 ≤ f i) → 0 ≤ sumR f n := by
  intro n
  induction n with
  | zero => intro _; exact Rat.le_refl
  | succ n ih => intro h; have a := ih (fun i hi => h i (by omega)); have b := h n (by omega); rw [sumR]; grind
/-- nobody gives back: no volts above V -/
theorem q_v_le {c : qC} {l : qL} {F : Nat → Bool} {x : Rat} (hR : 0 ≤ c.1.2.1) (ha : ∀ n, n < 5 → 0 ≤ q_am l n) : q_v c F l x ≤ c.1.1 := by
  have h : 0 ≤ sumR (fun n => q_a l n * gq ((q_l (q_P c) (q_m c) F x).map (q_P c)) ((q_r (q_P c) (q_m c) F x).map (q_P c)) x (q_y l n)) 5 := sumR_nn (fun n hn => by
    refine Rat.mul_nonneg (qI_le.mpr (ha n hn)) (gq_pos (fun p hp => ?_) (fun p hp => ?_))
    · cases h : q_l (q_P c) (q_m c) F x with
      | none => rw [h] at hp; cases hp
      | some j =>
        rw [h] at hp
        obtain ⟨_, g, _⟩ := prvi_some h
        simp only [Bool.and_eq_true, decide_eq_true_eq] at g
        cases hp
        exact g.2
    · cases h : q_r (q_P c) (q_m c) F x with
      | none => rw [h] at hp; cases hp
      | some j =>
        rw [h] at hp
        obtain ⟨_, _, g, _⟩ := fsti_some h
        simp only [Bool.and_eq_true, decide_eq_true_eq] at g
        cases hp
        exact g.2)
  unfold q_v
  have := Rat.mul_nonneg (rdiv_nn hR (show (0 : Rat) < 1000 by decide)) h
  grind
theorem hot_back {q : Nat → Nat → Int32} {c : qC} {l : qL} {K : Nat} (hR : rR q c) (hL : rL q K l) (h : q_hot c l = true) : ∃ i, q_hi (q_th l) (q_am l) (q_vn c l) 5 = some i := by
  cases hh : q_hi (q_th l) (q_am l) (q_vn c l) 5 with
  | some i => exact ⟨i, rfl⟩
  | none =>
    exfalso
    have ha : ∀ n, n < 5 → 0 ≤ q_am l n := fun n hn => by
      have := q_hi_none hh n hn
      cases ht : q_th l n with
      | true => rcases (show 0 ≤ q_am l n ∨ q_am l n < 0 by omega) with z | z
                · exact z
                · exact absurd ⟨ht, z⟩ this
      | false => rw [(hL.2.2 n hn).2.2 ht]; exact Int.le_refl _
    obtain ⟨n, hn, h2⟩ := anyB_iff.mp h
    simp only [Bool.and_eq_true, decide_eq_true_eq] at h2
    have hRp : 0 ≤ c.1.2.1 := by rw [← hR.1.2.1]; have h := qI_lt.mpr hR.2.2.2.2.2; rw [qI_0] at h; grind
    have h3 : q_vn c l n ≤ c.1.1 := q_v_le hRp ha
    have h4 : c.1.1 ≤ c.1.2.2 := by rw [← hR.1.1, ← hR.1.2.2]; exact qI_le.mpr hR.2.2.2.2.1
    have := h2.2
    grind
section Ht
variable {E : aE} {q : Nat → Nat → Int32} {ml : Nat → Nat → Int64} {n I K : Nat} {c : qC} {l : qL}
/-- the share of volts at a load -/
theorem r_vk (hS : rS q n I c) (hR : rR q c) (hL : rL q K l) {i : Nat} (hi : i < 5) (ht : q_th l i = true) : fr2 (Int64.ofInt (vlu q K n (nI (q_bits c l)) (q 73 (cntB (q_th l) i)))) (Int64.ofInt (vld q n (nI (q_bits c l)) (q 73 (cntB (q_th l) i)))) (q_vn c l i) 1000000000000 := by
  obtain ⟨y1, y2, y3⟩ := (hL.2.2 i hi).1 ht
  obtain ⟨v1, v2, v3⟩ := r_volt (x := q 73 (cntB (q_th l) i)) hS hR hL (r_bits (l := l) hS)
  refine ⟨_, _, rfl, rfl, v2, v3, r_vbd hS hR hL (r_bits (l := l) hS) y1, ?_⟩
  rw [v1]
  unfold q_vn
  rw [← y2]
  rfl
theorem r_ex (hS : rS q n I c) (hm : 0 < q_m c) (h0 : 0 ≤ sumI (q_am l) 5) : ∃ s, s < n ∧ bt (nI (q_bits c l)) s = true := by
  have hsR : 0 ≤ sumR (q_a l) 5 := by rw [sumR_qa]; exact qI_le.mpr h0
  obtain ⟨⟨j, hj, hF⟩, _⟩ := q_F_ok (l := l) hm hS.2.2.2.2.2.2.2.2 hsR
  exact ⟨q_nu c j, (hS.2.2.2.2.2.2.1 j hj).1, by rw [← (r_bits (l := l) hS).2 j hj]; exact hF⟩
theorem fr2_top {u d : Int64} {r : Rat} {B : Nat} {T : Int32} {t : Rat} (h : fr2 u d r B) (hB : B ≤ 1000000000000) (hT : T.toInt.natAbs ≤ 1000000) (e : qI T.toInt = t) : (u ≤ T.toInt64 * d) = ¬ (t < r) := by
  obtain ⟨a, b, rfl, rfl, b1, b2, b3, b4⟩ := h
  have m1 := mul_bd (A := 1000000) (B := 200000) (a := T.toInt) (b := b) hT (by omega)
  rw [i64_of, ← Int64.ofInt_mul, propext (i64_le (a := a) (b := T.toInt * b) (by omega) (by omega))]
  have := z_lt (a := T.toInt) (b := 1) (r := t) (a' := a) (b' := b) Int.one_pos b1 (by rw [e, qI_1]; grind) b4
  rw [← this]
  apply propext
  omega
theorem x_hot (hS : rS q n I c) (hR : rR q c) (hL : rL q K l) (hm : 0 < q_m c) (h0 : 0 ≤ sumI (q_am l) 5) (hf : q 61 18 = nI (q_bits c l)) : ∃ ml', ev E 150 (am_B 150 0) [.ref 61, am_dm] [] (HH q ml) = some (some (.int (dfZ (q_hot c l))), HH q ml') ∧ ux ml ml' := by
  obtain ⟨s1, s2, s3, s4, s5, s6, s7, s8, s9⟩ := id hS
  have hK := r_K hL
  have hy := r_y hL
  simp only [b_150_e, b_150_46, b_150_52, k_0, e_istore_1, e_kpi, e_kpr, e_kpl, e_kpd, e_jsr, e_iload_1, e_aloadr_0, g_591_61, e_icmp_ge, g_594_61, g_592_61, il_62, il_63, il_64, il_66, il_67, il_68, il_69, il_70, il_71, il_72, il_73, il_74, il_75, il_76, il_77, ik_62_0, ik_62_1, ik_62_2, ik_62_3, ik_62_4, ik_73_0, ik_74_0, cc_M_findVolts_0, cc_M_findVolts_1, cc_M_findVolts_2, cc_M_findVolts_3, Option.toList_some, Option.toList_none, List.cons_append, List.nil_append, g_595_61, g_578_61, k_3, e_i2l, g_596_61, e_lmul, e_lcmp, e_if_le, k_1, e_zret0, e_zret1, e_iinc_1, e_goto, eq_self]
  refine loop_cntx (fun i (s : Nat → Nat → Int64) => ev E 150 (am_B 150 (Int.toNat 2)) [.ref 61, .int (nI i)] [] (HH q s)) (q_th l) (fun i s => ux ml s ∧ ∀ k, k < i → q_th l k = true → ¬ c.1.2.2 < q_vn c l k) (fun r => ∃ ml', r = some (some (.int (dfZ (q_hot c l))), HH q ml') ∧ ux ml ml') (fun i s hi ht hj => ⟨hj.1, fun k hk hkt => ?_⟩) (fun i s hi ht hj => ?_) (fun s hj => ?_) ml ⟨ux_rf, fun k hk => by omega⟩
  · by_cases e : k = i
    · rw [e, ht] at hkt; cases hkt
    · exact hj.2 k (by omega) hkt
  · have hkK : cntB (q_th l) i < K := by rw [hL.2.1]; exact cntB_in ht hi
    have hk5 : cntB (q_th l) i < 5 := by omega
    have hv := r_vk hS hR hL hi ht
    have hle := fr2_top (T := q 62 3) hv (Nat.le_refl _) (by have := hR.2.2.2.1; omega) hR.1.2.2
    by_cases h1 : c.1.2.2 < q_vn c l i
    · left
      refine ⟨ud s (vlu q K n (nI (q_bits c l)) (q 73 (cntB (q_th l) i))) (vld q n (nI (q_bits c l)) (q 73 (cntB (q_th l) i))), hd b_150_2 ?_, ux_tr hj.1 ux_ud⟩
      have hq : q_hot c l = true := anyB_iff.mpr ⟨i, hi, by simp [ht, h1]⟩
      have hle' := hle
      unfold vlu vld at hle'
      simp only [b_150_e, b_150_46, b_150_52, k_0, e_istore_1, e_kpi, e_kpr, e_kpl, e_kpd, e_jsr, e_iload_1, e_aloadr_0, g_591_61, e_icmp_ge, g_594_61, g_592_61, il_62, il_63, il_64, il_66, il_67, il_68, il_69, il_70, il_71, il_72, il_73, il_74, il_75, il_76, il_77, ik_62_0, ik_62_1, ik_62_2, ik_62_3, ik_62_4, ik_73_0, ik_74_0, cc_M_findVolts_0, cc_M_findVolts_1, cc_M_findVolts_2, cc_M_findVolts_3, Option.toList_some, Option.toList_none, List.cons_append, List.nil_append, g_595_61, g_578_61, k_3, e_i2l, g_596_61, e_lmul, e_lcmp, e_if_le, k_1, e_zret0, e_zret1, e_iinc_1, e_goto, eq_self, hL.1, lec (show K < 1000 by omega) hkK, hk5, hf, cc_M_findVolts_0 s1 s2 hL.1 hK (hy _ hkK) s3 hy (r_ex hS hm h0), ud_u, ud_d, lg_cmp_le, hle', h1, hq, dfZ, vlu, vld, not_true_eq_false, not_false_eq_true, if_true, if_false, true_or, or_true, false_or, or_false, true_and, and_true, false_and, and_false, and_self, or_self, reduceIte, Bool.false_eq_true, i10, i01]
    · right
      refine ⟨ud s (vlu q K n (nI (q_bits c l)) (q 73 (cntB (q_th l) i))) (vld q n (nI (q_bits c l)) (q 73 (cntB (q_th l) i))), hd b_150_2 ?_, ux_tr hj.1 ux_ud, fun k hk hkt => ?_⟩
      · have hle' := hle
        unfold vlu vld at hle'
        simp only [b_150_e, b_150_46, b_150_52, k_0, e_istore_1, e_kpi, e_kpr, e_kpl, e_kpd, e_jsr, e_iload_1, e_aloadr_0, g_591_61, e_icmp_ge, g_594_61, g_592_61, il_62, il_63, il_64, il_66, il_67, il_68, il_69, il_70, il_71, il_72, il_73, il_74, il_75, il_76, il_77, ik_62_0, ik_62_1, ik_62_2, ik_62_3, ik_62_4, ik_73_0, ik_74_0, cc_M_findVolts_0, cc_M_findVolts_1, cc_M_findVolts_2, cc_M_findVolts_3, Option.toList_some, Option.toList_none, List.cons_append, List.nil_append, g_595_61, g_578_61, k_3, e_i2l, g_596_61, e_lmul, e_lcmp, e_if_le, k_1, e_zret0, e_zret1, e_iinc_1, e_goto, eq_self, hL.1, lec (show K < 1000 by omega) hkK, hk5, hf, cc_M_findVolts_0 s1 s2 hL.1 hK (hy _ hkK) s3 hy (r_ex hS hm h0), ud_u, ud_d, lg_cmp_le, hle', h1, vlu, vld, not_true_eq_false, not_false_eq_true, if_true, if_false, true_or, or_true, false_or, or_false, true_and, and_true, false_and, and_false, and_self, or_self, reduceIte, Bool.false_eq_true, i10, i01, e_inc1]
      · by_cases e : k = i
        · rw [e]; exact h1
        · exact hj.2 k (by omega) hkt
  · refine ⟨s, hd b_150_2 ?_, hj.1⟩
    have hq : q_hot c l = false := by
      cases hh : q_hot c l with
      | false => rfl
      | true =>
        obtain ⟨k, hk, h2⟩ := anyB_iff.mp hh
        simp only [Bool.and_eq_true, decide_eq_true_eq] at h2
        exact absurd h2.2 (hj.2 k hk h2.1)
    rw [← hL.2.1]
    simp only [b_150_e, b_150_46, b_150_52, k_0, e_istore_1, e_kpi, e_kpr, e_kpl, e_kpd, e_jsr, e_iload_1, e_aloadr_0, g_591_61, e_icmp_ge, g_594_61, g_592_61, il_62, il_63, il_64, il_66, il_67, il_68, il_69, il_70, il_71, il_72, il_73, il_74, il_75, il_76, il_77, ik_62_0, ik_62_1, ik_62_2, ik_62_3, ik_62_4, ik_73_0, ik_74_0, cc_M_findVolts_0, cc_M_findVolts_1, cc_M_findVolts_2, cc_M_findVolts_3, Option.toList_some, Option.toList_none, List.cons_append, List.nil_append, g_595_61, g_578_61, k_3, e_i2l, g_596_61, e_lmul, e_lcmp, e_if_le, k_1, e_zret0, e_zret1, e_iinc_1, e_goto, eq_self, hL.1, lecc, hq, dfZ, not_true_eq_false, not_false_eq_true, if_true, if_false, true_or, or_true, false_or, or_false, true_and, and_true, false_and, and_false, and_self, or_self, reduceIte, Bool.false_eq_true, i10, i01]
theorem nle64 {x y : Int64} : (x ≤ y) = ¬ (y < x) := propext Int64.not_lt.symm
theorem A_lt0 (hL : rL q K l) {i : Nat} (hi : i < 5) (ht : q_th l i = true) : (q 74 (cntB (q_th l) i) < 0) = (q_am l i < 0) := by
  rw [← ((hL.2.2 i hi).1 ht).2.2, Int32.lt_iff_toInt_lt]; rfl
theorem x_back (hS : rS q n I c) (hR : rR q c) (hL : rL q K l) (hm : 0 < q_m c) (h0 : 0 ≤ sumI (q_am l) 5) (hf : q 61 18 = nI (q_bits c l)) : ∃ ml', ev E 151 (am_B 151 0) [.ref 61, am_dm, am_dm, am_dm, am_dm, am_dm, am_dm] [] (HH q ml) = some (some (.int (oM ((q_hi (q_th l) (q_am l) (q_vn c l) 5).map (cntB (q_th l))))), HH q ml') ∧ ux ml ml' := by
  obtain ⟨s1, s2, s3, s4, s5, s6, s7, s8, s9⟩ := id hS
  have hK := r_K hL
  have hy := r_y hL
  have hbl := q_bits_lt (c := c) (l := l)
  simp only [b_151_e, b_151_33, b_151_63, b_151_78, b_151_101, b_151_115, b_151_121, k_m9, e_istore_1, e_kpi, e_kpr, e_kpl, e_kpd, kl_0, e_lstore_2, kl_1, e_lstore_4, k_0, e_istore_6, e_jsr, e_iload_6, e_aloadr_0, g_591_61, e_icmp_ge, g_593_61, il_62, il_63, il_64, il_66, il_67, il_68, il_69, il_70, il_71, il_72, il_73, il_74, il_75, il_76, il_77, ik_62_0, ik_62_1, ik_62_2, ik_62_3, ik_62_4, ik_73_0, ik_74_0, e_if_lt, e_goto, g_594_61, e_icmp_ne, e_ineg, e_i2l, p_595_61, p_596_61, g_592_61, cc_M_findVolts_0, cc_M_findVolts_1, cc_M_findVolts_2, cc_M_findVolts_3, Option.toList_some, Option.toList_none, List.cons_append, List.nil_append, e_iload_1, e_icmp_eq, g_595_61, e_lload_4, e_lmul, e_lload_2, g_596_61, e_lcmp, e_if_le, e_iinc_6, e_iret, eq_self]
  obtain ⟨s', hl, hJ⟩ := loop_cnt (fun i (s : (Nat → Nat → Int64) × Int32 × Int64 × Int64) => ev E 151 (am_B 151 (Int.toNat 11)) [.ref 61, .int s.2.1, .long s.2.2.1, am_dm, .long s.2.2.2, am_dm, .int (nI i)] [] (HH q s.1)) (q_th l) (fun i s => ux ml s.1 ∧ s.2.1 = oM ((q_hi (q_th l) (q_am l) (q_vn c l) i).map (cntB (q_th l))) ∧ ∀ f, q_hi (q_th l) (q_am l) (q_vn c l) i = some f → fr2 s.2.2.1 s.2.2.2 (q_vn c l f) 1000000000000) (fun i s hi ht hj => by
      rw [show q_hi (q_th l) (q_am l) (q_vn c l) (i + 1) = q_hi (q_th l) (q_am l) (q_vn c l) i by rw [q_hi, if_neg (by simp [ht])]]
      exact hj) (fun i s hi ht hj => by
    obtain ⟨m1, b, u, d⟩ := s
    obtain ⟨j1, j2, j3⟩ := hj
    dsimp only at j1 j2 j3 ⊢
    have hkK : cntB (q_th l) i < K := by rw [hL.2.1]; exact cntB_in ht hi
    have hk5 : cntB (q_th l) i < 5 := by omega
    have hlt := A_lt0 hL hi ht
    by_cases ha : q_am l i < 0
    · have hv := r_vk hS hR hL hi ht
      have hv' := hv
      unfold vlu vld at hv'
      rw [q_hi, if_pos ⟨ht, ha⟩]
      cases hq : q_hi (q_th l) (q_am l) (q_vn c l) i with
      | none =>
        rw [hq] at j2
        refine ⟨(ud m1 (vlu q K n (nI (q_bits c l)) (q 73 (cntB (q_th l) i))) (vld q n (nI (q_bits c l)) (q 73 (cntB (q_th l) i))), nI (cntB (q_th l) i), Int64.ofInt (vlu q K n (nI (q_bits c l)) (q 73 (cntB (q_th l) i))), Int64.ofInt (vld q n (nI (q_bits c l)) (q 73 (cntB (q_th l) i)))), hd b_151_11 ?_, ux_tr j1 ux_ud, rfl, fun f hf2 => ?_⟩
        · rw [j2]
          simp only [b_151_e, b_151_33, b_151_63, b_151_78, b_151_101, b_151_115, b_151_121, k_m9, e_istore_1, e_kpi, e_kpr, e_kpl, e_kpd, kl_0, e_lstore_2, kl_1, e_lstore_4, k_0, e_istore_6, e_jsr, e_iload_6, e_aloadr_0, g_591_61, e_icmp_ge, g_593_61, il_62, il_63, il_64, il_66, il_67, il_68, il_69, il_70, il_71, il_72, il_73, il_74, il_75, il_76, il_77, ik_62_0, ik_62_1, ik_62_2, ik_62_3, ik_62_4, ik_73_0, ik_74_0, e_if_lt, e_goto, g_594_61, e_icmp_ne, e_ineg, e_i2l, p_595_61, p_596_61, g_592_61, cc_M_findVolts_0, cc_M_findVolts_1, cc_M_findVolts_2, cc_M_findVolts_3, Option.toList_some, Option.toList_none, List.cons_append, List.nil_append, e_iload_1, e_icmp_eq, g_595_61, e_lload_4, e_lmul, e_lload_2, g_596_61, e_lcmp, e_if_le, e_iinc_6, e_iret, eq_self, hL.1, lec (show K < 1000 by omega) hkK, hk5, hlt, ha, hf, eq_n9 (show q_bits c l < 1000 by omega), cc_M_findVolts_0 s1 s2 hL.1 hK (hy _ hkK) s3 hy (r_ex hS hm h0), ud_u, ud_d, Option.map, oM_n, n9n9, vlu, vld, not_true_eq_false, not_false_eq_true, if_true, if_false, true_or, or_true, false_or, or_false, true_and, and_true, false_and, and_false, and_self, or_self, reduceIte, Bool.false_eq_true, i10, i01, e_inc1]
        · cases hf2; exact hv
      | some f =>
        rw [hq] at j2
        have hff := q_hi_some hq
        have hfr := j3 f hq
        have hcmp := fr2_lt hfr hv (Nat.le_refl _)
        have hcmp' := hcmp
        unfold vlu vld at hcmp'
        have hf5 : cntB (q_th l) f < 1000 := by have := cntB_le (f := q_th l) (n := f); omega
        by_cases h1 : q_vn c l f < q_vn c l i
        · refine ⟨(ud m1 (vlu q K n (nI (q_bits c l)) (q 73 (cntB (q_th l) i))) (vld q n (nI (q_bits c l)) (q 73 (cntB (q_th l) i))), nI (cntB (q_th l) i), Int64.ofInt (vlu q K n (nI (q_bits c l)) (q 73 (cntB (q_th l) i))), Int64.ofInt (vld q n (nI (q_bits c l)) (q 73 (cntB (q_th l) i)))), hd b_151_11 ?_, ux_tr j1 ux_ud, ?_, fun g hg => ?_⟩
          · rw [j2]
            simp only [b_151_e, b_151_33, b_151_63, b_151_78, b_151_101, b_151_115, b_151_121, k_m9, e_istore_1, e_kpi, e_kpr, e_kpl, e_kpd, kl_0, e_lstore_2, kl_1, e_lstore_4, k_0, e_istore_6, e_jsr, e_iload_6, e_aloadr_0, g_591_61, e_icmp_ge, g_593_61, il_62, il_63, il_64, il_66, il_67, il_68, il_69, il_70, il_71, il_72, il_73, il_74, il_75, il_76, il_77, ik_62_0, ik_62_1, ik_62_2, ik_62_3, ik_62_4, ik_73_0, ik_74_0, e_if_lt, e_goto, g_594_61, e_icmp_ne, e_ineg, e_i2l, p_595_61, p_596_61, g_592_61, cc_M_findVolts_0, cc_M_findVolts_1, cc_M_findVolts_2, cc_M_findVolts_3, Option.toList_some, Option.toList_none, List.cons_append, List.nil_append, e_iload_1, e_icmp_eq, g_595_61, e_lload_4, e_lmul, e_lload_2, g_596_61, e_lcmp, e_if_le, e_iinc_6, e_iret, eq_self, hL.1, lec (show K < 1000 by omega) hkK, hk5, hlt, ha, hf, eq_n9 (show q_bits c l < 1000 by omega), eq_n9 hf5, cc_M_findVolts_0 s1 s2 hL.1 hK (hy _ hkK) s3 hy (r_ex hS hm h0), ud_u, ud_d, Option.map, oM_s, lg_cmp_le, nle64, hcmp', h1, vlu, vld, not_true_eq_false, not_false_eq_true, if_true, if_false, true_or, or_true, false_or, or_false, true_and, and_true, false_and, and_false, and_self, or_self, reduceIte, Bool.false_eq_true, i10, i01, e_inc1]
          · simp only [h1, if_true, Option.map, oM_s]
          · simp only [h1, if_true] at hg
            cases hg; exact hv
        · refine ⟨(ud m1 (vlu q K n (nI (q_bits c l)) (q 73 (cntB (q_th l) i))) (vld q n (nI (q_bits c l)) (q 73 (cntB (q_th l) i))), nI (cntB (q_th l) f), u, d), hd b_151_11 ?_, ux_tr j1 ux_ud, ?_, fun g hg => ?_⟩
          · rw [j2]
            simp only [b_151_e, b_151_33, b_151_63, b_151_78, b_151_101, b_151_115, b_151_121, k_m9, e_istore_1, e_kpi, e_kpr, e_kpl, e_kpd, kl_0, e_lstore_2, kl_1, e_lstore_4, k_0, e_istore_6, e_jsr, e_iload_6, e_aloadr_0, g_591_61, e_icmp_ge, g_593_61, il_62, il_63, il_64, il_66, il_67, il_68, il_69, il_70, il_71, il_72, il_73, il_74, il_75, il_76, il_77, ik_62_0, ik_62_1, ik_62_2, ik_62_3, ik_62_4, ik_73_0, ik_74_0, e_if_lt, e_goto, g_594_61, e_icmp_ne, e_ineg, e_i2l, p_595_61, p_596_61, g_592_61, cc_M_findVolts_0, cc_M_findVolts_1, cc_M_findVolts_2, cc_M_findVolts_3, Option.toList_some, Option.toList_none, List.cons_append, List.nil_append, e_iload_1, e_icmp_eq, g_595_61, e_lload_4, e_lmul, e_lload_2, g_596_61, e_lcmp, e_if_le, e_iinc_6, e_iret, eq_self, hL.1, lec (show K < 1000 by omega) hkK, hk5, hlt, ha, hf, eq_n9 (show q_bits c l < 1000 by omega), eq_n9 hf5, cc_M_findVolts_0 s1 s2 hL.1 hK (hy _ hkK) s3 hy (r_ex hS hm h0), ud_u, ud_d, Option.map, oM_s, lg_cmp_le, nle64, hcmp', h1, vlu, vld, not_true_eq_false, not_false_eq_true, if_true, if_false, true_or, or_true, false_or, or_false, true_and, and_true, false_and, and_false, and_self, or_self, reduceIte, Bool.false_eq_true, i10, i01, e_inc1]
          · simp only [h1, if_false, Option.map, oM_s]
          · simp only [h1, if_false] at hg
            cases hg; exact hfr
    · refine ⟨(m1, b, u, d), hd b_151_11 ?_, ?_⟩
      · simp only [b_151_e, b_151_33, b_151_63, b_151_78, b_151_101, b_151_115, b_151_121, k_m9, e_istore_1, e_kpi, e_kpr, e_kpl, e_kpd, kl_0, e_lstore_2, kl_1, e_lstore_4, k_0, e_istore_6, e_jsr, e_iload_6, e_aloadr_0, g_591_61, e_icmp_ge, g_593_61, il_62, il_63, il_64, il_66, il_67, il_68, il_69, il_70, il_71, il_72, il_73, il_74, il_75, il_76, il_77, ik_62_0, ik_62_1, ik_62_2, ik_62_3, ik_62_4, ik_73_0, ik_74_0, e_if_lt, e_goto, g_594_61, e_icmp_ne, e_ineg, e_i2l, p_595_61, p_596_61, g_592_61, cc_M_findVolts_0, cc_M_findVolts_1, cc_M_findVolts_2, cc_M_findVolts_3, Option.toList_some, Option.toList_none, List.cons_append, List.nil_append, e_iload_1, e_icmp_eq, g_595_61, e_lload_4, e_lmul, e_lload_2, g_596_61, e_lcmp, e_if_le, e_iinc_6, e_iret, eq_self, hL.1, lec (show K < 1000 by omega) hkK, hk5, hlt, ha, not_true_eq_false, not_false_eq_true, if_true, if_false, true_or, or_true, false_or, or_false, true_and, and_true, false_and, and_false, and_self, or_self, reduceIte, Bool.false_eq_true, i10, i01, e_inc1]
      · rw [q_hi, if_neg (fun z => ha z.2)]
        exact ⟨j1, j2, j3⟩) (ml, -9, 0, 1) ⟨ux_rf, rfl, fun f h => by cases h⟩
  obtain ⟨m1, b, u, d⟩ := s'
  obtain ⟨j1, j2, j3⟩ := hJ
  dsimp only at hl j1 j2 j3
  refine ⟨m1, Eq.trans (show _ = _ from hl) (hd b_151_11 ?_), j1⟩
  rw [← hL.2.1, j2]
  simp only [b_151_e, b_151_33, b_151_63, b_151_78, b_151_101, b_151_115, b_151_121, k_m9, e_istore_1, e_kpi, e_kpr, e_kpl, e_kpd, kl_0, e_lstore_2, kl_1, e_lstore_4, k_0, e_istore_6, e_jsr, e_iload_6, e_aloadr_0, g_591_61, e_icmp_ge, g_593_61, il_62, il_63, il_64, il_66, il_67, il_68, il_69, il_70, il_71, il_72, il_73, il_74, il_75, il_76, il_77, ik_62_0, ik_62_1, ik_62_2, ik_62_3, ik_62_4, ik_73_0, ik_74_0, e_if_lt, e_goto, g_594_61, e_icmp_ne, e_ineg, e_i2l, p_595_61, p_596_61, g_592_61, cc_M_findVolts_0, cc_M_findVolts_1, cc_M_findVolts_2, cc_M_findVolts_3, Option.toList_some, Option.toList_none, List.cons_append, List.nil_append, e_iload_1, e_icmp_eq, g_595_61, e_lload_4, e_lmul, e_lload_2, g_596_61, e_lcmp, e_if_le, e_iinc_6, e_iret, eq_self, hL.1, lecc, not_true_eq_false, not_false_eq_true, if_true, if_false, true_or, or_true, false_or, or_false, true_and, and_true, false_and, and_false, and_self, or_self, reduceIte, Bool.false_eq_true, i10, i01]
theorem negA (hL : rL q K l) {i : Nat} (hi : i < 5) (ht : q_th l i = true) : (-(q 74 (cntB (q_th l) i))).toInt64 = Int64.ofInt (-(q_am l i)) := by
  obtain ⟨y, z, _⟩ := hL.2.2 i hi
  have e := (y ht).2.2
  unfold mA at e
  rw [i64_of, Int32.toInt_neg, e, Int.bmod_eq_of_le (by omega) (by omega)]
theorem x_back2 (hL : rL q K l) (hf : q 61 18 = -9) : ∃ ml', ev E 151 (am_B 151 0) [.ref 61, am_dm, am_dm, am_dm, am_dm, am_dm, am_dm] [] (HH q ml) = some (some (.int (oM ((q_gb (q_am l) 5).map (cntB (q_th l))))), HH q ml') ∧ ux ml ml' := by
  have hK := r_K hL
  simp only [b_151_e, b_151_33, b_151_63, b_151_78, b_151_101, b_151_115, b_151_121, k_m9, e_istore_1, e_kpi, e_kpr, e_kpl, e_kpd, kl_0, e_lstore_2, kl_1, e_lstore_4, k_0, e_istore_6, e_jsr, e_iload_6, e_aloadr_0, g_591_61, e_icmp_ge, g_593_61, il_62, il_63, il_64, il_66, il_67, il_68, il_69, il_70, il_71, il_72, il_73, il_74, il_75, il_76, il_77, ik_62_0, ik_62_1, ik_62_2, ik_62_3, ik_62_4, ik_73_0, ik_74_0, e_if_lt, e_goto, g_594_61, e_icmp_ne, e_ineg, e_i2l, p_595_61, p_596_61, g_592_61, cc_M_findVolts_0, cc_M_findVolts_1, cc_M_findVolts_2, cc_M_findVolts_3, Option.toList_some, Option.toList_none, List.cons_append, List.nil_append, e_iload_1, e_icmp_eq, g_595_61, e_lload_4, e_lmul, e_lload_2, g_596_61, e_lcmp, e_if_le, e_iinc_6, e_iret, eq_self]
  obtain ⟨s', hl, hJ⟩ := loop_cnt (fun i (s : (Nat → Nat → Int64) × Int32 × Int64 × Int64) => ev E 151 (am_B 151 (Int.toNat 11)) [.ref 61, .int s.2.1, .long s.2.2.1, am_dm, .long s.2.2.2, am_dm, .int (nI i)] [] (HH q s.1)) (q_th l) (fun i s => ux ml s.1 ∧ s.2.1 = oM ((q_gb (q_am l) i).map (cntB (q_th l))) ∧ ∀ f, q_gb (q_am l) i = some f → s.2.2.1 = Int64.ofInt (-(q_am l f)) ∧ s.2.2.2 = 1) (fun i s hi ht hj => by
      rw [show q_gb (q_am l) (i + 1) = q_gb (q_am l) i by rw [q_gb, if_pos (by rw [(hL.2.2 i hi).2.2 ht]; exact Int.le_refl _)]]
      exact hj) (fun i s hi ht hj => by
    obtain ⟨m1, b, u, d⟩ := s
    obtain ⟨j1, j2, j3⟩ := hj
    dsimp only at j1 j2 j3 ⊢
    have hkK : cntB (q_th l) i < K := by rw [hL.2.1]; exact cntB_in ht hi
    have hk5 : cntB (q_th l) i < 5 := by omega
    have hlt := A_lt0 hL hi ht
    have hng := negA hL hi ht
    have hui : ∀ (x : Int), am_up (am_up m1 61 19 (Int64.ofInt x)) 61 20 1 = ud m1 x 1 := fun x => by rw [← ud_comm]; rfl
    by_cases ha : q_am l i < 0
    · rw [q_gb, if_neg (by omega)]
      cases hq : q_gb (q_am l) i with
      | none =>
        rw [hq] at j2
        refine ⟨(ud m1 (-(q_am l i)) 1, nI (cntB (q_th l) i), Int64.ofInt (-(q_am l i)), 1), hd b_151_11 ?_, ux_tr j1 ux_ud, rfl, fun f hf2 => ?_⟩
        · rw [j2]
          simp only [b_151_e, b_151_33, b_151_63, b_151_78, b_151_101, b_151_115, b_151_121, k_m9, e_istore_1, e_kpi, e_kpr, e_kpl, e_kpd, kl_0, e_lstore_2, kl_1, e_lstore_4, k_0, e_istore_6, e_jsr, e_iload_6, e_aloadr_0, g_591_61, e_icmp_ge, g_593_61, il_62, il_63, il_64, il_66, il_67, il_68, il_69, il_70, il_71, il_72, il_73, il_74, il_75, il_76, il_77, ik_62_0, ik_62_1, ik_62_2, ik_62_3, ik_62_4, ik_73_0, ik_74_0, e_if_lt, e_goto, g_594_61, e_icmp_ne, e_ineg, e_i2l, p_595_61, p_596_61, g_592_61, cc_M_findVolts_0, cc_M_findVolts_1, cc_M_findVolts_2, cc_M_findVolts_3, Option.toList_some, Option.toList_none, List.cons_append, List.nil_append, e_iload_1, e_icmp_eq, g_595_61, e_lload_4, e_lmul, e_lload_2, g_596_61, e_lcmp, e_if_le, e_iinc_6, e_iret, eq_self, hL.1, lec (show K < 1000 by omega) hkK, hk5, hlt, ha, hf, n9n9, hng, hui, ud_u, ud_d, Option.map, oM_n, show Int64.ofInt 1 = 1 from rfl, not_true_eq_false, not_false_eq_true, if_true, if_false, true_or, or_true, false_or, or_false, true_and, and_true, false_and, and_false, and_self, or_self, reduceIte, Bool.false_eq_true, i10, i01, e_inc1]
        · cases hf2; exact ⟨rfl, rfl⟩
      | some f =>
        rw [hq] at j2
        have hff := q_gb_some hq
        obtain ⟨u1, d1⟩ := j3 f hq
        have hbi := (hL.2.2 i hi).2.1
        have hbf := (hL.2.2 f (by omega)).2.1
        have hcmp : (Int64.ofInt (-(q_am l i)) * 1 ≤ Int64.ofInt (-(q_am l f)) * 1) = (q_am l f ≤ q_am l i) := by
          rw [Int64.mul_one, Int64.mul_one, propext (i64_le (a := -(q_am l i)) (b := -(q_am l f)) (by omega) (by omega))]
          apply propext
          omega
        have hf5 : cntB (q_th l) f < 1000 := by have := cntB_le (f := q_th l) (n := f); omega
        by_cases h1 : q_am l f ≤ q_am l i
        · refine ⟨(ud m1 (-(q_am l i)) 1, nI (cntB (q_th l) f), u, d), hd b_151_11 ?_, ux_tr j1 ux_ud, ?_, fun g hg => ?_⟩
          · rw [j2, u1, d1]
            simp only [b_151_e, b_151_33, b_151_63, b_151_78, b_151_101, b_151_115, b_151_121, k_m9, e_istore_1, e_kpi, e_kpr, e_kpl, e_kpd, kl_0, e_lstore_2, kl_1, e_lstore_4, k_0, e_istore_6, e_jsr, e_iload_6, e_aloadr_0, g_591_61, e_icmp_ge, g_593_61, il_62, il_63, il_64, il_66, il_67, il_68, il_69, il_70, il_71, il_72, il_73, il_74, il_75, il_76, il_77, ik_62_0, ik_62_1, ik_62_2, ik_62_3, ik_62_4, ik_73_0, ik_74_0, e_if_lt, e_goto, g_594_61, e_icmp_ne, e_ineg, e_i2l, p_595_61, p_596_61, g_592_61, cc_M_findVolts_0, cc_M_findVolts_1, cc_M_findVolts_2, cc_M_findVolts_3, Option.toList_some, Option.toList_none, List.cons_append, List.nil_append, e_iload_1, e_icmp_eq, g_595_61, e_lload_4, e_lmul, e_lload_2, g_596_61, e_lcmp, e_if_le, e_iinc_6, e_iret, eq_self, hL.1, lec (show K < 1000 by omega) hkK, hk5, hlt, ha, hf, n9n9, hng, hui, ud_u, ud_d, Option.map, oM_s, eq_n9 hf5, lg_cmp_le, show Int64.ofInt 1 = 1 from rfl, hcmp, h1, not_true_eq_false, not_false_eq_true, if_true, if_false, true_or, or_true, false_or, or_false, true_and, and_true, false_and, and_false, and_self, or_self, reduceIte, Bool.false_eq_true, i10, i01, e_inc1]
          · simp only [h1, if_true, Option.map, oM_s]
          · simp only [h1, if_true] at hg
            cases hg; exact ⟨u1, d1⟩
        · refine ⟨(ud m1 (-(q_am l i)) 1, nI (cntB (q_th l) i), Int64.ofInt (-(q_am l i)), 1), hd b_151_11 ?_, ux_tr j1 ux_ud, ?_, fun g hg => ?_⟩
          · rw [j2, u1, d1]
            simp only [b_151_e, b_151_33, b_151_63, b_151_78, b_151_101, b_151_115, b_151_121, k_m9, e_istore_1, e_kpi, e_kpr, e_kpl, e_kpd, kl_0, e_lstore_2, kl_1, e_lstore_4, k_0, e_istore_6, e_jsr, e_iload_6, e_aloadr_0, g_591_61, e_icmp_ge, g_593_61, il_62, il_63, il_64, il_66, il_67, il_68, il_69, il_70, il_71, il_72, il_73, il_74, il_75, il_76, il_77, ik_62_0, ik_62_1, ik_62_2, ik_62_3, ik_62_4, ik_73_0, ik_74_0, e_if_lt, e_goto, g_594_61, e_icmp_ne, e_ineg, e_i2l, p_595_61, p_596_61, g_592_61, cc_M_findVolts_0, cc_M_findVolts_1, cc_M_findVolts_2, cc_M_findVolts_3, Option.toList_some, Option.toList_none, List.cons_append, List.nil_append, e_iload_1, e_icmp_eq, g_595_61, e_lload_4, e_lmul, e_lload_2, g_596_61, e_lcmp, e_if_le, e_iinc_6, e_iret, eq_self, hL.1, lec (show K < 1000 by omega) hkK, hk5, hlt, ha, hf, n9n9, hng, hui, ud_u, ud_d, Option.map, oM_s, eq_n9 hf5, lg_cmp_le, show Int64.ofInt 1 = 1 from rfl, hcmp, h1, not_true_eq_false, not_false_eq_true, if_true, if_false, true_or, or_true, false_or, or_false, true_and, and_true, false_and, and_false, and_self, or_self, reduceIte, Bool.false_eq_true, i10, i01, e_inc1]
          · simp only [h1, if_false, Option.map, oM_s]
          · simp only [h1, if_false] at hg
            cases hg; exact ⟨rfl, rfl⟩
    · refine ⟨(m1, b, u, d), hd b_151_11 ?_, ?_⟩
      · simp only [b_151_e, b_151_33, b_151_63, b_151_78, b_151_101, b_151_115, b_151_121, k_m9, e_istore_1, e_kpi, e_kpr, e_kpl, e_kpd, kl_0, e_lstore_2, kl_1, e_lstore_4, k_0, e_istore_6, e_jsr, e_iload_6, e_aloadr_0, g_591_61, e_icmp_ge, g_593_61, il_62, il_63, il_64, il_66, il_67, il_68, il_69, il_70, il_71, il_72, il_73, il_74, il_75, il_76, il_77, ik_62_0, ik_62_1, ik_62_2, ik_62_3, ik_62_4, ik_73_0, ik_74_0, e_if_lt, e_goto, g_594_61, e_icmp_ne, e_ineg, e_i2l, p_595_61, p_596_61, g_592_61, cc_M_findVolts_0, cc_M_findVolts_1, cc_M_findVolts_2, cc_M_findVolts_3, Option.toList_some, Option.toList_none, List.cons_append, List.nil_append, e_iload_1, e_icmp_eq, g_595_61, e_lload_4, e_lmul, e_lload_2, g_596_61, e_lcmp, e_if_le, e_iinc_6, e_iret, eq_self, hL.1, lec (show K < 1000 by omega) hkK, hk5, hlt, ha, not_true_eq_false, not_false_eq_true, if_true, if_false, true_or, or_true, false_or, or_false, true_and, and_true, false_and, and_false, and_self, or_self, reduceIte, Bool.false_eq_true, i10, i01, e_inc1]
      · rw [q_gb, if_pos (by omega)]
        exact ⟨j1, j2, j3⟩) (ml, -9, 0, 1) ⟨ux_rf, rfl, fun f h => by cases h⟩
  obtain ⟨m1, b, u, d⟩ := s'
  obtain ⟨j1, j2, j3⟩ := hJ
  dsimp only at hl j1 j2 j3
  refine ⟨m1, Eq.trans (show _ = _ from hl) (hd b_151_11 ?_), j1⟩
  rw [← hL.2.1, j2]
  simp only [b_151_e, b_151_33, b_151_63, b_151_78, b_151_101, b_151_115, b_151_121, k_m9, e_istore_1, e_kpi, e_kpr, e_kpl, e_kpd, kl_0, e_lstore_2, kl_1, e_lstore_4, k_0, e_istore_6, e_jsr, e_iload_6, e_aloadr_0, g_591_61, e_icmp_ge, g_593_61, il_62, il_63, il_64, il_66, il_67, il_68, il_69, il_70, il_71, il_72, il_73, il_74, il_75, il_76, il_77, ik_62_0, ik_62_1, ik_62_2, ik_62_3, ik_62_4, ik_73_0, ik_74_0, e_if_lt, e_goto, g_594_61, e_icmp_ne, e_ineg, e_i2l, p_595_61, p_596_61, g_592_61, cc_M_findVolts_0, cc_M_findVolts_1, cc_M_findVolts_2, cc_M_findVolts_3, Option.toList_some, Option.toList_none, List.cons_append, List.nil_append, e_iload_1, e_icmp_eq, g_595_61, e_lload_4, e_lmul, e_lload_2, g_596_61, e_lcmp, e_if_le, e_iinc_6, e_iret, eq_self, hL.1, lecc, not_true_eq_false, not_false_eq_true, if_true, if_false, true_or, or_true, false_or, or_false, true_and, and_true, false_and, and_false, and_self, or_self, reduceIte, Bool.false_eq_true, i10, i01]
end Ht
