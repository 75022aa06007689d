/-! THE REFERENCE'S findMost, isTripped, layFault, ticksThere -/
theorem d_mT_max {c : qC} {le : qL} {b : Rat} : ∀ i, b ≤ d_mT c le b i ∧ (∀ j, j < i → q_F c le j = true → q_g c le j ≤ d_mT c le b i) ∧ (d_mT c le b i = b ∨ ∃ j, j < i ∧ q_F c le j = true ∧ d_mT c le b i = q_g c le j) := by
  intro i
  induction i with
  | zero => exact ⟨Rat.le_refl, fun j hj => by omega, Or.inl rfl⟩
  | succ i ih =>
    obtain ⟨h1, h2, h3⟩ := ih
    rw [d_mT]
    by_cases hc : q_F c le i = true ∧ d_mT c le b i < q_g c le i
    · rw [if_pos hc]
      refine ⟨by grind, fun j hj hF => ?_, Or.inr ⟨i, by omega, hc.1, rfl⟩⟩
      by_cases e : j = i
      · rw [e]; exact Rat.le_refl
      · have := h2 j (by omega) hF; grind
    · rw [if_neg hc]
      refine ⟨h1, fun j hj hF => ?_, ?_⟩
      · by_cases e : j = i
        · subst e
          rcases (show q_g c le j ≤ d_mT c le b j ∨ d_mT c le b j < q_g c le j by grind) with z | z
          · exact z
          · exact absurd ⟨hF, z⟩ hc
        · exact h2 j (by omega) hF
      · rcases h3 with z | ⟨j, j1, j2⟩
        · exact Or.inl z
        · exact Or.inr ⟨j, by omega, j2⟩
theorem max_one {m : Nat} {F : Nat → Bool} {g : Nat → Rat} {b x y : Rat} (h1 : b ≤ x ∧ (∀ j, j < m → F j = true → g j ≤ x) ∧ (x = b ∨ ∃ j, j < m ∧ F j = true ∧ x = g j)) (h2 : b ≤ y ∧ (∀ j, j < m → F j = true → g j ≤ y) ∧ (y = b ∨ ∃ j, j < m ∧ F j = true ∧ y = g j)) : x = y := by
  obtain ⟨a1, a2, a3⟩ := h1
  obtain ⟨b1, b2, b3⟩ := h2
  have l1 : x ≤ y := by
    rcases a3 with z | ⟨j, j1, j2, j3⟩
    · grind
    · have := b2 j j1 j2; grind
  have l2 : y ≤ x := by
    rcases b3 with z | ⟨j, j1, j2, j3⟩
    · grind
    · have := a2 j j1 j2; grind
  grind
def k2 (r s : Nat → Nat → Int64) : Prop := ∀ a b, ¬ (a = 61 ∧ (b = 19 ∨ b = 20 ∨ b = 27 ∨ b = 28)) → r a b = s a b
theorem k2_rf {q : Nat → Nat → Int64} : k2 q q := fun _ _ _ => rfl
theorem k2_tr {p q r : Nat → Nat → Int64} (a1 : k2 p q) (a2 : k2 q r) : k2 p r := fun a b x => by rw [a1 a b x, a2 a b x]
theorem k2_ux {r s : Nat → Nat → Int64} (h : ux s r) : k2 r s := fun a b x => h a b (by omega)
theorem k1_k2 {r s : Nat → Nat → Int64} (h : k2 r s) : k1 r s := fun a b x => h a b (fun z => x z.1)
section Rm
variable {E : aE} {n I nt : Nat} {c : qC} {L : Nat → Nat → Int32} {off : Nat → Nat}
/-- what station nu j gives, read by the reference -/
theorem x_give {p : Nat → Nat → Int32} {le : qL} {K j : Nat} (hE : rE p n I K c le) (hm : 0 < q_m c) (hj : j < q_m c) (hF : q_F c le j = true) : fr2 (Int64.ofInt (gvu p K n (p 61 18) (q_nu c j))) (Int64.ofInt (gvd p n (p 61 18) (q_nu c j))) (q_g c le j) 1000000000000 := by
  obtain ⟨a1, a2, a3, a4, a5⟩ := hE
  have hsR : 0 ≤ sumR (q_a le) 5 := by rw [sumR_qa]; exact qI_le.mpr a5
  have s9 := a1.2.2.2.2.2.2.2.2
  obtain ⟨k1, k2⟩ := q_S_ok (l := le) hm s9 hsR
  obtain ⟨f1, f2⟩ := q_F_ok (l := le) hm s9 hsR
  obtain ⟨g1, g2, g3, g4⟩ := r_give a1 a3 (r_bits (l := le) a1) hj
  rw [greedy_same s9 k1 k2 f1 f2 j hj hF] at g1
  rw [a4]
  exact ⟨_, _, rfl, rfl, g2, by omega, by omega, g1⟩
/-- bits of the set -/
theorem x_bit {p : Nat → Nat → Int32} {le : qL} {K s : Nat} (hE : rE p n I K c le) (hs : s < n) : (p 61 18 >>> (nI s &&& 31) &&& 1 = 1) ↔ ∃ j, j < q_m c ∧ q_nu c j = s ∧ q_F c le j = true := by
  obtain ⟨a1, a2, a3, a4, a5⟩ := hE
  have hb : (p 61 18 >>> (nI s &&& 31) &&& 1 = 1) ↔ bt (nI (q_bits c le)) s = true := by rw [a4]; unfold bt; rw [decide_eq_true_eq]
  have hT := r_bits (l := le) a1
  rw [hb]
  constructor
  · intro h
    obtain ⟨j, hj, e⟩ := a1.2.2.2.2.2.2.2.1 s hs (hT.1 s hs h)
    exact ⟨j, hj, e, by rw [hT.2 j hj, e]; exact h⟩
  · rintro ⟨j, hj, e, hF⟩
    rw [← e, ← hT.2 j hj]; exact hF
theorem x_mostT {q : Nat → Nat → Int32} {ml : Nat → Nat → Int64} {le : qL} {K t : Nat} {b : Rat} (hE : rE q n I K c le) (hm : 0 < q_m c) (hb : fr2 (ml 61 27) (ml 61 28) b 1000000000000) : ∃ r, ev E 162 (am_B 162 (Int.toNat 25)) [.ref 61, .int (nI t), .int (nI 0)] [] (HH q ml) = ev E 162 (am_B 162 (Int.toNat 25)) [.ref 61, .int (nI t), .int (nI n)] [] (HH q r) ∧ k2 r ml ∧ fr2 (r 61 27) (r 61 28) (d_mT c le b (q_m c)) 1000000000000 := by
  obtain ⟨a1, a2, a3, a4, a5⟩ := id hE
  obtain ⟨s1, s2, s3, s4, s5, s6, s7, s8, s9⟩ := id a1
  have hK := r_K a3
  have hy := r_y a3
  obtain ⟨r, hl, hJ⟩ := loop_inv (fun i (s : (Nat → Nat → Int64)) => ev E 162 (am_B 162 (Int.toNat 25)) [.ref 61, .int (nI t), .int (nI i)] [] (HH q s)) (fun i s => k2 s ml ∧ ∃ x, fr2 (s 61 27) (s 61 28) x 1000000000000 ∧ b ≤ x ∧ (∀ j, j < q_m c → q_nu c j < i → q_F c le j = true → q_g c le j ≤ x) ∧ (x = b ∨ ∃ j, j < q_m c ∧ q_F c le j = true ∧ x = q_g c le j)) n (fun i r hi hj => by
    obtain ⟨j1, x, j2, j3, j4, j5⟩ := hj
    have hi6 : i < 6 := by omega
    have hbit := x_bit hE hi
    by_cases hbt : q 61 18 >>> (nI i &&& 31) &&& 1 = 1
    · obtain ⟨j, hj, rfl, hF⟩ := hbit.mp hbt
      have hg := x_give hE hm hj hF
      have hcmp := fr2_lt j2 hg (Nat.le_refl _)
      have eud : ∀ (u d : Int) b, ¬ b = 19 → ¬ b = 20 → ud r u d 61 b = r 61 b := fun u d b x1 x2 => ux_ud 61 b (by omega)
      have e27 : ∀ u d, ud r u d 61 27 = r 61 27 := fun u d => eud u d 27 (by decide) (by decide)
      have e28 : ∀ u d, ud r u d 61 28 = r 61 28 := fun u d => eud u d 28 (by decide) (by decide)
      have hcmp' := hcmp
      unfold gvu gvd at hcmp'
      by_cases hlt : x < q_g c le j
      · refine ⟨am_up (am_up (ud r (gvu q K n (q 61 18) (q_nu c j)) (gvd q n (q 61 18) (q_nu c j))) 61 27 (Int64.ofInt (gvu q K n (q 61 18) (q_nu c j)))) 61 28 (Int64.ofInt (gvd q n (q 61 18) (q_nu c j))), hd b_162_25 ?_, ?_, q_g c le j, ?_, by grind, fun k hk hki hkF => ?_, Or.inr ⟨j, hj, hF, rfl⟩⟩
        · have ea : ∀ (u d : Int) (x : Int64), am_up (ud r u d) 61 27 x 61 20 = Int64.ofInt d := fun u d x => by rw [am_upa, if_neg (by decide), ud_d]
          simp only [b_162_e, b_162_92, b_162_98, b_162_104, e_aloadr_0, kl_0, p_603_61, kl_1, p_604_61, k_0, e_istore_1, e_kpi, e_kpr, e_kpl, e_kpd, e_jsr, e_iload_1, k_24, e_icmp_ge, Option.toList_some, Option.toList_none, List.cons_append, List.nil_append, e_istore_2, e_iload_2, g_579_61, g_594_61, e_ishr, k_1, e_iand, e_icmp_ne, cc_M_findGiven_0, cc_M_findGiven_1, cc_M_findGiven_2, cc_M_findGiven_3, g_595_61, g_604_61, e_lmul, g_603_61, g_596_61, e_lcmp, e_if_le, e_iinc_2, e_goto, e_iinc_1, e_ret, eq_self, s1, lec (show n < 1000 by omega) hi, hbt, cc_M_findGiven_0 s1 s2 hi a3.1 hK s3 (fun s hs => (s3 s hs).1) hy, ud_u, ud_d, e27, e28, lg_cmp_le, nle64, hcmp', hlt, ea, gvu, gvd, not_true_eq_false, not_false_eq_true, if_true, if_false, true_or, or_true, false_or, or_false, true_and, and_true, false_and, and_false, and_self, or_self, reduceIte, Bool.false_eq_true, i10, i01, e_inc1]
        · intro a b h
          rw [am_upa, if_neg (by omega), am_upa, if_neg (by omega), ux_ud a b (by omega)]
          exact j1 a b h
        · rw [am_up_self, am_upa, if_neg (by decide), am_up_self]; exact hg
        · by_cases e : q_nu c k = q_nu c j
          · rw [nu_inj a1 hk hj e]; exact Rat.le_refl
          · have := j4 k hk (by omega) hkF; grind
      · refine ⟨ud r (gvu q K n (q 61 18) (q_nu c j)) (gvd q n (q 61 18) (q_nu c j)), hd b_162_25 ?_, k2_tr (k2_ux ux_ud) j1, x, by rw [e27, e28]; exact j2, j3, fun k hk hki hkF => ?_, j5⟩
        · simp only [b_162_e, b_162_92, b_162_98, b_162_104, e_aloadr_0, kl_0, p_603_61, kl_1, p_604_61, k_0, e_istore_1, e_kpi, e_kpr, e_kpl, e_kpd, e_jsr, e_iload_1, k_24, e_icmp_ge, Option.toList_some, Option.toList_none, List.cons_append, List.nil_append, e_istore_2, e_iload_2, g_579_61, g_594_61, e_ishr, k_1, e_iand, e_icmp_ne, cc_M_findGiven_0, cc_M_findGiven_1, cc_M_findGiven_2, cc_M_findGiven_3, g_595_61, g_604_61, e_lmul, g_603_61, g_596_61, e_lcmp, e_if_le, e_iinc_2, e_goto, e_iinc_1, e_ret, eq_self, s1, lec (show n < 1000 by omega) hi, hbt, cc_M_findGiven_0 s1 s2 hi a3.1 hK s3 (fun s hs => (s3 s hs).1) hy, ud_u, ud_d, e27, e28, lg_cmp_le, nle64, hcmp', hlt, gvu, gvd, not_true_eq_false, not_false_eq_true, if_true, if_false, true_or, or_true, false_or, or_false, true_and, and_true, false_and, and_false, and_self, or_self, reduceIte, Bool.false_eq_true, i10, i01, e_inc1]
        · by_cases e : q_nu c k = q_nu c j
          · rw [nu_inj a1 hk hj e]; grind
          · exact j4 k hk (by omega) hkF
    · refine ⟨r, hd b_162_25 ?_, j1, x, j2, j3, fun k hk hki hkF => ?_, j5⟩
      · simp only [b_162_e, b_162_92, b_162_98, b_162_104, e_aloadr_0, kl_0, p_603_61, kl_1, p_604_61, k_0, e_istore_1, e_kpi, e_kpr, e_kpl, e_kpd, e_jsr, e_iload_1, k_24, e_icmp_ge, Option.toList_some, Option.toList_none, List.cons_append, List.nil_append, e_istore_2, e_iload_2, g_579_61, g_594_61, e_ishr, k_1, e_iand, e_icmp_ne, cc_M_findGiven_0, cc_M_findGiven_1, cc_M_findGiven_2, cc_M_findGiven_3, g_595_61, g_604_61, e_lmul, g_603_61, g_596_61, e_lcmp, e_if_le, e_iinc_2, e_goto, e_iinc_1, e_ret, eq_self, s1, lec (show n < 1000 by omega) hi, hbt, not_true_eq_false, not_false_eq_true, if_true, if_false, true_or, or_true, false_or, or_false, true_and, and_true, false_and, and_false, and_self, or_self, reduceIte, Bool.false_eq_true, i10, i01, e_inc1]
      · by_cases e : q_nu c k = i
        · exact absurd (hbit.mpr ⟨k, hk, e, hkF⟩) hbt
        · exact j4 k hk (by omega) hkF) ml ⟨k2_rf, b, hb, Rat.le_refl, fun j _ hj => by omega, Or.inl rfl⟩
  obtain ⟨j1, x, j2, j3, j4, j5⟩ := hJ
  refine ⟨r, hl, j1, ?_⟩
  have : x = d_mT c le b (q_m c) := max_one (F := q_F c le) (g := q_g c le) ⟨j3, fun j hj hF => j4 j hj (s7 j hj).1 hF, j5⟩ (d_mT_max (q_m c))
  rw [← this]; exact j2
theorem x_most {q : Nat → Nat → Int32} {ml : Nat → Nat → Int64} (hZ : rZ q n I nt c L off) (hT : LiT L nt) (hm : 0 < q_m c) : ∃ p r, ev E 162 (am_B 162 0) [.ref 61, am_dm, am_dm] [] (HH q ml) = some (none, HH p r) ∧ fq p q ∧ k2 r ml ∧ fr2 (r 61 27) (r 61 28) (d_most c (kL L off nt) 24) 1000000000000 := by
  simp only [b_162_e, b_162_92, b_162_98, b_162_104, e_aloadr_0, kl_0, p_603_61, kl_1, p_604_61, k_0, e_istore_1, e_kpi, e_kpr, e_kpl, e_kpd, e_jsr, e_iload_1, k_24, e_icmp_ge, Option.toList_some, Option.toList_none, List.cons_append, List.nil_append, e_istore_2, e_iload_2, g_579_61, g_594_61, e_ishr, k_1, e_iand, e_icmp_ne, cc_M_findGiven_0, cc_M_findGiven_1, cc_M_findGiven_2, cc_M_findGiven_3, g_595_61, g_604_61, e_lmul, g_603_61, g_596_61, e_lcmp, e_if_le, e_iinc_2, e_goto, e_iinc_1, e_ret, eq_self]
  obtain ⟨s', hl, hJ⟩ := loop_inv (fun i (s : (Nat → Nat → Int32) × (Nat → Nat → Int64) × Value) => ev E 162 (am_B 162 (Int.toNat 12)) [.ref 61, .int (nI i), s.2.2] [] (HH s.1 s.2.1)) (fun i s => fq s.1 q ∧ k2 s.2.1 ml ∧ fr2 (s.2.1 61 27) (s.2.1 61 28) (d_most c (kL L off nt) i) 1000000000000) 24 (fun i s hi hj => by
    obtain ⟨p, r, x⟩ := s
    obtain ⟨j1, j2, j3⟩ := hj
    dsimp only at j1 j2 j3 ⊢
    have hZp := rZ_h1 hZ (h1_fq j1)
    obtain ⟨p1, r1, e1, e2, e3, e4, e5⟩ := x_tick (E := E) (ml := r) hZp hT hi hm
    have cc1 : ∀ {M_ : Nat} {c_ : List Instr} {L_ : List Value}, ev E M_ (.invokevirtual 142 :: c_) L_ (.int (nI i) :: .ref 61 :: []) (HH p r) = ev E M_ c_ L_ [] (HH p1 r1) := fun {M_} {c_} {L_} => e_inv (as := [.ref 61, .int (nI i)]) (S := []) rfl rfl (Nat.le_of_ble_eq_true rfl) (rfl) (e1)
    obtain ⟨r2, w1, w2, w3⟩ := x_mostT (E := E) (ml := r1) (t := i) (b := d_most c (kL L off nt) i) e3 hm (by rw [e4 61 27 (by decide), e4 61 28 (by decide)]; exact j3)
    refine ⟨(p1, r2, .int (nI n)), hd b_162_12 ?_, fq_tr e2 j1, k2_tr w2 (k2_tr (k2_ux e4) j2), w3⟩
    have hend : ev E 162 (am_B 162 (Int.toNat 25)) [.ref 61, .int (nI i), .int (nI n)] [] (HH p1 r2) = ev E 162 (am_B 162 (Int.toNat 12)) [.ref 61, .int (nI (i + 1)), .int (nI n)] [] (HH p1 r2) := by
      refine hd b_162_25 ?_
      simp only [b_162_e, b_162_92, b_162_98, b_162_104, e_aloadr_0, kl_0, p_603_61, kl_1, p_604_61, k_0, e_istore_1, e_kpi, e_kpr, e_kpl, e_kpd, e_jsr, e_iload_1, k_24, e_icmp_ge, Option.toList_some, Option.toList_none, List.cons_append, List.nil_append, e_istore_2, e_iload_2, g_579_61, g_594_61, e_ishr, k_1, e_iand, e_icmp_ne, cc_M_findGiven_0, cc_M_findGiven_1, cc_M_findGiven_2, cc_M_findGiven_3, g_595_61, g_604_61, e_lmul, g_603_61, g_596_61, e_lcmp, e_if_le, e_iinc_2, e_goto, e_iinc_1, e_ret, eq_self, e3.1.1, lecc, not_true_eq_false, not_false_eq_true, if_true, if_false, true_or, or_true, false_or, or_false, true_and, and_true, false_and, and_false, and_self, or_self, reduceIte, Bool.false_eq_true, i10, i01, e_inc1]
    rw [← hend, ← w1]
    simp only [b_162_e, b_162_92, b_162_98, b_162_104, e_aloadr_0, kl_0, p_603_61, kl_1, p_604_61, k_0, e_istore_1, e_kpi, e_kpr, e_kpl, e_kpd, e_jsr, e_iload_1, k_24, e_icmp_ge, Option.toList_some, Option.toList_none, List.cons_append, List.nil_append, e_istore_2, e_iload_2, g_579_61, g_594_61, e_ishr, k_1, e_iand, e_icmp_ne, cc_M_findGiven_0, cc_M_findGiven_1, cc_M_findGiven_2, cc_M_findGiven_3, g_595_61, g_604_61, e_lmul, g_603_61, g_596_61, e_lcmp, e_if_le, e_iinc_2, e_goto, e_iinc_1, e_ret, eq_self, le24 hi, cc1, not_true_eq_false, not_false_eq_true, if_true, if_false, true_or, or_true, false_or, or_false, true_and, and_true, false_and, and_false, and_self, or_self, reduceIte, Bool.false_eq_true, i10, i01]
    rfl) (q, am_up (am_up ml 61 27 0) 61 28 1, am_dm) ⟨fq_rf, fun a b h => by dsimp only; rw [am_upa, if_neg (by omega), am_upa, if_neg (by omega)], by dsimp only; rw [am_up_self, am_upa, if_neg (by decide), am_up_self]; exact fr2_01⟩
  obtain ⟨p, r, x⟩ := s'
  obtain ⟨j1, j2, j3⟩ := hJ
  dsimp only at hl j1 j2 j3
  refine ⟨p, r, Eq.trans (show _ = _ from hl) (hd b_162_12 ?_), j1, j2, j3⟩
  simp only [b_162_e, b_162_92, b_162_98, b_162_104, e_aloadr_0, kl_0, p_603_61, kl_1, p_604_61, k_0, e_istore_1, e_kpi, e_kpr, e_kpl, e_kpd, e_jsr, e_iload_1, k_24, e_icmp_ge, Option.toList_some, Option.toList_none, List.cons_append, List.nil_append, e_istore_2, e_iload_2, g_579_61, g_594_61, e_ishr, k_1, e_iand, e_icmp_ne, cc_M_findGiven_0, cc_M_findGiven_1, cc_M_findGiven_2, cc_M_findGiven_3, g_595_61, g_604_61, e_lmul, g_603_61, g_596_61, e_lcmp, e_if_le, e_iinc_2, e_goto, e_iinc_1, e_ret, eq_self, le2424, not_true_eq_false, not_false_eq_true, if_true, if_false, true_or, or_true, false_or, or_false, true_and, and_true, false_and, and_false, and_self, or_self, reduceIte, Bool.false_eq_true, i10, i01]
def mSw (q : Nat → Nat → Int32) (s : Nat) : Int := (q 66 s).toInt
theorem x_trip {q : Nat → Nat → Int32} {ml : Nat → Nat → Int64} {le : qL} {K : Nat} (hE : rE q n I K c le) (hm : 0 < q_m c) (hW : ∀ s, s < n → (q 66 s).toInt.natAbs ≤ 100000) : ∃ r, ev E 166 (am_B 166 0) [.ref 61, am_dm] [] (HH q ml) = some (some (.int (if d_trip c le (mSw q) = true then 1 else 0)), HH q r) ∧ k2 r ml := by
  obtain ⟨a1, a2, a3, a4, a5⟩ := id hE
  obtain ⟨s1, s2, s3, s4, s5, s6, s7, s8, s9⟩ := id a1
  have hK := r_K a3
  have hy := r_y a3
  simp only [b_166_e, b_166_53, b_166_59, k_0, e_istore_1, e_kpi, e_kpr, e_kpl, e_kpd, e_jsr, e_iload_1, e_aloadr_0, g_579_61, e_icmp_ge, g_594_61, e_ishr, k_1, e_iand, e_icmp_ne, cc_M_findGiven_0, cc_M_findGiven_1, cc_M_findGiven_2, cc_M_findGiven_3, Option.toList_some, Option.toList_none, List.cons_append, List.nil_append, g_595_61, g_583_61, il_62, il_63, il_64, il_66, il_67, il_68, il_69, il_70, il_71, il_72, il_73, il_74, il_75, il_76, il_77, ik_62_0, ik_62_1, ik_62_2, ik_62_3, ik_62_4, ik_73_0, ik_74_0, e_i2l, g_596_61, e_lmul, e_lcmp, e_if_lt, e_zret0, e_zret1, e_iinc_1, e_goto, eq_self]
  refine loop_ex (fun i (s : (Nat → Nat → Int64)) => ev E 166 (am_B 166 (Int.toNat 2)) [.ref 61, .int (nI i)] [] (HH q s)) (fun i s => k2 s ml ∧ ∀ j, j < q_m c → q_nu c j < i → ¬ (q_F c le j = true ∧ qI (mSw q (q_nu c j)) ≤ q_g c le j)) (fun x => ∃ r, x = some (some (.int (if d_trip c le (mSw q) = true then 1 else 0)), HH q r) ∧ k2 r ml) n (fun i r hi hj => ?_) (fun r hj => ?_) ml ⟨k2_rf, fun j _ h => by omega⟩
  · obtain ⟨j1, j2⟩ := hj
    have hi5 : i < 5 := by omega
    have hbit := x_bit hE hi
    by_cases hbt : q 61 18 >>> (nI i &&& 31) &&& 1 = 1
    · obtain ⟨j, hj, rfl, hF⟩ := hbit.mp hbt
      have hg := x_give hE hm hj hF
      have hge := fr2_ge (T := q 66 (q_nu c j)) hg (Nat.le_refl _) (by have := hW _ hi; omega)
      have hge' := hge
      unfold gvu gvd at hge'
      by_cases h1 : qI (mSw q (q_nu c j)) ≤ q_g c le j
      · left
        have ht : d_trip c le (mSw q) = true := anyB_iff.mpr ⟨j, hj, by simp [hF, h1]⟩
        have hlt := eq_false (p := Int64.ofInt (gvU q K (q 64 (q_nu c j)).toInt (nbL q (q 61 18) (q 64 (q_nu c j) - 1) n) (nbR q (q 61 18) (q 64 (q_nu c j) + 1) n)) < (q 66 (q_nu c j)).toInt64 * Int64.ofInt (gvD q (q 64 (q_nu c j)).toInt (nbL q (q 61 18) (q 64 (q_nu c j) - 1) n) (nbR q (q 61 18) (q 64 (q_nu c j) + 1) n))) (by rw [Int64.not_lt, hge']; exact h1)
        refine ⟨ud r (gvu q K n (q 61 18) (q_nu c j)) (gvd q n (q 61 18) (q_nu c j)), hd b_166_2 ?_, k2_tr (k2_ux ux_ud) j1⟩
        simp only [b_166_e, b_166_53, b_166_59, k_0, e_istore_1, e_kpi, e_kpr, e_kpl, e_kpd, e_jsr, e_iload_1, e_aloadr_0, g_579_61, e_icmp_ge, g_594_61, e_ishr, k_1, e_iand, e_icmp_ne, cc_M_findGiven_0, cc_M_findGiven_1, cc_M_findGiven_2, cc_M_findGiven_3, Option.toList_some, Option.toList_none, List.cons_append, List.nil_append, g_595_61, g_583_61, il_62, il_63, il_64, il_66, il_67, il_68, il_69, il_70, il_71, il_72, il_73, il_74, il_75, il_76, il_77, ik_62_0, ik_62_1, ik_62_2, ik_62_3, ik_62_4, ik_73_0, ik_74_0, e_i2l, g_596_61, e_lmul, e_lcmp, e_if_lt, e_zret0, e_zret1, e_iinc_1, e_goto, eq_self, s1, lec (show n < 1000 by omega) hi, hi5, hbt, cc_M_findGiven_0 s1 s2 hi a3.1 hK s3 (fun s hs => (s3 s hs).1) hy, ud_u, ud_d, lg_cmp_lt, hlt, ht, gvu, gvd, not_true_eq_false, not_false_eq_true, if_true, if_false, true_or, or_true, false_or, or_false, true_and, and_true, false_and, and_false, and_self, or_self, reduceIte, Bool.false_eq_true, i10, i01, e_inc1]
      · right
        have hlt := eq_true (p := Int64.ofInt (gvU q K (q 64 (q_nu c j)).toInt (nbL q (q 61 18) (q 64 (q_nu c j) - 1) n) (nbR q (q 61 18) (q 64 (q_nu c j) + 1) n)) < (q 66 (q_nu c j)).toInt64 * Int64.ofInt (gvD q (q 64 (q_nu c j)).toInt (nbL q (q 61 18) (q 64 (q_nu c j) - 1) n) (nbR q (q 61 18) (q 64 (q_nu c j) + 1) n))) (by rw [← Int64.not_le, hge']; exact h1)
        refine ⟨ud r (gvu q K n (q 61 18) (q_nu c j)) (gvd q n (q 61 18) (q_nu c j)), hd b_166_2 ?_, k2_tr (k2_ux ux_ud) j1, fun k hk hki => ?_⟩
        · simp only [b_166_e, b_166_53, b_166_59, k_0, e_istore_1, e_kpi, e_kpr, e_kpl, e_kpd, e_jsr, e_iload_1, e_aloadr_0, g_579_61, e_icmp_ge, g_594_61, e_ishr, k_1, e_iand, e_icmp_ne, cc_M_findGiven_0, cc_M_findGiven_1, cc_M_findGiven_2, cc_M_findGiven_3, Option.toList_some, Option.toList_none, List.cons_append, List.nil_append, g_595_61, g_583_61, il_62, il_63, il_64, il_66, il_67, il_68, il_69, il_70, il_71, il_72, il_73, il_74, il_75, il_76, il_77, ik_62_0, ik_62_1, ik_62_2, ik_62_3, ik_62_4, ik_73_0, ik_74_0, e_i2l, g_596_61, e_lmul, e_lcmp, e_if_lt, e_zret0, e_zret1, e_iinc_1, e_goto, eq_self, s1, lec (show n < 1000 by omega) hi, hi5, hbt, cc_M_findGiven_0 s1 s2 hi a3.1 hK s3 (fun s hs => (s3 s hs).1) hy, ud_u, ud_d, lg_cmp_lt, hlt, gvu, gvd, not_true_eq_false, not_false_eq_true, if_true, if_false, true_or, or_true, false_or, or_false, true_and, and_true, false_and, and_false, and_self, or_self, reduceIte, Bool.false_eq_true, i10, i01, e_inc1]
        · by_cases e : q_nu c k = q_nu c j
          · rw [nu_inj a1 hk hj e]; exact fun z => h1 z.2
          · exact j2 k hk (by omega)
    · right
      refine ⟨r, hd b_166_2 ?_, j1, fun k hk hki => ?_⟩
      · simp only [b_166_e, b_166_53, b_166_59, k_0, e_istore_1, e_kpi, e_kpr, e_kpl, e_kpd, e_jsr, e_iload_1, e_aloadr_0, g_579_61, e_icmp_ge, g_594_61, e_ishr, k_1, e_iand, e_icmp_ne, cc_M_findGiven_0, cc_M_findGiven_1, cc_M_findGiven_2, cc_M_findGiven_3, Option.toList_some, Option.toList_none, List.cons_append, List.nil_append, g_595_61, g_583_61, il_62, il_63, il_64, il_66, il_67, il_68, il_69, il_70, il_71, il_72, il_73, il_74, il_75, il_76, il_77, ik_62_0, ik_62_1, ik_62_2, ik_62_3, ik_62_4, ik_73_0, ik_74_0, e_i2l, g_596_61, e_lmul, e_lcmp, e_if_lt, e_zret0, e_zret1, e_iinc_1, e_goto, eq_self, s1, lec (show n < 1000 by omega) hi, hi5, hbt, not_true_eq_false, not_false_eq_true, if_true, if_false, true_or, or_true, false_or, or_false, true_and, and_true, false_and, and_false, and_self, or_self, reduceIte, Bool.false_eq_true, i10, i01, e_inc1]
      · by_cases e : q_nu c k = i
        · exact fun z => absurd (hbit.mpr ⟨k, hk, e, z.1⟩) hbt
        · exact j2 k hk (by omega)
  · obtain ⟨j1, j2⟩ := hj
    have ht : d_trip c le (mSw q) = false := by
      cases h : d_trip c le (mSw q) with
      | false => rfl
      | true =>
        obtain ⟨k, hk, h2⟩ := anyB_iff.mp h
        simp only [Bool.and_eq_true, decide_eq_true_eq] at h2
        exact absurd h2 (j2 k hk (s7 k hk).1)
    refine ⟨r, hd b_166_2 ?_, j1⟩
    simp only [b_166_e, b_166_53, b_166_59, k_0, e_istore_1, e_kpi, e_kpr, e_kpl, e_kpd, e_jsr, e_iload_1, e_aloadr_0, g_579_61, e_icmp_ge, g_594_61, e_ishr, k_1, e_iand, e_icmp_ne, cc_M_findGiven_0, cc_M_findGiven_1, cc_M_findGiven_2, cc_M_findGiven_3, Option.toList_some, Option.toList_none, List.cons_append, List.nil_append, g_595_61, g_583_61, il_62, il_63, il_64, il_66, il_67, il_68, il_69, il_70, il_71, il_72, il_73, il_74, il_75, il_76, il_77, ik_62_0, ik_62_1, ik_62_2, ik_62_3, ik_62_4, ik_73_0, ik_74_0, e_i2l, g_596_61, e_lmul, e_lcmp, e_if_lt, e_zret0, e_zret1, e_iinc_1, e_goto, eq_self, s1, lecc, ht, not_true_eq_false, not_false_eq_true, if_true, if_false, true_or, or_true, false_or, or_false, true_and, and_true, false_and, and_false, and_self, or_self, reduceIte, Bool.false_eq_true, i10, i01]
theorem x_fault {q : Nat → Nat → Int32} {ml : Nat → Nat → Int64} {x f : Int32} (hS : rS q n I c) (hR : rR q c) (hm : 0 < q_m c) (hx : bd x) (hf : 0 ≤ f.toInt ∧ f.toInt ≤ 100000) : ∃ p r, ev E 164 (am_B 164 0) [.ref 61, .int x, .int f] [] (HH q ml) = some (none, HH p r) ∧ rE p n I 1 c (fL x.toInt f.toInt) ∧ fq p q ∧ k2 r ml := by
  have e1 : ∀ a b, ¬ (a = 61 ∧ b = 15) → ¬ a = 73 → ¬ a = 74 → am_up (am_up (am_up q 61 15 1) 73 0 x) 74 0 f a b = q a b := fun a b h1 h2 h3 => by
    rw [am_upa, if_neg (fun z => h3 z.1), am_upa, if_neg (fun z => h2 z.1), am_upa, if_neg h1]
  have hcn : cntB (q_th (fL x.toInt f.toInt)) 5 = 1 := rfl
  have hL : rL (am_up (am_up (am_up q 61 15 1) 73 0 x) 74 0 f) 1 (fL x.toInt f.toInt) := by
    refine ⟨by rw [am_upa, if_neg (by decide), am_upa, if_neg (by decide), am_up_self]; rfl, rfl, fun k hk => ?_⟩
    have eth : q_th (fL x.toInt f.toInt) k = decide (k = 0) := rfl
    have eam : q_am (fL x.toInt f.toInt) k = if k = 0 then f.toInt else 0 := rfl
    rw [eth, eam]
    by_cases h0 : k = 0
    · subst h0
      have ec : cntB (q_th (fL x.toInt f.toInt)) 0 = 0 := rfl
      rw [ec]
      unfold mY mA
      refine ⟨fun _ => ⟨?_, ?_, ?_⟩, ?_, fun h => by simp at h⟩
      · rw [am_upa, if_neg (by decide), am_up_self]; exact hx
      · rw [am_upa, if_neg (by decide), am_up_self]; rfl
      · rw [am_up_self, if_pos rfl]
      · rw [if_pos rfl]; omega
    · refine ⟨fun h => by simp [h0] at h, ?_, fun _ => by rw [if_neg h0]⟩
      rw [if_neg h0]; decide
  have hS' : rS (am_up (am_up (am_up q 61 15 1) 73 0 x) 74 0 f) n I c := rS_of hS (e1 61 3 (by decide) (by decide) (by decide)) (fun b => e1 64 b (by simp) (by decide) (by decide)) (fun b => e1 65 b (by simp) (by decide) (by decide))
  have hR' : rR (am_up (am_up (am_up q 61 15 1) 73 0 x) 74 0 f) c := rR_of hR (fun b => e1 62 b (by simp) (by decide) (by decide))
  obtain ⟨r, w1, w2⟩ := x_ff (E := E) (ml := ml) hS' hR' hL hm
  have cc1 : ∀ {M_ : Nat} {c_ : List Instr} {L_ : List Value} {s0_ : Value}, ev E M_ (.invokevirtual 144 :: c_) L_ (.ref 61 :: [s0_]) (HH (am_up (am_up (am_up q 61 15 1) 73 0 x) 74 0 f) ml) = ev E M_ c_ L_ (.int (fdc c (fL x.toInt f.toInt)) :: [s0_]) (HH (am_up (am_up (am_up q 61 15 1) 73 0 x) 74 0 f) r) := fun {M_} {c_} {L_} {s0_} => e_inv (as := [.ref 61]) (S := [s0_]) rfl rfl (Nat.le_of_ble_eq_true rfl) (rfl) (w1)
  have hsum : sumI (q_am (fL x.toInt f.toInt)) 5 = f.toInt := by
    show 0 + f.toInt + 0 + 0 + 0 + 0 = f.toInt
    omega
  have h0 : 0 ≤ sumI (q_am (fL x.toInt f.toInt)) 5 := by rw [hsum]; exact hf.1
  refine ⟨am_up (am_up (am_up (am_up q 61 15 1) 73 0 x) 74 0 f) 61 18 (fdc c (fL x.toInt f.toInt)), r, ?_, ⟨?_, ?_, ?_, ?_, h0⟩, fun a b g1 g2 g3 g4 => ?_, k2_ux w2⟩
  · simp only [b_164_e, e_aloadr_0, k_1, p_591_61, g_592_61, k_0, e_iload_1, is_62, is_63, is_64, is_66, is_67, is_68, is_69, is_70, is_71, is_72, is_73, is_74, is_75, is_76, is_77, iks_73_0, iks_74_0, g_593_61, e_iload_2, cc_M_findFeeding_0, cc_M_findFeeding_1, cc_M_findFeeding_2, cc_M_findFeeding_3, Option.toList_some, Option.toList_none, List.cons_append, List.nil_append, p_594_61, e_ret, eq_self, cc1, not_true_eq_false, not_false_eq_true, if_true, if_false, true_or, or_true, false_or, or_false, true_and, and_true, false_and, and_false, and_self, or_self, reduceIte, Bool.false_eq_true, i10, i01]
  · exact rS_of hS' (by rw [am_upa, if_neg (by decide)]) (fun b => by rw [am_upa, if_neg (by simp)]) (fun b => by rw [am_upa, if_neg (by simp)])
  · exact rR_of hR' (fun b => by rw [am_upa, if_neg (by simp)])
  · exact rL_of hL (by rw [am_upa, if_neg (by decide)]) (fun b => by rw [am_upa, if_neg (by simp)]) (fun b => by rw [am_upa, if_neg (by simp)])
  · rw [am_up_self]; unfold fdc; rw [if_pos h0]
  · rw [am_upa, if_neg (by omega), e1 a b (by omega) g2 g3]
theorem x_busy {q : Nat → Nat → Int32} {ml : Nat → Nat → Int64} (hW : rW q nt L off) (hT : LiT L nt) : ∃ p, ev E 173 (am_B 173 0) [.ref 61, am_dm, am_dm] [] (HH q ml) = some (some (.int (nI (d_busy L off nt))), HH p ml) ∧ fq p q := by
  simp only [b_173_e, b_173_27, b_173_28, b_173_36, k_0, e_istore_1, e_kpi, e_kpr, e_kpl, e_kpd, e_istore_2, e_jsr, e_iload_2, k_24, e_icmp_ge, e_aloadr_0, Option.toList_some, Option.toList_none, List.cons_append, List.nil_append, e_iload_1, g_591_61, e_if_le, k_1, e_goto, e_iadd, e_iinc_2, e_iret, eq_self]
  obtain ⟨p, hl, hJ⟩ := loop_inv (fun i (s : (Nat → Nat → Int32)) => ev E 173 (am_B 173 (Int.toNat 4)) [.ref 61, .int (nI (cntB (fun t => anyB (q_th (kL L off nt t)) nt) i)), .int (nI i)] [] (HH s ml)) (fun i s => fq s q) 24 (fun i p hi j1 => by
    have hWp : rW p nt L off := by
      obtain ⟨w1, w2, w3, w4⟩ := hW
      have e : ∀ a b, 62 ≤ a ∧ a ≤ 72 → p a b = q a b := fun a b z => j1 a b (by omega) (by omega) (by omega) (by omega)
      exact ⟨by rw [j1 61 8 (by decide) (by decide) (by decide) (by decide)]; exact w1, fun k hk => by rw [e 69 k (by omega)]; exact w2 k hk, fun k hk t ht => by rw [e 67 _ (by omega), e 68 _ (by omega)]; exact w3 k hk t ht, fun j hj => by rw [e 67 j (by omega)]; exact w4 j hj⟩
    obtain ⟨p1, e1, e2, e3, _, _⟩ := x_lay (E := E) (ml := ml) (rW_D hWp hT hi) hi
    have cc1 : ∀ {M_ : Nat} {c_ : List Instr} {L_ : List Value}, ev E M_ (.invokevirtual 143 :: c_) L_ (.int (nI i) :: .ref 61 :: []) (HH p ml) = ev E M_ c_ L_ [] (HH p1 ml) := fun {M_} {c_} {L_} => e_inv (as := [.ref 61, .int (nI i)]) (S := []) rfl rfl (Nat.le_of_ble_eq_true rfl) (rfl) (e1)
    have hcl := cntB_le (f := q_th (kL L off nt i)) (n := 5)
    refine ⟨p1, hd b_173_4 ?_, fq_tr e2 j1⟩
    by_cases ha : anyB (q_th (kL L off nt i)) nt = true
    · obtain ⟨k, hk, ht⟩ := anyB_iff.mp ha
      have hp := cntB_pos (n := 5) (show k < 5 by have := hT.1; omega) ht
      have hle : (nI (cntB (q_th (kL L off nt i)) 5) ≤ 0) = False := eq_false (nI_nle hp (by omega))
      rw [cntB_step (f := fun t => anyB (q_th (kL L off nt t)) nt) ha]
      simp only [b_173_e, b_173_27, b_173_28, b_173_36, k_0, e_istore_1, e_kpi, e_kpr, e_kpl, e_kpd, e_istore_2, e_jsr, e_iload_2, k_24, e_icmp_ge, e_aloadr_0, Option.toList_some, Option.toList_none, List.cons_append, List.nil_append, e_iload_1, g_591_61, e_if_le, k_1, e_goto, e_iadd, e_iinc_2, e_iret, eq_self, le24 hi, cc1, e3.1, hle, nI_1, not_true_eq_false, not_false_eq_true, if_true, if_false, true_or, or_true, false_or, or_false, true_and, and_true, false_and, and_false, and_self, or_self, reduceIte, Bool.false_eq_true, i10, i01, e_inc1]
    · have hz : cntB (q_th (kL L off nt i)) 5 = 0 := by
        rcases Nat.eq_zero_or_pos (cntB (q_th (kL L off nt i)) 5) with z | z
        · exact z
        · obtain ⟨k, k1, k2, _⟩ := cntB_at z
          have h2 : kth L off nt i k = true := k2
          have h3 := h2
          unfold kth at h3
          rw [decide_eq_true_eq] at h3
          exact absurd (anyB_iff.mpr ⟨k, h3.1, k2⟩) ha
      have hle : (nI 0 ≤ 0) = True := eq_true (by decide +kernel)
      have e15 : p1 61 15 = nI 0 := by rw [e3.1, hz]
      rw [cntB_skip (f := fun t => anyB (q_th (kL L off nt t)) nt) (by simpa using ha)]
      simp only [b_173_e, b_173_27, b_173_28, b_173_36, k_0, e_istore_1, e_kpi, e_kpr, e_kpl, e_kpd, e_istore_2, e_jsr, e_iload_2, k_24, e_icmp_ge, e_aloadr_0, Option.toList_some, Option.toList_none, List.cons_append, List.nil_append, e_iload_1, g_591_61, e_if_le, k_1, e_goto, e_iadd, e_iinc_2, e_iret, eq_self, le24 hi, cc1, e15, hle, Int32.add_zero, not_true_eq_false, not_false_eq_true, if_true, if_false, true_or, or_true, false_or, or_false, true_and, and_true, false_and, and_false, and_self, or_self, reduceIte, Bool.false_eq_true, i10, i01, e_inc1]) q fq_rf
  refine ⟨p, Eq.trans (show _ = _ from hl) (hd b_173_4 ?_), hJ⟩
  simp only [b_173_e, b_173_27, b_173_28, b_173_36, k_0, e_istore_1, e_kpi, e_kpr, e_kpl, e_kpd, e_istore_2, e_jsr, e_iload_2, k_24, e_icmp_ge, e_aloadr_0, Option.toList_some, Option.toList_none, List.cons_append, List.nil_append, e_iload_1, g_591_61, e_if_le, k_1, e_goto, e_iadd, e_iinc_2, e_iret, eq_self, le2424, not_true_eq_false, not_false_eq_true, if_true, if_false, true_or, or_true, false_or, or_false, true_and, and_true, false_and, and_false, and_self, or_self, reduceIte, Bool.false_eq_true, i10, i01]
  rfl
end Rm
