/-! WHAT IS TOLD OF SHARES; the class's usedBy, givenBy -/
def q_cut (r : Rat) (N : Int) : Int := (r.num * N).tdiv (r.den : Int)
def q_told (r : Rat) (w : Int32) : Int := tell0 r.num (r.den : Int) w
theorem q_nd (r : Rat) : qI r.num = r * qI (r.den : Int) ∧ 0 < (r.den : Int) := by
  have hp : 0 < (r.den : Int) := by have := r.den_pos; omega
  refine ⟨?_, hp⟩
  have h := Rat.num_divInt_den r
  rw [Rat.divInt_eq_div] at h
  have h' : qI r.num / qI (r.den : Int) = r := h
  have hz : 0 < qI (r.den : Int) := qI_lt.mpr hp
  generalize qI (r.den : Int) = d at *
  generalize qI r.num = n at *
  grind
theorem told_q {U D : Int} {r : Rat} {w : Int32} (hD : 0 < D) (h : qI U = r * qI D) : tell0 U D w = q_told r w := tell_cg hD (q_nd r).2 h (q_nd r).1
theorem cut_q {U D N : Int} {r : Rat} (hD : 0 < D) (h : qI U = r * qI D) : (U * N).tdiv D = q_cut r N := cut_cg hD (q_nd r).2 h (q_nd r).1
def d_gv (c : qC) (le : qL) (s : Nat) : Nat → Rat
  | 0 => 0
  | i + 1 => if q_F c le i = true ∧ q_nu c i = s then q_g c le i else d_gv c le s i
/-- what station s gives -/
def d_gives (c : qC) (le : qL) (s : Nat) : Rat := d_gv c le s (q_m c)
def d_used (c : qC) (l : Nat → qL) (n : Nat) : Nat → Int64
  | 0 => 0
  | t + 1 => d_used c l n t + (if q_th (l t) n = true then Int64.ofInt (q_cut (q_vn c (q_end c (l t)) n) (q_am (q_end c (l t)) n)) else 0)
def d_given (c : qC) (l : Nat → qL) (V : Int) (s : Nat) : Nat → Int64
  | 0 => 0
  | t + 1 => d_given c l V s t + Int64.ofInt (q_cut (d_gives c (q_end c (l t)) s) V)
theorem gb_q {p : Nat → Nat → Int32} {r : Nat → Nat → Int64} {c : qC} {le : qL} {s k : Nat} (hk : am_LAY[k]? = some (.inl 4)) (hs : s < 5) (hE : cE p r c le) : ∀ i, i ≤ q_m c → fr2 (gbF p r (nI s) k i k 0) (gbF p r (nI s) k i k 1) (d_gv c le s i) 1000000000000 := by
  intro i
  induction i with
  | zero =>
    intro _
    rw [gbF, shr_0, shr_1]
    exact fr2_01
  | succ i ih =>
    intro hi
    obtain ⟨g1, g2⟩ := hE.2.2.2 i (by omega)
    obtain ⟨_, _, n1, n2⟩ := hE.1.2.2.1 i (by omega)
    rw [gbF, d_gv]
    simp only [g1, n1, eqN n2 hs]
    by_cases h : q_F c le i = true ∧ q_nu c i = s
    · rw [if_pos h, if_pos h, shr_0, shr_1]
      exact fr2_mono (g2 h.1) (by decide)
    · rw [if_neg h, if_neg h]
      exact ih (by omega)
theorem fr2_times {u d : Int64} {r : Rat} {B : Nat} {N : Int} (h : fr2 u d r B) (hB : B ≤ 1000000000000) (hN : N.natAbs ≤ 100000) : ∃ U D : Int, u = Int64.ofInt U ∧ d = Int64.ofInt D ∧ (U * N).natAbs < 4611686018427387904 ∧ (0 < D ∧ D < 1099511627776) ∧ (U * N).tdiv D = q_cut r N := by
  obtain ⟨a, b, h1, h2, b1, b2, b3, b4⟩ := h
  have m1 := mul_bd (A := 1000000000000) (B := 100000) (a := a) (b := N) (by omega) hN
  exact ⟨a, b, h1, h2, by omega, ⟨b1, by omega⟩, cut_q b1 b4⟩
theorem fr2_told {u d : Int64} {r : Rat} {B : Nat} (w : Int32) (h : fr2 u d r B) (hB : B ≤ 1000000000000) : ∃ U D : Int, u = Int64.ofInt U ∧ d = Int64.ofInt D ∧ U.natAbs < 4611686018427387904 ∧ (0 < D ∧ D < 1099511627776) ∧ tell0 U D w = q_told r w := by
  obtain ⟨a, b, h1, h2, b1, b2, b3, b4⟩ := h
  exact ⟨a, b, h1, h2, by omega, ⟨b1, by omega⟩, told_q b1 b4⟩
section Us
variable {E : aE} {q : Nat → Nat → Int32} {ml : Nat → Nat → Int64} {c : qC} {L : Nat → Nat → Int32} {off : Nat → Nat} {nt : Nat}
theorem d_gives_z {le : qL} {s : Nat} (h : ∀ n, n < 5 → q_am le n = 0) : d_gives c le s = 0 := by
  unfold d_gives
  have : ∀ i, d_gv c le s i = 0 := by
    intro i
    induction i with
    | zero => rfl
    | succ i ih => rw [d_gv, ih, q_g_z h]; split <;> rfl
  exact this _
theorem q_cut_0 {N : Int} : q_cut 0 N = 0 := by
  have : (0 : Rat).num = 0 := rfl
  unfold q_cut
  rw [this, Int.zero_mul]
  exact Int.zero_tdiv _
theorem y_used {n : Nat} (hn : n < nt) (hc : cT q c L off nt 5) (hm : 0 < q_m c) (hT : LiT L nt) : ∃ p r, ev E 88 (am_B 88 0) [.ref 26, .int (nI n), am_dm, am_dm, am_dm] [] (HH q ml) = some (some (.long (d_used c (kL L off nt) n 24)), HH p r) ∧ f1 p q ∧ g1 r ml := by
  have hn5 : n < 5 := by have := hT.1; omega
  simp only [b_88_e, b_88_85, b_88_91, kl_0, e_lstore_2, e_kpi, e_kpr, e_kpl, e_kpd, k_0, e_istore_4, e_jsr, e_iload_4, k_24, e_icmp_ge, e_aloadr_0, g_73_26, g_131_1, cc_Day_takeLoads_0, cc_Day_takeLoads_1, cc_Day_takeLoads_2, cc_Day_takeLoads_3, Option.toList_some, Option.toList_none, List.cons_append, List.nil_append, e_pop, g_64_26, g_6_34, e_iload_1, il_37, il_40, e_if_eq, cc_Circuit_settle_0, cc_Circuit_settle_1, cc_Circuit_settle_2, cc_Circuit_settle_3, g_7_34, il_2, il_5, il_33, il_35, il_36, il_41, il_42, il_tp, il_ta, il_sc, il_po, ik_2_0, ik_2_1, ik_2_2, ik_2_3, ik_2_4, g_74_26, cc_Circuit_voltsAt_0, cc_Circuit_voltsAt_1, cc_Circuit_voltsAt_2, cc_Circuit_voltsAt_3, e_lload_2, g_8_34, e_i2l, cc_Share_times_0, cc_Share_times_1, cc_Share_times_2, cc_Share_times_3, lay_27, lay_28, lay_30, lay_31, lay_32, lay_43, lay_44, lay_46, lay_49, lay_60, e_ladd, e_iinc_4, e_goto, e_lret, eq_self]
  obtain ⟨s', hl, hJ⟩ := loop_inv (fun i (s : (Nat → Nat → Int32) × (Nat → Nat → Int64)) => ev E 88 (am_B 88 (Int.toNat 5)) [.ref 26, .int (nI n), .long (d_used c (kL L off nt) n i), am_dm, .int (nI i)] [] (HH s.1 s.2)) (fun i s => f1 s.1 q ∧ g1 s.2 ml) 24 (fun i s hi hj => by
    obtain ⟨p, r⟩ := s
    obtain ⟨j1, j2⟩ := hj
    dsimp only at j1 j2 ⊢
    have hcp := cT_f1 (Or.inl rfl) hc j1
    obtain ⟨k1, k2, k3, k4⟩ := cT_tick hcp hm hT hi r
    obtain ⟨hll, _⟩ := c_load (k := 5) hT hi hcp.2.2.2.1 (fun n hn => (hcp.2.2.2.2 n hn).2)
    have eth := (hll n hn5).1
    have hth : q_th (q_end c (kL L off nt i)) = q_th (kL L off nt i) := (q_sol_th c 46 _).1
    rw [d_used]
    cases ht : q_th (kL L off nt i) n with
    | false =>
      have h40 : tkl p 5 i nt 40 n = 0 := by rw [ht] at eth; unfold cTh at eth; simpa using eth
      refine ⟨(tkl p 5 i nt, r), hd b_88_5 ?_, f1_tr f1_tkl j1, j2⟩
      rw [if_neg (by decide), Int64.add_zero]
      simp only [b_88_e, b_88_85, b_88_91, kl_0, e_lstore_2, e_kpi, e_kpr, e_kpl, e_kpd, k_0, e_istore_4, e_jsr, e_iload_4, k_24, e_icmp_ge, e_aloadr_0, g_73_26, g_131_1, cc_Day_takeLoads_0, cc_Day_takeLoads_1, cc_Day_takeLoads_2, cc_Day_takeLoads_3, Option.toList_some, Option.toList_none, List.cons_append, List.nil_append, e_pop, g_64_26, g_6_34, e_iload_1, il_37, il_40, e_if_eq, cc_Circuit_settle_0, cc_Circuit_settle_1, cc_Circuit_settle_2, cc_Circuit_settle_3, g_7_34, il_2, il_5, il_33, il_35, il_36, il_41, il_42, il_tp, il_ta, il_sc, il_po, ik_2_0, ik_2_1, ik_2_2, ik_2_3, ik_2_4, g_74_26, cc_Circuit_voltsAt_0, cc_Circuit_voltsAt_1, cc_Circuit_voltsAt_2, cc_Circuit_voltsAt_3, e_lload_2, g_8_34, e_i2l, cc_Share_times_0, cc_Share_times_1, cc_Share_times_2, cc_Share_times_3, lay_27, lay_28, lay_30, lay_31, lay_32, lay_43, lay_44, lay_46, lay_49, lay_60, e_ladd, e_iinc_4, e_goto, e_lret, eq_self, le24 hi, cc_Day_takeLoads_0 (Or.inl rfl) hi hcp.2.2.1 hT.1 (fun n hn => (hcp.2.2.2.2 n hn).1), hn5, h40, not_true_eq_false, not_false_eq_true, if_true, if_false, true_or, or_true, false_or, or_false, true_and, and_true, false_and, and_false, and_self, or_self, reduceIte, Bool.false_eq_true, i10, i01, e_inc1]
    | true =>
      have h40 : ¬ tkl p 5 i nt 40 n = 0 := by rw [ht] at eth; unfold cTh at eth; simpa using eth
      obtain ⟨v1, v2⟩ := y_volt k1 hn5 (by rw [hth]; exact ht)
      have hB := c_CB k1.1 k1.2.1 k1.2.2.1
      have eA : (stL (q_m c) 46 (tkl p 5 i nt) r).1 42 n = (stL (q_m c) 46 (tkl p 5 i nt) r).1 42 n := rfl
      have hA : ((stL (q_m c) 46 (tkl p 5 i nt) r).1 42 n).toInt64 = Int64.ofInt (q_am (q_end c (kL L off nt i)) n) := by rw [i64_of]; exact congrArg Int64.ofInt (k1.2.2.1 n hn5).2.2.1
      obtain ⟨U, D, u1, u2, u3, u4, u5⟩ := fr2_times (N := q_am (q_end c (kL L off nt i)) n) v1 (Nat.le_refl _) (k1.2.2.1 n hn5).2.2.2.1
      refine ⟨((stL (q_m c) 46 (tkl p 5 i nt) r).1, shr (stL (q_m c) 46 (tkl p 5 i nt) r).2 31 (Int64.ofInt U) (Int64.ofInt D)), hd b_88_5 ?_, f1_tr k2 j1, g1_tr (g1_shr (by simp)) (g1_tr k3 j2)⟩
      rw [if_pos rfl, ← u5]
      simp only [b_88_e, b_88_85, b_88_91, kl_0, e_lstore_2, e_kpi, e_kpr, e_kpl, e_kpd, k_0, e_istore_4, e_jsr, e_iload_4, k_24, e_icmp_ge, e_aloadr_0, g_73_26, g_131_1, cc_Day_takeLoads_0, cc_Day_takeLoads_1, cc_Day_takeLoads_2, cc_Day_takeLoads_3, Option.toList_some, Option.toList_none, List.cons_append, List.nil_append, e_pop, g_64_26, g_6_34, e_iload_1, il_37, il_40, e_if_eq, cc_Circuit_settle_0, cc_Circuit_settle_1, cc_Circuit_settle_2, cc_Circuit_settle_3, g_7_34, il_2, il_5, il_33, il_35, il_36, il_41, il_42, il_tp, il_ta, il_sc, il_po, ik_2_0, ik_2_1, ik_2_2, ik_2_3, ik_2_4, g_74_26, cc_Circuit_voltsAt_0, cc_Circuit_voltsAt_1, cc_Circuit_voltsAt_2, cc_Circuit_voltsAt_3, e_lload_2, g_8_34, e_i2l, cc_Share_times_0, cc_Share_times_1, cc_Share_times_2, cc_Share_times_3, lay_27, lay_28, lay_30, lay_31, lay_32, lay_43, lay_44, lay_46, lay_49, lay_60, e_ladd, e_iinc_4, e_goto, e_lret, eq_self, le24 hi, cc_Day_takeLoads_0 (Or.inl rfl) hi hcp.2.2.1 hT.1 (fun n hn => (hcp.2.2.2.2 n hn).1), hn5, h40, cc_Circuit_settle_0 k4, cc_Circuit_voltsAt_1 lay_31 hB.1 hB.2.1 v2 hB.2.2.1 hB.2.2.2.2.1, cc_Circuit_voltsAt_0 lay_31 hB.1 hB.2.1 v2 hB.2.2.1 hB.2.2.2.2.1, shr_up, u1, u2, hA, cc_Share_times_1 (U := U) (D := D) lay_31 shr_0 shr_1 u3 u4, not_true_eq_false, not_false_eq_true, if_true, if_false, true_or, or_true, false_or, or_false, true_and, and_true, false_and, and_false, and_self, or_self, reduceIte, Bool.false_eq_true, i10, i01, e_inc1]) (q, ml) ⟨f1_rf, g1_rf⟩
  obtain ⟨p, r⟩ := s'
  refine ⟨p, r, Eq.trans (show _ = _ from hl) (hd b_88_5 ?_), hJ.1, hJ.2⟩
  simp only [b_88_e, b_88_85, b_88_91, kl_0, e_lstore_2, e_kpi, e_kpr, e_kpl, e_kpd, k_0, e_istore_4, e_jsr, e_iload_4, k_24, e_icmp_ge, e_aloadr_0, g_73_26, g_131_1, cc_Day_takeLoads_0, cc_Day_takeLoads_1, cc_Day_takeLoads_2, cc_Day_takeLoads_3, Option.toList_some, Option.toList_none, List.cons_append, List.nil_append, e_pop, g_64_26, g_6_34, e_iload_1, il_37, il_40, e_if_eq, cc_Circuit_settle_0, cc_Circuit_settle_1, cc_Circuit_settle_2, cc_Circuit_settle_3, g_7_34, il_2, il_5, il_33, il_35, il_36, il_41, il_42, il_tp, il_ta, il_sc, il_po, ik_2_0, ik_2_1, ik_2_2, ik_2_3, ik_2_4, g_74_26, cc_Circuit_voltsAt_0, cc_Circuit_voltsAt_1, cc_Circuit_voltsAt_2, cc_Circuit_voltsAt_3, e_lload_2, g_8_34, e_i2l, cc_Share_times_0, cc_Share_times_1, cc_Share_times_2, cc_Share_times_3, lay_27, lay_28, lay_30, lay_31, lay_32, lay_43, lay_44, lay_46, lay_49, lay_60, e_ladd, e_iinc_4, e_goto, e_lret, eq_self, le2424, not_true_eq_false, not_false_eq_true, if_true, if_false, true_or, or_true, false_or, or_false, true_and, and_true, false_and, and_false, and_self, or_self, reduceIte, Bool.false_eq_true, i10, i01]
theorem y_given {s : Nat} (hs : s < 5) (hc : cT q c L off nt 5) (hm : 0 < q_m c) (hT : LiT L nt) : ∃ p r, ev E 91 (am_B 91 0) [.ref 26, .int (nI s), am_dm, am_dm, am_dm] [] (HH q ml) = some (some (.long (d_given c (kL L off nt) (q 2 2).toInt s 24)), HH p r) ∧ f1 p q ∧ g1 r ml := by
  simp only [b_91_e, b_91_67, b_91_73, kl_0, e_lstore_2, e_kpi, e_kpr, e_kpl, e_kpd, k_0, e_istore_4, e_jsr, e_iload_4, k_24, e_icmp_ge, e_aloadr_0, g_73_26, g_131_1, cc_Day_takeLoads_0, cc_Day_takeLoads_1, cc_Day_takeLoads_2, cc_Day_takeLoads_3, Option.toList_some, Option.toList_none, List.cons_append, List.nil_append, e_if_eq, g_64_26, cc_Circuit_settle_0, cc_Circuit_settle_1, cc_Circuit_settle_2, cc_Circuit_settle_3, e_iload_1, g_74_26, cc_Circuit_givenBy_0, cc_Circuit_givenBy_1, cc_Circuit_givenBy_2, cc_Circuit_givenBy_3, e_lload_2, g_128_1, k_2, il_2, il_5, il_33, il_35, il_36, il_41, il_42, il_tp, il_ta, il_sc, il_po, ik_2_0, ik_2_1, ik_2_2, ik_2_3, ik_2_4, e_i2l, cc_Share_times_0, cc_Share_times_1, cc_Share_times_2, cc_Share_times_3, lay_27, lay_28, lay_30, lay_31, lay_32, lay_43, lay_44, lay_46, lay_49, lay_60, e_ladd, e_iinc_4, e_goto, e_lret, eq_self]
  obtain ⟨s', hl, hJ⟩ := loop_inv (fun i (x : (Nat → Nat → Int32) × (Nat → Nat → Int64)) => ev E 91 (am_B 91 (Int.toNat 5)) [.ref 26, .int (nI s), .long (d_given c (kL L off nt) (q 2 2).toInt s i), am_dm, .int (nI i)] [] (HH x.1 x.2)) (fun i x => f1 x.1 q ∧ g1 x.2 ml) 24 (fun i x hi hj => by
    obtain ⟨p, r⟩ := x
    obtain ⟨j1, j2⟩ := hj
    dsimp only at j1 j2 ⊢
    have hcp := cT_f1 (Or.inl rfl) hc j1
    obtain ⟨k1, k2, k3, k4⟩ := cT_tick hcp hm hT hi r
    have hany := cT_any hcp hT hi
    rw [d_given]
    by_cases ha : anyB (q_th (kL L off nt i)) nt = true
    · have hB := c_CB k1.1 k1.2.1 k1.2.2.1
      have hv := gb_q (k := 31) lay_31 hs k1 (q_m c) (Nat.le_refl _)
      have e22 : (stL (q_m c) 46 (tkl p 5 i nt) r).1 2 2 = q 2 2 := by rw [k2 2 2 (by decide) (by decide) (by decide) (by decide) (by decide), j1 2 2 (by decide) (by decide) (by decide) (by decide) (by decide)]
      have hV : (q 2 2).toInt64 = Int64.ofInt (q 2 2).toInt := i64_of _
      obtain ⟨U, D, u1, u2, u3, u4, u5⟩ := fr2_times (N := (q 2 2).toInt) hv (Nat.le_refl _) (by have := hc.2.1.2.1; omega)
      have u5' : (U * (q 2 2).toInt).tdiv D = q_cut (d_gives c (q_end c (kL L off nt i)) s) (q 2 2).toInt := u5
      refine ⟨((stL (q_m c) 46 (tkl p 5 i nt) r).1, gbF (stL (q_m c) 46 (tkl p 5 i nt) r).1 (stL (q_m c) 46 (tkl p 5 i nt) r).2 (nI s) 31 (q_m c)), hd b_91_5 ?_, f1_tr k2 j1, g1_tr (fun a b x1 x2 x3 x4 x5 x6 x7 x8 x9 => gbF_ne x3 _) (g1_tr k3 j2)⟩
      rw [← u5']
      simp only [b_91_e, b_91_67, b_91_73, kl_0, e_lstore_2, e_kpi, e_kpr, e_kpl, e_kpd, k_0, e_istore_4, e_jsr, e_iload_4, k_24, e_icmp_ge, e_aloadr_0, g_73_26, g_131_1, cc_Day_takeLoads_0, cc_Day_takeLoads_1, cc_Day_takeLoads_2, cc_Day_takeLoads_3, Option.toList_some, Option.toList_none, List.cons_append, List.nil_append, e_if_eq, g_64_26, cc_Circuit_settle_0, cc_Circuit_settle_1, cc_Circuit_settle_2, cc_Circuit_settle_3, e_iload_1, g_74_26, cc_Circuit_givenBy_0, cc_Circuit_givenBy_1, cc_Circuit_givenBy_2, cc_Circuit_givenBy_3, e_lload_2, g_128_1, k_2, il_2, il_5, il_33, il_35, il_36, il_41, il_42, il_tp, il_ta, il_sc, il_po, ik_2_0, ik_2_1, ik_2_2, ik_2_3, ik_2_4, e_i2l, cc_Share_times_0, cc_Share_times_1, cc_Share_times_2, cc_Share_times_3, lay_27, lay_28, lay_30, lay_31, lay_32, lay_43, lay_44, lay_46, lay_49, lay_60, e_ladd, e_iinc_4, e_goto, e_lret, eq_self, le24 hi, cc_Day_takeLoads_0 (Or.inl rfl) hi hcp.2.2.1 hT.1 (fun n hn => (hcp.2.2.2.2 n hn).1), hany, ha, cc_Circuit_settle_0 k4, cc_Circuit_givenBy_0 lay_31 hB.1 hB.2.1, e22, hV, cc_Share_times_1 (U := U) (D := D) lay_31 u1 u2 u3 u4, not_true_eq_false, not_false_eq_true, if_true, if_false, true_or, or_true, false_or, or_false, true_and, and_true, false_and, and_false, and_self, or_self, reduceIte, Bool.false_eq_true, i10, i01, e_inc1]
    · have hz := kL_z (anyB_f ha)
      refine ⟨(tkl p 5 i nt, r), hd b_91_5 ?_, f1_tr f1_tkl j1, j2⟩
      rw [q_end_z hz, d_gives_z hz, q_cut_0, show Int64.ofInt 0 = 0 from rfl, Int64.add_zero]
      simp only [b_91_e, b_91_67, b_91_73, kl_0, e_lstore_2, e_kpi, e_kpr, e_kpl, e_kpd, k_0, e_istore_4, e_jsr, e_iload_4, k_24, e_icmp_ge, e_aloadr_0, g_73_26, g_131_1, cc_Day_takeLoads_0, cc_Day_takeLoads_1, cc_Day_takeLoads_2, cc_Day_takeLoads_3, Option.toList_some, Option.toList_none, List.cons_append, List.nil_append, e_if_eq, g_64_26, cc_Circuit_settle_0, cc_Circuit_settle_1, cc_Circuit_settle_2, cc_Circuit_settle_3, e_iload_1, g_74_26, cc_Circuit_givenBy_0, cc_Circuit_givenBy_1, cc_Circuit_givenBy_2, cc_Circuit_givenBy_3, e_lload_2, g_128_1, k_2, il_2, il_5, il_33, il_35, il_36, il_41, il_42, il_tp, il_ta, il_sc, il_po, ik_2_0, ik_2_1, ik_2_2, ik_2_3, ik_2_4, e_i2l, cc_Share_times_0, cc_Share_times_1, cc_Share_times_2, cc_Share_times_3, lay_27, lay_28, lay_30, lay_31, lay_32, lay_43, lay_44, lay_46, lay_49, lay_60, e_ladd, e_iinc_4, e_goto, e_lret, eq_self, le24 hi, cc_Day_takeLoads_0 (Or.inl rfl) hi hcp.2.2.1 hT.1 (fun n hn => (hcp.2.2.2.2 n hn).1), hany, ha, not_true_eq_false, not_false_eq_true, if_true, if_false, true_or, or_true, false_or, or_false, true_and, and_true, false_and, and_false, and_self, or_self, reduceIte, Bool.false_eq_true, i10, i01, e_inc1]) (q, ml) ⟨f1_rf, g1_rf⟩
  obtain ⟨p, r⟩ := s'
  refine ⟨p, r, Eq.trans (show _ = _ from hl) (hd b_91_5 ?_), hJ.1, hJ.2⟩
  simp only [b_91_e, b_91_67, b_91_73, kl_0, e_lstore_2, e_kpi, e_kpr, e_kpl, e_kpd, k_0, e_istore_4, e_jsr, e_iload_4, k_24, e_icmp_ge, e_aloadr_0, g_73_26, g_131_1, cc_Day_takeLoads_0, cc_Day_takeLoads_1, cc_Day_takeLoads_2, cc_Day_takeLoads_3, Option.toList_some, Option.toList_none, List.cons_append, List.nil_append, e_if_eq, g_64_26, cc_Circuit_settle_0, cc_Circuit_settle_1, cc_Circuit_settle_2, cc_Circuit_settle_3, e_iload_1, g_74_26, cc_Circuit_givenBy_0, cc_Circuit_givenBy_1, cc_Circuit_givenBy_2, cc_Circuit_givenBy_3, e_lload_2, g_128_1, k_2, il_2, il_5, il_33, il_35, il_36, il_41, il_42, il_tp, il_ta, il_sc, il_po, ik_2_0, ik_2_1, ik_2_2, ik_2_3, ik_2_4, e_i2l, cc_Share_times_0, cc_Share_times_1, cc_Share_times_2, cc_Share_times_3, lay_27, lay_28, lay_30, lay_31, lay_32, lay_43, lay_44, lay_46, lay_49, lay_60, e_ladd, e_iinc_4, e_goto, e_lret, eq_self, le2424, not_true_eq_false, not_false_eq_true, if_true, if_false, true_or, or_true, false_or, or_false, true_and, and_true, false_and, and_false, and_self, or_self, reduceIte, Bool.false_eq_true, i10, i01]
end Us
