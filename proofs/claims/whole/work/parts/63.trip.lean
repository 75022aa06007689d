/-! SWITCHES; the class's someTrips, trainsTrip, feedFault, partsAll, busyTicks -/
def d_trip (c : qC) (le : qL) (sw : Nat → Int) : Bool := anyB (fun j => q_F c le j && decide (qI (sw (q_nu c j)) ≤ q_g c le j)) (q_m c)
/-- a fault of f at x -/
def fL (x f : Int) : qL := (fun n => decide (n = 0), fun _ => qI x, fun n => if n = 0 then f else 0)
def sSw (q : Nat → Nat → Int32) (s : Nat) : Int := (q (6 + s) 3).toInt
/-- switches as they may be -/
def LiW (q : Nat → Nat → Int32) : Prop := ∀ s, s < 5 → (q (6 + s) 3).toInt.natAbs ≤ 100000
section Tr
variable {E : aE} {q : Nat → Nat → Int32} {ml : Nat → Nat → Int64} {c : qC} {le : qL} {L : Nat → Nat → Int32} {off : Nat → Nat} {nt : Nat}
theorem y_trips (hE : cE q ml c le) (hW : LiW q) : ev E 82 (am_B 82 0) [.ref 26, am_dm, am_dm, am_dm] [] (HH q ml) = some (some (.int (if d_trip c le (sSw q) = true then 1 else 0)), HH q ml) := by
  have hm := hE.1.1
  have hm5 := hE.1.2.1
  simp only [b_82_e, b_82_73, b_82_79, k_0, e_istore_1, e_kpi, e_kpr, e_kpl, e_kpd, e_jsr, e_iload_1, e_aloadr_0, g_64_26, g_5_34, e_icmp_ge, g_73_26, g_129_1, g_0_34, il_2, il_5, il_33, il_35, il_36, il_41, il_42, il_tp, il_ta, il_sc, il_po, ik_2_0, ik_2_1, ik_2_2, ik_2_3, ik_2_4, il_3, il_4, il_29, il_51, g_387_6, g_387_7, g_387_8, g_387_9, g_387_10, gs_f387, e_i2l, e_lstore_2, g_2_34, il_37, il_40, e_if_eq, g_3_34, il_38, il_39, e_lload_2, g_4_34, e_lmul, e_lcmp, e_if_lt, k_1, e_zret0, e_zret1, e_iinc_1, e_goto, eq_self]
  refine loop_ex (fun i (s : Value) => ev E 82 (am_B 82 (Int.toNat 2)) [.ref 26, .int (nI i), s, am_dm] [] (HH q ml)) (fun i s => ∀ k, k < i → ¬ (q_F c le k = true ∧ qI (sSw q (q_nu c k)) ≤ q_g c le k)) (fun x => x = some (some (.int (if d_trip c le (sSw q) = true then 1 else 0)), HH q ml)) (q_m c) (fun i s hi hj => ?_) (fun s hj => ?_) am_dm (fun k hk => by omega)
  · have hi5 : i < 5 := by omega
    obtain ⟨e1, e2⟩ := hE.2.2.2 i hi
    obtain ⟨_, _, n1, n2⟩ := hE.1.2.2.1 i hi
    have hw := hW _ n2
    have hfe : cF q i = decide (¬ q 37 i = 0) := rfl
    by_cases hF : q_F c le i = true
    · have h37 : ¬ q 37 i = 0 := by rw [hF] at e1; rw [e1] at hfe; simpa using hfe.symm
      have hge := fr2_ge (T := q (6 + q_nu c i) 3) (e2 hF) (by decide) (by omega)
      by_cases h1 : qI (sSw q (q_nu c i)) ≤ q_g c le i
      · left
        have ht : d_trip c le (sSw q) = true := anyB_iff.mpr ⟨i, hi, by simp [hF, h1]⟩
        have h1' : qI (q (6 + q_nu c i) 3).toInt ≤ q_g c le i := h1
        refine hd b_82_2 ?_
        have hlt : (ml 38 i < (q (6 + q_nu c i) 3).toInt64 * ml 39 i) = False := eq_false (by rw [Int64.not_lt, hge]; exact h1')
        simp only [b_82_e, b_82_73, b_82_79, k_0, e_istore_1, e_kpi, e_kpr, e_kpl, e_kpd, e_jsr, e_iload_1, e_aloadr_0, g_64_26, g_5_34, e_icmp_ge, g_73_26, g_129_1, g_0_34, il_2, il_5, il_33, il_35, il_36, il_41, il_42, il_tp, il_ta, il_sc, il_po, ik_2_0, ik_2_1, ik_2_2, ik_2_3, ik_2_4, il_3, il_4, il_29, il_51, g_387_6, g_387_7, g_387_8, g_387_9, g_387_10, gs_f387, e_i2l, e_lstore_2, g_2_34, il_37, il_40, e_if_eq, g_3_34, il_38, il_39, e_lload_2, g_4_34, e_lmul, e_lcmp, e_if_lt, k_1, e_zret0, e_zret1, e_iinc_1, e_goto, eq_self, hm, lec (show q_m c < 1000 by omega) hi, hi5, n1, n2, h37, lg_cmp_lt, hlt, ht, not_true_eq_false, not_false_eq_true, if_true, if_false, true_or, or_true, false_or, or_false, true_and, and_true, false_and, and_false, and_self, or_self, reduceIte, Bool.false_eq_true, i10, i01]
      · right
        have h1' : ¬ qI (q (6 + q_nu c i) 3).toInt ≤ q_g c le i := h1
        refine ⟨.long (q (6 + q_nu c i) 3).toInt64, hd b_82_2 ?_, fun k hk => ?_⟩
        · have hlt : (ml 38 i < (q (6 + q_nu c i) 3).toInt64 * ml 39 i) = True := eq_true (by rw [← Int64.not_le, hge]; exact h1')
          simp only [b_82_e, b_82_73, b_82_79, k_0, e_istore_1, e_kpi, e_kpr, e_kpl, e_kpd, e_jsr, e_iload_1, e_aloadr_0, g_64_26, g_5_34, e_icmp_ge, g_73_26, g_129_1, g_0_34, il_2, il_5, il_33, il_35, il_36, il_41, il_42, il_tp, il_ta, il_sc, il_po, ik_2_0, ik_2_1, ik_2_2, ik_2_3, ik_2_4, il_3, il_4, il_29, il_51, g_387_6, g_387_7, g_387_8, g_387_9, g_387_10, gs_f387, e_i2l, e_lstore_2, g_2_34, il_37, il_40, e_if_eq, g_3_34, il_38, il_39, e_lload_2, g_4_34, e_lmul, e_lcmp, e_if_lt, k_1, e_zret0, e_zret1, e_iinc_1, e_goto, eq_self, hm, lec (show q_m c < 1000 by omega) hi, hi5, n1, n2, h37, lg_cmp_lt, hlt, not_true_eq_false, not_false_eq_true, if_true, if_false, true_or, or_true, false_or, or_false, true_and, and_true, false_and, and_false, and_self, or_self, reduceIte, Bool.false_eq_true, i10, i01, e_inc1]
        · by_cases e : k = i
          · rw [e]; exact fun z => h1 z.2
          · exact hj k (by omega)
    · have h37 : q 37 i = 0 := by
        have : cF q i = false := by rw [e1]; simpa using hF
        rw [this] at hfe
        simpa using hfe.symm
      right
      refine ⟨.long (q (6 + q_nu c i) 3).toInt64, hd b_82_2 ?_, fun k hk => ?_⟩
      · simp only [b_82_e, b_82_73, b_82_79, k_0, e_istore_1, e_kpi, e_kpr, e_kpl, e_kpd, e_jsr, e_iload_1, e_aloadr_0, g_64_26, g_5_34, e_icmp_ge, g_73_26, g_129_1, g_0_34, il_2, il_5, il_33, il_35, il_36, il_41, il_42, il_tp, il_ta, il_sc, il_po, ik_2_0, ik_2_1, ik_2_2, ik_2_3, ik_2_4, il_3, il_4, il_29, il_51, g_387_6, g_387_7, g_387_8, g_387_9, g_387_10, gs_f387, e_i2l, e_lstore_2, g_2_34, il_37, il_40, e_if_eq, g_3_34, il_38, il_39, e_lload_2, g_4_34, e_lmul, e_lcmp, e_if_lt, k_1, e_zret0, e_zret1, e_iinc_1, e_goto, eq_self, hm, lec (show q_m c < 1000 by omega) hi, hi5, n1, n2, h37, not_true_eq_false, not_false_eq_true, if_true, if_false, true_or, or_true, false_or, or_false, true_and, and_true, false_and, and_false, and_self, or_self, reduceIte, Bool.false_eq_true, i10, i01, e_inc1]
      · by_cases e : k = i
        · rw [e]; exact fun z => hF z.1
        · exact hj k (by omega)
  · have ht : d_trip c le (sSw q) = false := by
      cases h : d_trip c le (sSw q) with
      | false => rfl
      | true =>
        obtain ⟨k, hk, h2⟩ := anyB_iff.mp h
        simp only [Bool.and_eq_true, decide_eq_true_eq] at h2
        exact absurd h2 (hj k hk)
    refine hd b_82_2 ?_
    simp only [b_82_e, b_82_73, b_82_79, k_0, e_istore_1, e_kpi, e_kpr, e_kpl, e_kpd, e_jsr, e_iload_1, e_aloadr_0, g_64_26, g_5_34, e_icmp_ge, g_73_26, g_129_1, g_0_34, il_2, il_5, il_33, il_35, il_36, il_41, il_42, il_tp, il_ta, il_sc, il_po, ik_2_0, ik_2_1, ik_2_2, ik_2_3, ik_2_4, il_3, il_4, il_29, il_51, g_387_6, g_387_7, g_387_8, g_387_9, g_387_10, gs_f387, e_i2l, e_lstore_2, g_2_34, il_37, il_40, e_if_eq, g_3_34, il_38, il_39, e_lload_2, g_4_34, e_lmul, e_lcmp, e_if_lt, k_1, e_zret0, e_zret1, e_iinc_1, e_goto, eq_self, hm, lecc, ht, not_true_eq_false, not_false_eq_true, if_true, if_false, true_or, or_true, false_or, or_false, true_and, and_true, false_and, and_false, and_self, or_self, reduceIte, Bool.false_eq_true, i10, i01]
theorem LiW_of {p : Nat → Nat → Int32} (h : LiW q) (hf : ∀ s, s < 5 → p (6 + s) 3 = q (6 + s) 3) : LiW p := fun s hs => by rw [hf s hs]; exact h s hs
theorem d_trip_cg {sw sv : Nat → Int} (hS : cS q c) (h : ∀ s, s < 5 → sw s = sv s) : d_trip c le sw = d_trip c le sv := by
  rw [Bool.eq_iff_iff]
  unfold d_trip
  rw [anyB_iff, anyB_iff]
  constructor
  · rintro ⟨j, h1, h2⟩; exact ⟨j, h1, by rw [← h _ (hS.2.2.1 j h1).2.2.2]; exact h2⟩
  · rintro ⟨j, h1, h2⟩; exact ⟨j, h1, by rw [h _ (hS.2.2.1 j h1).2.2.2]; exact h2⟩
theorem f1_sw {p : Nat → Nat → Int32} (h : f1 p q) : ∀ s, s < 5 → p (6 + s) 3 = q (6 + s) 3 := fun s hs => h _ _ (by omega) (by omega) (by omega) (by omega) (by omega)
theorem y_ttrip (hc : cT q c L off nt 5) (hm : 0 < q_m c) (hT : LiT L nt) (hW : LiW q) : ∃ p r, ev E 81 (am_B 81 0) [.ref 26, am_dm] [] (HH q ml) = some (some (.int (if anyB (fun t => d_trip c (q_end c (kL L off nt t)) (sSw q)) 24 = true then 1 else 0)), HH p r) ∧ f1 p q ∧ g1 r ml := by
  simp only [b_81_e, b_81_37, b_81_43, k_0, e_istore_1, e_kpi, e_kpr, e_kpl, e_kpd, e_jsr, e_iload_1, k_24, e_icmp_ge, e_aloadr_0, g_73_26, g_131_1, cc_Day_takeLoads_0, cc_Day_takeLoads_1, cc_Day_takeLoads_2, cc_Day_takeLoads_3, Option.toList_some, Option.toList_none, List.cons_append, List.nil_append, e_pop, g_64_26, cc_Circuit_settle_0, cc_Circuit_settle_1, cc_Circuit_settle_2, cc_Circuit_settle_3, e_if_eq, k_1, e_zret0, e_zret1, e_iinc_1, e_goto, eq_self]
  refine loop_ex (fun i (s : (Nat → Nat → Int32) × (Nat → Nat → Int64)) => ev E 81 (am_B 81 (Int.toNat 2)) [.ref 26, .int (nI i)] [] (HH s.1 s.2)) (fun i s => f1 s.1 q ∧ g1 s.2 ml ∧ ∀ t, t < i → d_trip c (q_end c (kL L off nt t)) (sSw q) = false) (fun x => ∃ p r, x = some (some (.int (if anyB (fun t => d_trip c (q_end c (kL L off nt t)) (sSw q)) 24 = true then 1 else 0)), HH p r) ∧ f1 p q ∧ g1 r ml) 24 (fun i s hi hj => ?_) (fun s hj => ?_) (q, ml) ⟨f1_rf, g1_rf, fun t ht => by omega⟩
  · obtain ⟨p, r⟩ := s
    obtain ⟨j1, j2, j3⟩ := hj
    dsimp only at j1 j2 j3 ⊢
    have hcp := cT_f1 (Or.inl rfl) hc j1
    obtain ⟨k1, k2, k3, k4⟩ := cT_tick hcp hm hT hi r
    have hf := f1_tr k2 j1
    have hW2 := LiW_of hW (f1_sw hf)
    have e1 := y_trips (E := E) k1 hW2
    rw [d_trip_cg (sv := sSw q) k1.1 (fun s hs => by unfold sSw; rw [f1_sw hf s hs])] at e1
    have cc1 : ∀ {M_ : Nat} {c_ : List Instr} {L_ : List Value}, ev E M_ (.invokevirtual 82 :: c_) L_ (.ref 26 :: []) (HH (stL (q_m c) 46 (tkl p 5 i nt) r).1 (stL (q_m c) 46 (tkl p 5 i nt) r).2) = ev E M_ c_ L_ (.int (if d_trip c (q_end c (kL L off nt i)) (sSw q) = true then 1 else 0) :: []) (HH (stL (q_m c) 46 (tkl p 5 i nt) r).1 (stL (q_m c) 46 (tkl p 5 i nt) r).2) := fun {M_} {c_} {L_} => e_inv (as := [.ref 26]) (S := []) rfl rfl (Nat.le_of_ble_eq_true rfl) (rfl) (e1)
    by_cases ht : d_trip c (q_end c (kL L off nt i)) (sSw q) = true
    · left
      have ha : anyB (fun t => d_trip c (q_end c (kL L off nt t)) (sSw q)) 24 = true := anyB_iff.mpr ⟨i, hi, ht⟩
      refine ⟨_, _, hd b_81_2 ?_, hf, g1_tr k3 j2⟩
      simp only [b_81_e, b_81_37, b_81_43, k_0, e_istore_1, e_kpi, e_kpr, e_kpl, e_kpd, e_jsr, e_iload_1, k_24, e_icmp_ge, e_aloadr_0, g_73_26, g_131_1, cc_Day_takeLoads_0, cc_Day_takeLoads_1, cc_Day_takeLoads_2, cc_Day_takeLoads_3, Option.toList_some, Option.toList_none, List.cons_append, List.nil_append, e_pop, g_64_26, cc_Circuit_settle_0, cc_Circuit_settle_1, cc_Circuit_settle_2, cc_Circuit_settle_3, e_if_eq, k_1, e_zret0, e_zret1, e_iinc_1, e_goto, eq_self, le24 hi, cc_Day_takeLoads_0 (Or.inl rfl) hi hcp.2.2.1 hT.1 (fun n hn => (hcp.2.2.2.2 n hn).1), cc_Circuit_settle_0 k4, cc1, ht, ha, not_true_eq_false, not_false_eq_true, if_true, if_false, true_or, or_true, false_or, or_false, true_and, and_true, false_and, and_false, and_self, or_self, reduceIte, Bool.false_eq_true, i10, i01]
    · right
      refine ⟨((stL (q_m c) 46 (tkl p 5 i nt) r).1, (stL (q_m c) 46 (tkl p 5 i nt) r).2), hd b_81_2 ?_, hf, g1_tr k3 j2, fun t h2 => ?_⟩
      · simp only [b_81_e, b_81_37, b_81_43, k_0, e_istore_1, e_kpi, e_kpr, e_kpl, e_kpd, e_jsr, e_iload_1, k_24, e_icmp_ge, e_aloadr_0, g_73_26, g_131_1, cc_Day_takeLoads_0, cc_Day_takeLoads_1, cc_Day_takeLoads_2, cc_Day_takeLoads_3, Option.toList_some, Option.toList_none, List.cons_append, List.nil_append, e_pop, g_64_26, cc_Circuit_settle_0, cc_Circuit_settle_1, cc_Circuit_settle_2, cc_Circuit_settle_3, e_if_eq, k_1, e_zret0, e_zret1, e_iinc_1, e_goto, eq_self, le24 hi, cc_Day_takeLoads_0 (Or.inl rfl) hi hcp.2.2.1 hT.1 (fun n hn => (hcp.2.2.2.2 n hn).1), cc_Circuit_settle_0 k4, cc1, ht, not_true_eq_false, not_false_eq_true, if_true, if_false, true_or, or_true, false_or, or_false, true_and, and_true, false_and, and_false, and_self, or_self, reduceIte, Bool.false_eq_true, i10, i01, e_inc1]
      · by_cases e : t = i
        · rw [e]; simpa using ht
        · exact j3 t (by omega)
  · obtain ⟨p, r⟩ := s
    obtain ⟨j1, j2, j3⟩ := hj
    dsimp only at j1 j2 j3 ⊢
    have ha : anyB (fun t => d_trip c (q_end c (kL L off nt t)) (sSw q)) 24 = false := by
      cases h : anyB (fun t => d_trip c (q_end c (kL L off nt t)) (sSw q)) 24 with
      | false => rfl
      | true => obtain ⟨t, h1, h2⟩ := anyB_iff.mp h; rw [j3 t h1] at h2; cases h2
    refine ⟨p, r, hd b_81_2 ?_, j1, j2⟩
    simp only [b_81_e, b_81_37, b_81_43, k_0, e_istore_1, e_kpi, e_kpr, e_kpl, e_kpd, e_jsr, e_iload_1, k_24, e_icmp_ge, e_aloadr_0, g_73_26, g_131_1, cc_Day_takeLoads_0, cc_Day_takeLoads_1, cc_Day_takeLoads_2, cc_Day_takeLoads_3, Option.toList_some, Option.toList_none, List.cons_append, List.nil_append, e_pop, g_64_26, cc_Circuit_settle_0, cc_Circuit_settle_1, cc_Circuit_settle_2, cc_Circuit_settle_3, e_if_eq, k_1, e_zret0, e_zret1, e_iinc_1, e_goto, eq_self, le2424, ha, not_true_eq_false, not_false_eq_true, if_true, if_false, true_or, or_true, false_or, or_false, true_and, and_true, false_and, and_false, and_self, or_self, reduceIte, Bool.false_eq_true, i10, i01]
theorem y_fault {x f : Int32} (hS : cS q c) (hR : cR q c) (hm : 0 < q_m c) (hx : bd x) (hf : 0 ≤ f.toInt ∧ f.toInt ≤ 100000) : ∃ p r, ev E 79 (am_B 79 0) [.ref 26, .int x, .int f] [] (HH q ml) = some (none, HH p r) ∧ cE p r c (fL x.toInt f.toInt) ∧ f1 p q ∧ g1 r ml := by
  have e1 : ∀ a b, ¬ a = 40 → ¬ a = 41 → ¬ a = 42 → am_up (am_up (am_up (clr2 q 5) 40 0 1) 41 0 x) 42 0 f a b = q a b := fun a b h1 h2 h3 => by
    rw [am_upa, if_neg (fun z => h3 z.1), am_upa, if_neg (fun z => h2 z.1), am_upa, if_neg (fun z => h1 z.1)]
    unfold clr2
    rw [if_neg (by omega)]
  generalize hP : am_up (am_up (am_up (clr2 q 5) 40 0 1) 41 0 x) 42 0 f = p at e1
  have hS' : cS p c := cS_of hS (fun a b h => e1 a b (by omega) (by omega) (by omega))
  have hR' : cR p c := cR_of hR (fun b => e1 2 b (by omega) (by omega) (by omega))
  have hL' : cL p (fL x.toInt f.toInt) := fun n hn => by
    have eth : q_th (fL x.toInt f.toInt) n = decide (n = 0) := rfl
    have eam : q_am (fL x.toInt f.toInt) n = if n = 0 then f.toInt else 0 := rfl
    rw [eth, eam]
    unfold cTh cY cA
    rw [← hP]
    by_cases h0 : n = 0
    · subst h0
      refine ⟨?_, fun _ => ⟨?_, ?_⟩, ?_, ?_, fun h => by simp at h⟩
      · rw [am_upa, if_neg (by omega), am_upa, if_neg (by omega), am_up_self]; decide
      · rw [am_upa, if_neg (by omega), am_up_self]; exact hx
      · rw [am_upa, if_neg (by omega), am_up_self]; rfl
      · rw [am_up_self, if_pos rfl]
      · rw [if_pos rfl]; omega
    · refine ⟨?_, fun h => by simp [h0] at h, ?_, ?_, fun _ => by rw [if_neg h0]⟩
      · rw [am_upa, if_neg (by omega), am_upa, if_neg (by omega), am_upa, if_neg (by omega)]
        unfold clr2
        rw [if_pos (by omega)]
        simp [h0]
      · rw [am_upa, if_neg (by omega), am_upa, if_neg (by omega), am_upa, if_neg (by omega)]
        unfold clr2
        rw [if_pos (by omega), if_neg h0]; rfl
      · rw [if_neg h0]; decide
  have hsum : sumI (q_am (fL x.toInt f.toInt)) 5 = f.toInt := by
    show 0 + f.toInt + 0 + 0 + 0 + 0 = f.toInt
    omega
  have h0 : 0 ≤ sumI (q_am (fL x.toInt f.toInt)) 5 := by rw [hsum]; exact hf.1
  have hB := c_CB hS' hR' hL'
  have hcs : 0 ≤ sumI (cA p) 5 := by rw [c_sum hL']; exact h0
  have hff := c_feed ml hS' hR' hL' hm h0
  have hne : ∀ a b, ¬ a = 37 → ffI p ml (q_m c) a b = p a b := fun a b h => ffI_ne h
  refine ⟨ffI p ml (q_m c), ffJ p ml (q_m c), ?_, ⟨cS_of hS' (fun a b h => hne a b (by omega)), cR_of hR' (fun b => hne 2 b (by omega)), cL_of hL' (fun a b h => hne a b (by omega)), hff⟩, fun a b x1 x2 x3 x4 x5 => by rw [hne a b x1, e1 a b x2 x3 x4], fun a b x1 x2 x3 x4 x5 x6 x7 x8 x9 => ?_⟩
  · simp only [b_79_e, e_aloadr_0, g_64_26, cc_Circuit_clearLoads_0, cc_Circuit_clearLoads_1, cc_Circuit_clearLoads_2, cc_Circuit_clearLoads_3, Option.toList_some, Option.toList_none, List.cons_append, List.nil_append, k_0, e_iload_1, e_iload_2, cc_Circuit_addLoad_0, cc_Circuit_addLoad_1, cc_Circuit_addLoad_2, cc_Circuit_addLoad_3, cc_Circuit_findFeeding_0, cc_Circuit_findFeeding_1, cc_Circuit_findFeeding_2, cc_Circuit_findFeeding_3, e_pop, e_ret, eq_self, cc_Circuit_addLoad_0 (show 0 < 5 by decide), k0nI, hP, cc_Circuit_findFeeding_0 hB.1 hB.2.1 hB.2.2.1 hB.2.2.2.2.1 (CB_sum hB), hcs, not_true_eq_false, not_false_eq_true, if_true, if_false, true_or, or_true, false_or, or_false, true_and, and_true, false_and, and_false, and_self, or_self, reduceIte, Bool.false_eq_true, i10, i01]
  · have ffJne : ∀ (m k : Nat) (q : Nat → Nat → Int32) (ml : Nat → Nat → Int64), (ffL m k q ml).2 a b = ml a b := by
      intro m k
      induction k with
      | zero => intro q ml; rfl
      | succ k ih =>
        intro q ml
        have e : wgh q ml m m a b = ml a b := by unfold wgh; rw [if_neg (fun z => x5 z.1), if_neg (fun z => x6 z.1)]
        rw [ffL]
        split
        · rw [ih _ _, e]
        · exact e
    exact ffJne _ _ _ _
theorem y_parts {F : Nat} {f : Int32} (hS : cS q c) (hR : cR q c) (hm : 0 < q_m c) (hW : LiW q) (hF : q 2 0 = nI F) (hF2 : F ≤ 200) (hf : 0 ≤ f.toInt ∧ f.toInt ≤ 100000) : ∃ p r, ev E 83 (am_B 83 0) [.ref 26, .int f, am_dm] [] (HH q ml) = some (some (.int (if anyB (fun x => !d_trip c (fL x f.toInt) (sSw q)) (F + 1) = true then 0 else 1)), HH p r) ∧ f1 p q ∧ g1 r ml := by
  simp only [b_83_e, b_83_30, b_83_36, k_0, e_istore_2, e_kpi, e_kpr, e_kpl, e_kpd, e_jsr, e_iload_2, e_aloadr_0, g_73_26, g_128_1, il_2, il_5, il_33, il_35, il_36, il_41, il_42, il_tp, il_ta, il_sc, il_po, ik_2_0, ik_2_1, ik_2_2, ik_2_3, ik_2_4, e_icmp_gt, e_iload_1, Option.toList_some, Option.toList_none, List.cons_append, List.nil_append, e_if_ne, e_zret0, e_zret1, e_iinc_2, e_goto, k_1, eq_self]
  refine loop_ex (fun i (s : (Nat → Nat → Int32) × (Nat → Nat → Int64)) => ev E 83 (am_B 83 (Int.toNat 2)) [.ref 26, .int f, .int (nI i)] [] (HH s.1 s.2)) (fun i s => f1 s.1 q ∧ g1 s.2 ml ∧ ∀ t : Nat, t < i → d_trip c (fL t f.toInt) (sSw q) = true) (fun x => ∃ p r, x = some (some (.int (if anyB (fun x => !d_trip c (fL x f.toInt) (sSw q)) (F + 1) = true then 0 else 1)), HH p r) ∧ f1 p q ∧ g1 r ml) (F + 1) (fun i s hi hj => ?_) (fun s hj => ?_) (q, ml) ⟨f1_rf, g1_rf, fun t ht => by omega⟩
  · obtain ⟨p, r⟩ := s
    obtain ⟨j1, j2, j3⟩ := hj
    dsimp only at j1 j2 j3 ⊢
    have hti : (nI i).toInt = i := nI_toInt (by omega)
    have hbi : bd (nI i) := by unfold bd; rw [hti]; omega
    have e2 : p 2 0 = nI F := by rw [j1 2 0 (by decide) (by decide) (by decide) (by decide) (by decide)]; exact hF
    have hgt : (nI F < nI i) = False := eq_false (fun z => by have := (nI_ltI (by omega) (by omega)).mp z; omega)
    obtain ⟨p2, r2, w1, w2, w3, w4⟩ := y_fault (E := E) (ml := r) (x := nI i) (f := f) (cS_of hS (fun a b z => j1 a b (by omega) (by omega) (by omega) (by omega) (by omega))) (cR_of hR (fun b => j1 2 b (by decide) (by decide) (by decide) (by decide) (by simp))) hm hbi hf
    rw [hti] at w2
    have cc1 : ∀ {M_ : Nat} {c_ : List Instr} {L_ : List Value}, ev E M_ (.invokevirtual 79 :: c_) L_ (.int f :: .int (nI i) :: .ref 26 :: []) (HH p r) = ev E M_ c_ L_ [] (HH p2 r2) := fun {M_} {c_} {L_} => e_inv (as := [.ref 26, .int (nI i), .int f]) (S := []) rfl rfl (Nat.le_of_ble_eq_true rfl) (rfl) (w1)
    have hf2 := f1_tr w3 j1
    have e1 := y_trips (E := E) w2 (LiW_of hW (f1_sw hf2))
    rw [d_trip_cg (sv := sSw q) w2.1 (fun s hs => by unfold sSw; rw [f1_sw hf2 s hs])] at e1
    have cc2 : ∀ {M_ : Nat} {c_ : List Instr} {L_ : List Value}, ev E M_ (.invokevirtual 82 :: c_) L_ (.ref 26 :: []) (HH p2 r2) = ev E M_ c_ L_ (.int (if d_trip c (fL i f.toInt) (sSw q) = true then 1 else 0) :: []) (HH p2 r2) := fun {M_} {c_} {L_} => e_inv (as := [.ref 26]) (S := []) rfl rfl (Nat.le_of_ble_eq_true rfl) (rfl) (e1)
    by_cases ht : d_trip c (fL i f.toInt) (sSw q) = true
    · right
      refine ⟨(p2, r2), hd b_83_2 ?_, hf2, g1_tr w4 j2, fun t h2 => ?_⟩
      · simp only [b_83_e, b_83_30, b_83_36, k_0, e_istore_2, e_kpi, e_kpr, e_kpl, e_kpd, e_jsr, e_iload_2, e_aloadr_0, g_73_26, g_128_1, il_2, il_5, il_33, il_35, il_36, il_41, il_42, il_tp, il_ta, il_sc, il_po, ik_2_0, ik_2_1, ik_2_2, ik_2_3, ik_2_4, e_icmp_gt, e_iload_1, Option.toList_some, Option.toList_none, List.cons_append, List.nil_append, e_if_ne, e_zret0, e_zret1, e_iinc_2, e_goto, k_1, eq_self, e2, hgt, cc1, cc2, ht, not_true_eq_false, not_false_eq_true, if_true, if_false, true_or, or_true, false_or, or_false, true_and, and_true, false_and, and_false, and_self, or_self, reduceIte, Bool.false_eq_true, i10, i01, e_inc1]
      · by_cases e : t = i
        · rw [e]; exact ht
        · exact j3 t (by omega)
    · left
      have ha : anyB (fun (x : Nat) => !d_trip c (fL x f.toInt) (sSw q)) (F + 1) = true := anyB_iff.mpr ⟨i, hi, by simpa using ht⟩
      refine ⟨p2, r2, hd b_83_2 ?_, hf2, g1_tr w4 j2⟩
      simp only [b_83_e, b_83_30, b_83_36, k_0, e_istore_2, e_kpi, e_kpr, e_kpl, e_kpd, e_jsr, e_iload_2, e_aloadr_0, g_73_26, g_128_1, il_2, il_5, il_33, il_35, il_36, il_41, il_42, il_tp, il_ta, il_sc, il_po, ik_2_0, ik_2_1, ik_2_2, ik_2_3, ik_2_4, e_icmp_gt, e_iload_1, Option.toList_some, Option.toList_none, List.cons_append, List.nil_append, e_if_ne, e_zret0, e_zret1, e_iinc_2, e_goto, k_1, eq_self, e2, hgt, cc1, cc2, ht, ha, not_true_eq_false, not_false_eq_true, if_true, if_false, true_or, or_true, false_or, or_false, true_and, and_true, false_and, and_false, and_self, or_self, reduceIte, Bool.false_eq_true, i10, i01]
  · obtain ⟨p, r⟩ := s
    obtain ⟨j1, j2, j3⟩ := hj
    dsimp only at j1 j2 j3 ⊢
    have e2 : p 2 0 = nI F := by rw [j1 2 0 (by decide) (by decide) (by decide) (by decide) (by decide)]; exact hF
    have hgt : (nI F < nI (F + 1)) = True := eq_true ((nI_ltI (by omega) (by omega)).mpr (by omega))
    have ha : anyB (fun (x : Nat) => !d_trip c (fL x f.toInt) (sSw q)) (F + 1) = false := by
      cases h : anyB (fun (x : Nat) => !d_trip c (fL x f.toInt) (sSw q)) (F + 1) with
      | false => rfl
      | true => obtain ⟨t, h1, h2⟩ := anyB_iff.mp h; rw [j3 t h1] at h2; cases h2
    refine ⟨p, r, hd b_83_2 ?_, j1, j2⟩
    simp only [b_83_e, b_83_30, b_83_36, k_0, e_istore_2, e_kpi, e_kpr, e_kpl, e_kpd, e_jsr, e_iload_2, e_aloadr_0, g_73_26, g_128_1, il_2, il_5, il_33, il_35, il_36, il_41, il_42, il_tp, il_ta, il_sc, il_po, ik_2_0, ik_2_1, ik_2_2, ik_2_3, ik_2_4, e_icmp_gt, e_iload_1, Option.toList_some, Option.toList_none, List.cons_append, List.nil_append, e_if_ne, e_zret0, e_zret1, e_iinc_2, e_goto, k_1, eq_self, e2, hgt, ha, not_true_eq_false, not_false_eq_true, if_true, if_false, true_or, or_true, false_or, or_false, true_and, and_true, false_and, and_false, and_self, or_self, reduceIte, Bool.false_eq_true, i10, i01]
/-- ticks at which some train is there -/
def d_busy (L : Nat → Nat → Int32) (off : Nat → Nat) (nt : Nat) : Nat := cntB (fun t => anyB (q_th (kL L off nt t)) nt) 24
theorem y_busy (h5 : q 1 5 = nI nt) (hT : LiT L nt) (e : ∀ n, n < 5 → ∀ u, tP q n u = tP L n u ∧ tA q n u = tA L n u) (ho : ∀ n, n < nt → (q 5 n = nI (oF q 5 n) ∧ oF q 5 n ≤ 5) ∧ oF q 5 n = off n) : ∃ p, ev E 111 (am_B 111 0) [.ref 26, am_dm, am_dm] [] (HH q ml) = some (some (.int (nI (d_busy L off nt))), HH p ml) ∧ f1 p q := by
  simp only [b_111_e, b_111_28, b_111_34, k_0, e_istore_1, e_kpi, e_kpr, e_kpl, e_kpd, e_istore_2, e_jsr, e_iload_2, k_24, e_icmp_ge, e_aloadr_0, g_73_26, g_131_1, cc_Day_takeLoads_0, cc_Day_takeLoads_1, cc_Day_takeLoads_2, cc_Day_takeLoads_3, Option.toList_some, Option.toList_none, List.cons_append, List.nil_append, e_if_eq, e_iinc_1, e_iinc_2, e_goto, e_iload_1, e_iret, eq_self]
  obtain ⟨p, hl, hJ⟩ := loop_inv (fun i (s : (Nat → Nat → Int32)) => ev E 111 (am_B 111 (Int.toNat 4)) [.ref 26, .int (nI (cntB (fun t => anyB (q_th (kL L off nt t)) nt) i)), .int (nI i)] [] (HH s ml)) (fun i s => f1 s q) 24 (fun i p hi j1 => by
    have e1 : ∀ a b, a ≤ 25 → p a b = q a b := fun a b z => j1 a b (by omega) (by omega) (by omega) (by omega) (by omega)
    have h5p : p 1 5 = nI nt := by rw [e1 1 5 (by omega)]; exact h5
    have ho2 : ∀ n, n < nt → (p 5 n = nI (oF p 5 n) ∧ oF p 5 n ≤ 5) ∧ oF p 5 n = off n := fun n hn => by unfold oF; rw [e1 5 n (by omega)]; exact ho n hn
    have e2 : ∀ n, n < 5 → ∀ u, tP p n u = tP L n u ∧ tA p n u = tA L n u := fun n hn u => by
      have a1 : tP p n u = tP q n u := e1 _ _ (by omega)
      have a2 : tA p n u = tA q n u := e1 _ _ (by omega)
      rw [a1, a2]; exact e n hn u
    obtain ⟨_, hll⟩ := c_load (k := 5) hT hi e2 (fun n hn => (ho2 n hn).2)
    have hany : anyB (ldH p 5 i) nt = anyB (q_th (kL L off nt i)) nt := by
      rw [Bool.eq_iff_iff, anyB_iff, anyB_iff]
      constructor
      · rintro ⟨i, h1, h2⟩; exact ⟨i, h1, by rw [← hll i h1]; exact h2⟩
      · rintro ⟨i, h1, h2⟩; exact ⟨i, h1, by rw [hll i h1]; exact h2⟩
    refine ⟨tkl p 5 i nt, hd b_111_4 ?_, f1_tr f1_tkl j1⟩
    by_cases ha : anyB (q_th (kL L off nt i)) nt = true
    · rw [cntB_step (f := fun t => anyB (q_th (kL L off nt t)) nt) ha]
      simp only [b_111_e, b_111_28, b_111_34, k_0, e_istore_1, e_kpi, e_kpr, e_kpl, e_kpd, e_istore_2, e_jsr, e_iload_2, k_24, e_icmp_ge, e_aloadr_0, g_73_26, g_131_1, cc_Day_takeLoads_0, cc_Day_takeLoads_1, cc_Day_takeLoads_2, cc_Day_takeLoads_3, Option.toList_some, Option.toList_none, List.cons_append, List.nil_append, e_if_eq, e_iinc_1, e_iinc_2, e_goto, e_iload_1, e_iret, eq_self, le24 hi, cc_Day_takeLoads_0 (Or.inl rfl) hi h5p hT.1 (fun n hn => (ho2 n hn).1), hany, ha, not_true_eq_false, not_false_eq_true, if_true, if_false, true_or, or_true, false_or, or_false, true_and, and_true, false_and, and_false, and_self, or_self, reduceIte, Bool.false_eq_true, i10, i01, e_inc1]
    · rw [cntB_skip (f := fun t => anyB (q_th (kL L off nt t)) nt) (by simpa using ha)]
      simp only [b_111_e, b_111_28, b_111_34, k_0, e_istore_1, e_kpi, e_kpr, e_kpl, e_kpd, e_istore_2, e_jsr, e_iload_2, k_24, e_icmp_ge, e_aloadr_0, g_73_26, g_131_1, cc_Day_takeLoads_0, cc_Day_takeLoads_1, cc_Day_takeLoads_2, cc_Day_takeLoads_3, Option.toList_some, Option.toList_none, List.cons_append, List.nil_append, e_if_eq, e_iinc_1, e_iinc_2, e_goto, e_iload_1, e_iret, eq_self, le24 hi, cc_Day_takeLoads_0 (Or.inl rfl) hi h5p hT.1 (fun n hn => (ho2 n hn).1), hany, ha, not_true_eq_false, not_false_eq_true, if_true, if_false, true_or, or_true, false_or, or_false, true_and, and_true, false_and, and_false, and_self, or_self, reduceIte, Bool.false_eq_true, i10, i01, e_inc1]) q f1_rf
  refine ⟨p, Eq.trans (show _ = _ from hl) (hd b_111_4 ?_), hJ⟩
  simp only [b_111_e, b_111_28, b_111_34, k_0, e_istore_1, e_kpi, e_kpr, e_kpl, e_kpd, e_istore_2, e_jsr, e_iload_2, k_24, e_icmp_ge, e_aloadr_0, g_73_26, g_131_1, cc_Day_takeLoads_0, cc_Day_takeLoads_1, cc_Day_takeLoads_2, cc_Day_takeLoads_3, Option.toList_some, Option.toList_none, List.cons_append, List.nil_append, e_if_eq, e_iinc_1, e_iinc_2, e_goto, e_iload_1, e_iret, eq_self, le2424, not_true_eq_false, not_false_eq_true, if_true, if_false, true_or, or_true, false_or, or_false, true_and, and_true, false_and, and_false, and_self, or_self, reduceIte, Bool.false_eq_true, i10, i01]
  rfl
end Tr
