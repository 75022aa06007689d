/-! right, used, given, firstOut -/
section Dz
variable {E : aE} {q : Nat → Nat → Int32} {s : Nat → Nat → Int64} {n nt : Nat}
theorem LiW_i (hi : INV q s n nt) : LiW q := fun k hk => by
  have := (hi.1.2.1 k hk).2
  omega
theorem sw_i (hi : INV q s n nt) {k : Nat} (hk : k < n) : mSw q k = sSw q k := by
  unfold mSw sSw
  rw [(hi.2.1.2.2.1 k hk).2.2.2]
theorem trip_cg {p : Nat → Nat → Int32} {I : Nat} {c : qC} {le : qL} {sw sv : Nat → Int} (hS : rS p n I c) (h : ∀ k, k < n → sw k = sv k) : d_trip c le sw = d_trip c le sv := by
  rw [Bool.eq_iff_iff]
  unfold d_trip
  rw [anyB_iff, anyB_iff]
  have h7 := hS.2.2.2.2.2.2.1
  constructor
  · rintro ⟨j, h1, h2⟩; exact ⟨j, h1, by rw [← h _ (h7 j h1).1]; exact h2⟩
  · rintro ⟨j, h1, h2⟩; exact ⟨j, h1, by rw [h _ (h7 j h1).1]; exact h2⟩
theorem LONG_n (hi : INV q s n nt) : ∃ F, F ≤ 200 ∧ q 2 0 = nI F ∧ (q 2 0).toInt.toNat = F := by
  have h := hi.1.1.2.2.1.1
  rw [LN_2] at h
  obtain ⟨F, h1, h2⟩ := bd_nI (x := q 2 0) (by unfold bd; omega)
  refine ⟨F, h1, h2, ?_⟩
  rw [h2, nI_toInt (by omega)]
  omega
theorem o_right (hi : INV q s n nt) (f : Int32) : OPi E 80 165 [.ref 0, .int f] [.ref 61, .int f, am_dm] q s := by
  obtain ⟨⟨l1, l2⟩, ⟨l3, l4⟩, ⟨l5, l6⟩, l7⟩ := lay_b hi
  by_cases hf : 1 ≤ f ∧ f ≤ 100000
  · by_cases hdk : dk q n
    · refine ⟨-3, q, s, q, s, n, nt, ?_, ?_, hi⟩
      · simp only [b_80_e, b_80_10, b_80_23, b_80_44, b_80_59, b_80_60, e_iload_1, cc_X_isFaultCurrent_0, cc_X_isFaultCurrent_1, cc_X_isFaultCurrent_2, cc_X_isFaultCurrent_3, Option.toList_some, Option.toList_none, List.cons_append, List.nil_append, e_if_ne, k_m2, e_iret, e_aloadr_0, g_512_0, cc_Line_isDark_0, cc_Line_isDark_1, cc_Line_isDark_2, cc_Line_isDark_3, e_if_eq, k_m3, g_513_0, k_m9, cc_Day_takeStations_0, cc_Day_takeStations_1, cc_Day_takeStations_2, cc_Day_takeStations_3, k_1, k_0, e_goto, k_2, e_jsr, eq_self, hf, cc_Line_isDark_0 l1 l2, i_dk1 hi, hdk, not_true_eq_false, not_false_eq_true, if_true, if_false, true_or, or_true, false_or, or_false, true_and, and_true, false_and, and_false, and_self, or_self, reduceIte, Bool.false_eq_true, i10, i01]
      · simp only [b_165_e, b_165_13, b_165_23, b_165_45, b_165_51, b_165_78, b_165_84, e_iload_1, k_1, k_100000, cc_M_within_0, cc_M_within_1, cc_M_within_2, cc_M_within_3, Option.toList_some, Option.toList_none, List.cons_append, List.nil_append, e_if_ne, k_m2, e_iret, e_aloadr_0, cc_M_isDark_0, cc_M_isDark_1, cc_M_isDark_2, cc_M_isDark_3, e_if_eq, k_m3, k_0, e_istore_2, e_kpi, e_kpr, e_kpl, e_kpd, e_jsr, e_iload_2, k_24, e_icmp_ge, e_iinc_2, e_goto, g_578_61, il_62, il_63, il_64, il_66, il_67, il_68, il_69, il_70, il_71, il_72, il_73, il_74, il_75, il_76, il_77, ik_62_0, ik_62_1, ik_62_2, ik_62_3, ik_62_4, ik_73_0, ik_74_0, e_icmp_gt, k_2, eq_self, hf, cc_M_isDark_0 l5 l2, i_dk2 hi, hdk, not_true_eq_false, not_false_eq_true, if_true, if_false, true_or, or_true, false_or, or_false, true_and, and_true, false_and, and_false, and_self, or_self, reduceIte, Bool.false_eq_true, i10, i01]
    · have hm : 0 < q_m (kC (LN q) (-9) n) := Nat.pos_of_ne_zero hdk
      obtain ⟨F, hF1, hF2, _⟩ := LONG_n hi
      have hfb := f_bd hf
      have hcT := LI_T hi.1.1 (-9)
      have hW : LiW (tks q (-9) n) := LiW_of (LiW_i hi) (fun k hk => tks_ne (by omega) (by omega) (by omega) n)
      obtain ⟨p, r, e1, e2, e3⟩ := y_ttrip (E := E) (ml := s) hcT hm hi.1.1.2.2.2.1 hW
      have cc1 : ∀ {M_ : Nat} {c_ : List Instr} {L_ : List Value}, ev E M_ (.invokevirtual 81 :: c_) L_ (.ref 26 :: []) (HH (tks q (-9) n) s) = ev E M_ c_ L_ (.int (if anyB (fun t => d_trip (kC (LN q) (-9) n) (q_end (kC (LN q) (-9) n) (kL (LN q) (kO (LN q)) nt t)) (sSw (tks q (-9) n))) 24 = true then 1 else 0) :: []) (HH p r) := fun {M_} {c_} {L_} => e_inv (as := [.ref 26]) (S := []) rfl rfl (Nat.le_of_ble_eq_true rfl) (rfl) (e1)
      have esw : sSw (tks q (-9) n) = sSw (tks q (-9) n) := rfl
      generalize hT1 : anyB (fun t => d_trip (kC (LN q) (-9) n) (q_end (kC (LN q) (-9) n) (kL (LN q) (kO (LN q)) nt t)) (sSw (tks q (-9) n))) 24 = T1 at cc1
      have hf2 : f2 p q := f2_tr (f2_f1 e2) f2_tks
      have hcTp := cT_f1 (Or.inl rfl) hcT e2
      have e20 : p 2 0 = nI F := by rw [← hF2]; exact hf2 2 0 (by decide) (by decide) (by decide) (by decide) (by decide) (by decide) (by decide) (by decide) (by decide)
      obtain ⟨p1, r1, g1', g2', g3'⟩ := y_parts (E := E) (ml := r) (F := F) (f := f) hcTp.1 hcTp.2.1 hm (LiW_of hW (f1_sw e2)) e20 hF1 hfb
      have cc2 : ∀ {M_ : Nat} {c_ : List Instr} {L_ : List Value}, ev E M_ (.invokevirtual 83 :: c_) L_ (.int f :: .ref 26 :: []) (HH p r) = ev E M_ c_ L_ (.int (if anyB (fun x => !d_trip (kC (LN q) (-9) n) (fL x f.toInt) (sSw p)) (F + 1) = true then 0 else 1) :: []) (HH p1 r1) := fun {M_} {c_} {L_} => e_inv (as := [.ref 26, .int f]) (S := []) rfl rfl (Nat.le_of_ble_eq_true rfl) (rfl) (g1')
      generalize hT2 : anyB (fun (x : Nat) => !d_trip (kC (LN q) (-9) n) (fL x f.toInt) (sSw p)) (F + 1) = T2 at cc2
      -- the class's answer
      have hcls : ∃ pp rr, ev E 80 (am_B 80 0) [.ref 0, .int f] [] (HH q s) = some (some (.int (if T1 = true then 1 else if T2 = true then 2 else 0)), HH pp rr) ∧ f2 pp q ∧ g1 rr s := by
        by_cases h1 : T1 = true
        · refine ⟨p, r, ?_, hf2, e3⟩
          simp only [b_80_e, b_80_10, b_80_23, b_80_44, b_80_59, b_80_60, e_iload_1, cc_X_isFaultCurrent_0, cc_X_isFaultCurrent_1, cc_X_isFaultCurrent_2, cc_X_isFaultCurrent_3, Option.toList_some, Option.toList_none, List.cons_append, List.nil_append, e_if_ne, k_m2, e_iret, e_aloadr_0, g_512_0, cc_Line_isDark_0, cc_Line_isDark_1, cc_Line_isDark_2, cc_Line_isDark_3, e_if_eq, k_m3, g_513_0, k_m9, cc_Day_takeStations_0, cc_Day_takeStations_1, cc_Day_takeStations_2, cc_Day_takeStations_3, k_1, k_0, e_goto, k_2, e_jsr, eq_self, hf, cc_Line_isDark_0 l1 l2, i_dk1 hi, hdk, cc_Day_takeStations_0 l1 l2, cc1, h1, not_true_eq_false, not_false_eq_true, if_true, if_false, true_or, or_true, false_or, or_false, true_and, and_true, false_and, and_false, and_self, or_self, reduceIte, Bool.false_eq_true, i10, i01]
        · by_cases h2 : T2 = true
          · refine ⟨p1, r1, ?_, f2_tr (f2_f1 g2') hf2, g1_tr g3' e3⟩
            simp only [b_80_e, b_80_10, b_80_23, b_80_44, b_80_59, b_80_60, e_iload_1, cc_X_isFaultCurrent_0, cc_X_isFaultCurrent_1, cc_X_isFaultCurrent_2, cc_X_isFaultCurrent_3, Option.toList_some, Option.toList_none, List.cons_append, List.nil_append, e_if_ne, k_m2, e_iret, e_aloadr_0, g_512_0, cc_Line_isDark_0, cc_Line_isDark_1, cc_Line_isDark_2, cc_Line_isDark_3, e_if_eq, k_m3, g_513_0, k_m9, cc_Day_takeStations_0, cc_Day_takeStations_1, cc_Day_takeStations_2, cc_Day_takeStations_3, k_1, k_0, e_goto, k_2, e_jsr, eq_self, hf, cc_Line_isDark_0 l1 l2, i_dk1 hi, hdk, cc_Day_takeStations_0 l1 l2, cc1, cc2, h1, h2, not_true_eq_false, not_false_eq_true, if_true, if_false, true_or, or_true, false_or, or_false, true_and, and_true, false_and, and_false, and_self, or_self, reduceIte, Bool.false_eq_true, i10, i01]
          · refine ⟨p1, r1, ?_, f2_tr (f2_f1 g2') hf2, g1_tr g3' e3⟩
            simp only [b_80_e, b_80_10, b_80_23, b_80_44, b_80_59, b_80_60, e_iload_1, cc_X_isFaultCurrent_0, cc_X_isFaultCurrent_1, cc_X_isFaultCurrent_2, cc_X_isFaultCurrent_3, Option.toList_some, Option.toList_none, List.cons_append, List.nil_append, e_if_ne, k_m2, e_iret, e_aloadr_0, g_512_0, cc_Line_isDark_0, cc_Line_isDark_1, cc_Line_isDark_2, cc_Line_isDark_3, e_if_eq, k_m3, g_513_0, k_m9, cc_Day_takeStations_0, cc_Day_takeStations_1, cc_Day_takeStations_2, cc_Day_takeStations_3, k_1, k_0, e_goto, k_2, e_jsr, eq_self, hf, cc_Line_isDark_0 l1 l2, i_dk1 hi, hdk, cc_Day_takeStations_0 l1 l2, cc1, cc2, h1, h2, not_true_eq_false, not_false_eq_true, if_true, if_false, true_or, or_true, false_or, or_false, true_and, and_true, false_and, and_false, and_self, or_self, reduceIte, Bool.false_eq_true, i10, i01]
      obtain ⟨pp, rr, c1, c2, c3⟩ := hcls
      have hip := INV_of hi (sc_f2 c2) (sl_g1 c3)
      obtain ⟨I, hZ⟩ := i_rS hip
      rw [LN_f2 c2] at hZ
      obtain ⟨⟨m1, m2⟩, ⟨m3, m4⟩, ⟨m5, m6⟩, m7⟩ := lay_b hip
      have hdp : ¬ dk pp n := by unfold dk; rw [LN_f2 c2]; exact hdk
      have em0 : pp 62 0 = nI F := by rw [m7 0 (by decide), ← hF2]; exact c2 2 0 (by decide) (by decide) (by decide) (by decide) (by decide) (by decide) (by decide) (by decide) (by decide)
      -- switches
      have hsq : ∀ k, k < n → sSw (tks q (-9) n) k = sSw q k := fun k hk => by unfold sSw; rw [tks_ne (by omega) (by omega) (by omega)]
      have hsp : ∀ k, k < n → sSw p k = sSw q k := fun k hk => by unfold sSw; rw [hf2 (6 + k) 3 (by omega) (by omega) (by omega) (by omega) (by omega) (by omega) (by omega) (by omega) (by omega)]
      have hspp : ∀ k, k < n → mSw pp k = sSw q k := fun k hk => by rw [sw_i hip hk]; unfold sSw; rw [c2 (6 + k) 3 (by omega) (by omega) (by omega) (by omega) (by omega) (by omega) (by omega) (by omega) (by omega)]
      have hW66 : ∀ (o : Nat → Nat → Int32), h1 o pp → ∀ k, k < n → (o 66 k).toInt.natAbs ≤ 100000 := fun o ho k hk => by
        rw [ho 66 k (by omega) (by decide) (by decide) (by decide) (by decide) (by decide)]
        have h1 := hspp k hk
        unfold mSw sSw at h1
        rw [h1]
        have := (hi.1.2.1 k (by omega)).2
        omega
      have hms : ∀ (o : Nat → Nat → Int32), h1 o pp → ∀ k, k < n → mSw o k = sSw q k := fun o ho k hk => by
        rw [← hspp k hk]; unfold mSw; rw [ho 66 k (by omega) (by decide) (by decide) (by decide) (by decide) (by decide)]
      have hT1' : ∀ t, d_trip (kC (LN q) (-9) n) (q_end (kC (LN q) (-9) n) (kL (LN q) (kO (LN q)) nt t)) (sSw (tks q (-9) n)) = d_trip (kC (LN q) (-9) n) (q_end (kC (LN q) (-9) n) (kL (LN q) (kO (LN q)) nt t)) (sSw q) := fun t => trip_cg hZ.1 hsq
      have hT2' : ∀ x : Nat, d_trip (kC (LN q) (-9) n) (fL x f.toInt) (sSw p) = d_trip (kC (LN q) (-9) n) (fL x f.toInt) (sSw q) := fun x => trip_cg hZ.1 hsp
      simp only [hT1'] at hT1
      simp only [hT2'] at hT2
      -- second loop
      have hsec : ∀ (o : Nat → Nat → Int32) (u : Nat → Nat → Int64), h1 o pp → k1 u rr → ∃ o2 u2, ev E 165 (am_B 165 (Int.toNat 53)) [.ref 61, .int f, .int (nI 0)] [] (HH o u) = some (some (.int (if T2 = true then 2 else 0)), HH o2 u2) ∧ h1 o2 pp ∧ k1 u2 rr := by
        intro o u ho hu
        refine loop_ex (fun i (x : (Nat → Nat → Int32) × (Nat → Nat → Int64)) => ev E 165 (am_B 165 (Int.toNat 53)) [.ref 61, .int f, .int (nI i)] [] (HH x.1 x.2)) (fun i x => h1 x.1 pp ∧ k1 x.2 rr ∧ ∀ t : Nat, t < i → d_trip (kC (LN q) (-9) n) (fL t f.toInt) (sSw q) = true) (fun y => ∃ o2 u2, y = some (some (.int (if T2 = true then 2 else 0)), HH o2 u2) ∧ h1 o2 pp ∧ k1 u2 rr) (F + 1) (fun i x hi2 hj => ?_) (fun x hj => ?_) (o, u) ⟨ho, hu, fun t ht => by omega⟩
        · obtain ⟨a, b⟩ := x
          obtain ⟨j1, j2, j3⟩ := hj
          dsimp only at j1 j2 j3 ⊢
          have hti : (nI i).toInt = i := nI_toInt (by omega)
          have hbi : bd (nI i) := by unfold bd; rw [hti]; omega
          have e20a : a 62 0 = nI F := by rw [j1 62 0 (by decide) (by decide) (by decide) (by decide) (by decide) (by decide)]; exact em0
          have hgt : (nI F < nI i) = False := eq_false (fun z => by have := (nI_ltI (by omega) (by omega)).mp z; omega)
          have hZa := rZ_h1 hZ j1
          obtain ⟨a2, b2, w1, w2, w3, w4⟩ := x_fault (E := E) (ml := b) (x := nI i) (f := f) hZa.1 hZa.2.1 hm hbi hfb
          rw [hti] at w2
          have cc3 : ∀ {M_ : Nat} {c_ : List Instr} {L_ : List Value}, ev E M_ (.invokevirtual 164 :: c_) L_ (.int f :: .int (nI i) :: .ref 61 :: []) (HH a b) = ev E M_ c_ L_ [] (HH a2 b2) := fun {M_} {c_} {L_} => e_inv (as := [.ref 61, .int (nI i), .int f]) (S := []) rfl rfl (Nat.le_of_ble_eq_true rfl) (rfl) (w1)
          have ha2 : h1 a2 pp := h1_tr (h1_fq w3) j1
          obtain ⟨b3, v1, v2⟩ := x_trip (E := E) (ml := b2) w2 hm (hW66 a2 ha2)
          rw [trip_cg (sv := sSw q) w2.1 (hms a2 ha2)] at v1
          have cc4 : ∀ {M_ : Nat} {c_ : List Instr} {L_ : List Value}, ev E M_ (.invokevirtual 166 :: c_) L_ (.ref 61 :: []) (HH a2 b2) = ev E M_ c_ L_ (.int (if d_trip (kC (LN q) (-9) n) (fL i f.toInt) (sSw q) = true then 1 else 0) :: []) (HH a2 b3) := fun {M_} {c_} {L_} => e_inv (as := [.ref 61]) (S := []) rfl rfl (Nat.le_of_ble_eq_true rfl) (rfl) (v1)
          have hk3 : k1 b3 rr := k1_tr (k1_k2 v2) (k1_tr (k1_k2 w4) j2)
          by_cases ht : d_trip (kC (LN q) (-9) n) (fL i f.toInt) (sSw q) = true
          · right
            refine ⟨(a2, b3), hd b_165_53 ?_, ha2, hk3, fun t h2 => ?_⟩
            · simp only [b_165_e, b_165_13, b_165_23, b_165_45, b_165_51, b_165_78, b_165_84, e_iload_1, k_1, k_100000, cc_M_within_0, cc_M_within_1, cc_M_within_2, cc_M_within_3, Option.toList_some, Option.toList_none, List.cons_append, List.nil_append, e_if_ne, k_m2, e_iret, e_aloadr_0, cc_M_isDark_0, cc_M_isDark_1, cc_M_isDark_2, cc_M_isDark_3, e_if_eq, k_m3, k_0, e_istore_2, e_kpi, e_kpr, e_kpl, e_kpd, e_jsr, e_iload_2, k_24, e_icmp_ge, e_iinc_2, e_goto, g_578_61, il_62, il_63, il_64, il_66, il_67, il_68, il_69, il_70, il_71, il_72, il_73, il_74, il_75, il_76, il_77, ik_62_0, ik_62_1, ik_62_2, ik_62_3, ik_62_4, ik_73_0, ik_74_0, e_icmp_gt, k_2, eq_self, e20a, hgt, cc3, cc4, ht, not_true_eq_false, not_false_eq_true, if_true, if_false, true_or, or_true, false_or, or_false, true_and, and_true, false_and, and_false, and_self, or_self, reduceIte, Bool.false_eq_true, i10, i01, e_inc1]
            · by_cases e : t = i
              · rw [e]; exact ht
              · exact j3 t (by omega)
          · left
            have hT : T2 = true := by rw [← hT2]; exact anyB_iff.mpr ⟨i, hi2, by simpa using ht⟩
            refine ⟨a2, b3, hd b_165_53 ?_, ha2, hk3⟩
            simp only [b_165_e, b_165_13, b_165_23, b_165_45, b_165_51, b_165_78, b_165_84, e_iload_1, k_1, k_100000, cc_M_within_0, cc_M_within_1, cc_M_within_2, cc_M_within_3, Option.toList_some, Option.toList_none, List.cons_append, List.nil_append, e_if_ne, k_m2, e_iret, e_aloadr_0, cc_M_isDark_0, cc_M_isDark_1, cc_M_isDark_2, cc_M_isDark_3, e_if_eq, k_m3, k_0, e_istore_2, e_kpi, e_kpr, e_kpl, e_kpd, e_jsr, e_iload_2, k_24, e_icmp_ge, e_iinc_2, e_goto, g_578_61, il_62, il_63, il_64, il_66, il_67, il_68, il_69, il_70, il_71, il_72, il_73, il_74, il_75, il_76, il_77, ik_62_0, ik_62_1, ik_62_2, ik_62_3, ik_62_4, ik_73_0, ik_74_0, e_icmp_gt, k_2, eq_self, e20a, hgt, cc3, cc4, ht, hT, not_true_eq_false, not_false_eq_true, if_true, if_false, true_or, or_true, false_or, or_false, true_and, and_true, false_and, and_false, and_self, or_self, reduceIte, Bool.false_eq_true, i10, i01]
        · obtain ⟨a, b⟩ := x
          obtain ⟨j1, j2, j3⟩ := hj
          dsimp only at j1 j2 j3 ⊢
          have e20a : a 62 0 = nI F := by rw [j1 62 0 (by decide) (by decide) (by decide) (by decide) (by decide) (by decide)]; exact em0
          have hgt : (nI F < nI (F + 1)) = True := eq_true ((nI_ltI (by omega) (by omega)).mpr (by omega))
          have hT : T2 = false := by
            rw [← hT2]
            cases h : anyB (fun (x : Nat) => !d_trip (kC (LN q) (-9) n) (fL x f.toInt) (sSw q)) (F + 1) with
            | false => rfl
            | true => obtain ⟨t, h1, h2⟩ := anyB_iff.mp h; rw [j3 t h1] at h2; cases h2
          refine ⟨a, b, hd b_165_53 ?_, j1, j2⟩
          simp only [b_165_e, b_165_13, b_165_23, b_165_45, b_165_51, b_165_78, b_165_84, e_iload_1, k_1, k_100000, cc_M_within_0, cc_M_within_1, cc_M_within_2, cc_M_within_3, Option.toList_some, Option.toList_none, List.cons_append, List.nil_append, e_if_ne, k_m2, e_iret, e_aloadr_0, cc_M_isDark_0, cc_M_isDark_1, cc_M_isDark_2, cc_M_isDark_3, e_if_eq, k_m3, k_0, e_istore_2, e_kpi, e_kpr, e_kpl, e_kpd, e_jsr, e_iload_2, k_24, e_icmp_ge, e_iinc_2, e_goto, g_578_61, il_62, il_63, il_64, il_66, il_67, il_68, il_69, il_70, il_71, il_72, il_73, il_74, il_75, il_76, il_77, ik_62_0, ik_62_1, ik_62_2, ik_62_3, ik_62_4, ik_73_0, ik_74_0, e_icmp_gt, k_2, eq_self, e20a, hgt, hT, not_true_eq_false, not_false_eq_true, if_true, if_false, true_or, or_true, false_or, or_false, true_and, and_true, false_and, and_false, and_self, or_self, reduceIte, Bool.false_eq_true, i10, i01]
      have hfst : ∃ o2 u2, ev E 165 (am_B 165 (Int.toNat 25)) [.ref 61, .int f, .int (nI 0)] [] (HH pp rr) = some (some (.int (if T1 = true then 1 else if T2 = true then 2 else 0)), HH o2 u2) ∧ h1 o2 pp ∧ k1 u2 rr := by
        refine loop_ex (fun i (x : (Nat → Nat → Int32) × (Nat → Nat → Int64)) => ev E 165 (am_B 165 (Int.toNat 25)) [.ref 61, .int f, .int (nI i)] [] (HH x.1 x.2)) (fun i x => h1 x.1 pp ∧ k1 x.2 rr ∧ ∀ t : Nat, t < i → d_trip (kC (LN q) (-9) n) (q_end (kC (LN q) (-9) n) (kL (LN q) (kO (LN q)) nt t)) (sSw q) = false) (fun y => ∃ o2 u2, y = some (some (.int (if T1 = true then 1 else if T2 = true then 2 else 0)), HH o2 u2) ∧ h1 o2 pp ∧ k1 u2 rr) 24 (fun i x hi2 hj => ?_) (fun x hj => ?_) (pp, rr) ⟨h1_rf, k1_rf, fun t ht => by omega⟩
        · obtain ⟨a, b⟩ := x
          obtain ⟨j1, j2, j3⟩ := hj
          dsimp only at j1 j2 j3 ⊢
          have hZa := rZ_h1 hZ j1
          obtain ⟨a2, b2, w1, w2, w3, w4, w5⟩ := x_tick (E := E) (ml := b) hZa hi.1.1.2.2.2.1 hi2 hm
          have cc3 : ∀ {M_ : Nat} {c_ : List Instr} {L_ : List Value}, ev E M_ (.invokevirtual 142 :: c_) L_ (.int (nI i) :: .ref 61 :: []) (HH a b) = ev E M_ c_ L_ [] (HH a2 b2) := fun {M_} {c_} {L_} => e_inv (as := [.ref 61, .int (nI i)]) (S := []) rfl rfl (Nat.le_of_ble_eq_true rfl) (rfl) (w1)
          have ha2 : h1 a2 pp := h1_tr (h1_fq w2) j1
          obtain ⟨b3, v1, v2⟩ := x_trip (E := E) (ml := b2) w3 hm (hW66 a2 ha2)
          rw [trip_cg (sv := sSw q) w3.1 (hms a2 ha2)] at v1
          have cc4 : ∀ {M_ : Nat} {c_ : List Instr} {L_ : List Value}, ev E M_ (.invokevirtual 166 :: c_) L_ (.ref 61 :: []) (HH a2 b2) = ev E M_ c_ L_ (.int (if d_trip (kC (LN q) (-9) n) (q_end (kC (LN q) (-9) n) (kL (LN q) (kO (LN q)) nt i)) (sSw q) = true then 1 else 0) :: []) (HH a2 b3) := fun {M_} {c_} {L_} => e_inv (as := [.ref 61]) (S := []) rfl rfl (Nat.le_of_ble_eq_true rfl) (rfl) (v1)
          have hk3 : k1 b3 rr := k1_tr (k1_k2 v2) (k1_tr (k1_ux w4) j2)
          by_cases ht : d_trip (kC (LN q) (-9) n) (q_end (kC (LN q) (-9) n) (kL (LN q) (kO (LN q)) nt i)) (sSw q) = true
          · left
            have hT : T1 = true := by rw [← hT1]; exact anyB_iff.mpr ⟨i, hi2, ht⟩
            refine ⟨a2, b3, hd b_165_25 ?_, ha2, hk3⟩
            simp only [b_165_e, b_165_13, b_165_23, b_165_45, b_165_51, b_165_78, b_165_84, e_iload_1, k_1, k_100000, cc_M_within_0, cc_M_within_1, cc_M_within_2, cc_M_within_3, Option.toList_some, Option.toList_none, List.cons_append, List.nil_append, e_if_ne, k_m2, e_iret, e_aloadr_0, cc_M_isDark_0, cc_M_isDark_1, cc_M_isDark_2, cc_M_isDark_3, e_if_eq, k_m3, k_0, e_istore_2, e_kpi, e_kpr, e_kpl, e_kpd, e_jsr, e_iload_2, k_24, e_icmp_ge, e_iinc_2, e_goto, g_578_61, il_62, il_63, il_64, il_66, il_67, il_68, il_69, il_70, il_71, il_72, il_73, il_74, il_75, il_76, il_77, ik_62_0, ik_62_1, ik_62_2, ik_62_3, ik_62_4, ik_73_0, ik_74_0, e_icmp_gt, k_2, eq_self, le24 hi2, cc3, cc4, ht, hT, not_true_eq_false, not_false_eq_true, if_true, if_false, true_or, or_true, false_or, or_false, true_and, and_true, false_and, and_false, and_self, or_self, reduceIte, Bool.false_eq_true, i10, i01]
          · right
            refine ⟨(a2, b3), hd b_165_25 ?_, ha2, hk3, fun t h2 => ?_⟩
            · simp only [b_165_e, b_165_13, b_165_23, b_165_45, b_165_51, b_165_78, b_165_84, e_iload_1, k_1, k_100000, cc_M_within_0, cc_M_within_1, cc_M_within_2, cc_M_within_3, Option.toList_some, Option.toList_none, List.cons_append, List.nil_append, e_if_ne, k_m2, e_iret, e_aloadr_0, cc_M_isDark_0, cc_M_isDark_1, cc_M_isDark_2, cc_M_isDark_3, e_if_eq, k_m3, k_0, e_istore_2, e_kpi, e_kpr, e_kpl, e_kpd, e_jsr, e_iload_2, k_24, e_icmp_ge, e_iinc_2, e_goto, g_578_61, il_62, il_63, il_64, il_66, il_67, il_68, il_69, il_70, il_71, il_72, il_73, il_74, il_75, il_76, il_77, ik_62_0, ik_62_1, ik_62_2, ik_62_3, ik_62_4, ik_73_0, ik_74_0, e_icmp_gt, k_2, eq_self, le24 hi2, cc3, cc4, ht, not_true_eq_false, not_false_eq_true, if_true, if_false, true_or, or_true, false_or, or_false, true_and, and_true, false_and, and_false, and_self, or_self, reduceIte, Bool.false_eq_true, i10, i01, e_inc1]
            · by_cases e : t = i
              · rw [e]; simpa using ht
              · exact j3 t (by omega)
        · obtain ⟨a, b⟩ := x
          obtain ⟨j1, j2, j3⟩ := hj
          dsimp only at j1 j2 j3 ⊢
          have hT : T1 = false := by
            rw [← hT1]
            cases h : anyB (fun t => d_trip (kC (LN q) (-9) n) (q_end (kC (LN q) (-9) n) (kL (LN q) (kO (LN q)) nt t)) (sSw q)) 24 with
            | false => rfl
            | true => obtain ⟨t, h1, h2⟩ := anyB_iff.mp h; rw [j3 t h1] at h2; cases h2
          obtain ⟨o2, u2, z1, z2⟩ := hsec a b j1 j2
          refine ⟨o2, u2, hd b_165_25 ?_, z2⟩
          rw [hT, if_neg (by decide), ← z1]
          simp only [b_165_e, b_165_13, b_165_23, b_165_45, b_165_51, b_165_78, b_165_84, e_iload_1, k_1, k_100000, cc_M_within_0, cc_M_within_1, cc_M_within_2, cc_M_within_3, Option.toList_some, Option.toList_none, List.cons_append, List.nil_append, e_if_ne, k_m2, e_iret, e_aloadr_0, cc_M_isDark_0, cc_M_isDark_1, cc_M_isDark_2, cc_M_isDark_3, e_if_eq, k_m3, k_0, e_istore_2, e_kpi, e_kpr, e_kpl, e_kpd, e_jsr, e_iload_2, k_24, e_icmp_ge, e_iinc_2, e_goto, g_578_61, il_62, il_63, il_64, il_66, il_67, il_68, il_69, il_70, il_71, il_72, il_73, il_74, il_75, il_76, il_77, ik_62_0, ik_62_1, ik_62_2, ik_62_3, ik_62_4, ik_73_0, ik_74_0, e_icmp_gt, k_2, eq_self, le2424, not_true_eq_false, not_false_eq_true, if_true, if_false, true_or, or_true, false_or, or_false, true_and, and_true, false_and, and_false, and_self, or_self, reduceIte, Bool.false_eq_true, i10, i01]
          rfl
      obtain ⟨o2, u2, z1, z2, z3⟩ := hfst
      refine ⟨(if T1 = true then 1 else if T2 = true then 2 else 0), pp, rr, o2, u2, n, nt, c1, ?_, INV_of hip (sc_h1 z2) (sl_k1 z3)⟩
      rw [← z1]
      simp only [b_165_e, b_165_13, b_165_23, b_165_45, b_165_51, b_165_78, b_165_84, e_iload_1, k_1, k_100000, cc_M_within_0, cc_M_within_1, cc_M_within_2, cc_M_within_3, Option.toList_some, Option.toList_none, List.cons_append, List.nil_append, e_if_ne, k_m2, e_iret, e_aloadr_0, cc_M_isDark_0, cc_M_isDark_1, cc_M_isDark_2, cc_M_isDark_3, e_if_eq, k_m3, k_0, e_istore_2, e_kpi, e_kpr, e_kpl, e_kpd, e_jsr, e_iload_2, k_24, e_icmp_ge, e_iinc_2, e_goto, g_578_61, il_62, il_63, il_64, il_66, il_67, il_68, il_69, il_70, il_71, il_72, il_73, il_74, il_75, il_76, il_77, ik_62_0, ik_62_1, ik_62_2, ik_62_3, ik_62_4, ik_73_0, ik_74_0, e_icmp_gt, k_2, eq_self, hf, cc_M_isDark_0 m5 l2, i_dk2 hip, hdp, not_true_eq_false, not_false_eq_true, if_true, if_false, true_or, or_true, false_or, or_false, true_and, and_true, false_and, and_false, and_self, or_self, reduceIte, Bool.false_eq_true, i10, i01]
      rfl
  · refine ⟨-2, q, s, q, s, n, nt, ?_, ?_, hi⟩
    · simp only [b_80_e, b_80_10, b_80_23, b_80_44, b_80_59, b_80_60, e_iload_1, cc_X_isFaultCurrent_0, cc_X_isFaultCurrent_1, cc_X_isFaultCurrent_2, cc_X_isFaultCurrent_3, Option.toList_some, Option.toList_none, List.cons_append, List.nil_append, e_if_ne, k_m2, e_iret, e_aloadr_0, g_512_0, cc_Line_isDark_0, cc_Line_isDark_1, cc_Line_isDark_2, cc_Line_isDark_3, e_if_eq, k_m3, g_513_0, k_m9, cc_Day_takeStations_0, cc_Day_takeStations_1, cc_Day_takeStations_2, cc_Day_takeStations_3, k_1, k_0, e_goto, k_2, e_jsr, eq_self, hf, not_true_eq_false, not_false_eq_true, if_true, if_false, true_or, or_true, false_or, or_false, true_and, and_true, false_and, and_false, and_self, or_self, reduceIte, Bool.false_eq_true, i10, i01]
    · simp only [b_165_e, b_165_13, b_165_23, b_165_45, b_165_51, b_165_78, b_165_84, e_iload_1, k_1, k_100000, cc_M_within_0, cc_M_within_1, cc_M_within_2, cc_M_within_3, Option.toList_some, Option.toList_none, List.cons_append, List.nil_append, e_if_ne, k_m2, e_iret, e_aloadr_0, cc_M_isDark_0, cc_M_isDark_1, cc_M_isDark_2, cc_M_isDark_3, e_if_eq, k_m3, k_0, e_istore_2, e_kpi, e_kpr, e_kpl, e_kpd, e_jsr, e_iload_2, k_24, e_icmp_ge, e_iinc_2, e_goto, g_578_61, il_62, il_63, il_64, il_66, il_67, il_68, il_69, il_70, il_71, il_72, il_73, il_74, il_75, il_76, il_77, ik_62_0, ik_62_1, ik_62_2, ik_62_3, ik_62_4, ik_73_0, ik_74_0, e_icmp_gt, k_2, eq_self, hf, not_true_eq_false, not_false_eq_true, if_true, if_false, true_or, or_true, false_or, or_false, true_and, and_true, false_and, and_false, and_self, or_self, reduceIte, Bool.false_eq_true, i10, i01]
end Dz
