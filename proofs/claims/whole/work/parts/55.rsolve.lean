/-! THE REFERENCE'S part, isTooHigh, nextBack -/
section Pt
variable {E : aE}
theorem pt_loop {w : Int32} {U D : Int} {mi : Nat → Nat → Int32} {ml : Nat → Nat → Int64} (h0 : ml 61 19 = Int64.ofInt U) (h1 : ml 61 20 = Int64.ofInt D) (hU : U.natAbs < 4611686018427387904) (hD : 0 < D ∧ D < 1099511627776) : ∀ (k A B : Nat) (v : Value), B < k → A < 4611686018427387904 → B < 4611686018427387904 → 0 < Nat.gcd A B → Nat.gcd A B < 4611686018427387904 → ev E 154 (am_B 154 (Int.toNat 28)) [.ref 61, .int w, .long (Int64.ofInt (A : Int)), am_dm, .long (Int64.ofInt (B : Int)), am_dm, v, am_dm] [] (HH mi ml) = some (some (.long (Int64.ofInt (if w = 0 then U.tdiv (Nat.gcd A B) else D.tdiv (Nat.gcd A B)))), HH mi ml) := by
  intro k
  induction k with
  | zero => intro A B v h; omega
  | succ k ih =>
    intro A B v hk hA hB hg hg2
    refine hd b_154_28 ?_
    by_cases hz : B = 0
    · subst hz
      rw [Nat.gcd_zero_right] at hg ⊢
      have hne : ¬ Int64.ofInt (A : Int) = 0 := by rw [i64_z hA]; omega
      by_cases hw : w = 0
      · simp only [b_154_e, b_154_17, b_154_21, b_154_51, b_154_64, b_154_70, e_aloadr_0, g_595_61, kl_0, e_lcmp, e_if_ge, e_lneg, e_goto, e_jsr, e_lstore_2, e_kpi, e_kpr, e_kpl, e_kpd, g_596_61, e_lstore_4, e_lload_4, e_if_eq, e_lload_2, e_lrem, e_lstore_6, e_lload_6, e_iload_1, e_if_ne, e_ldiv, e_lret, eq_self, lg_cmp_eq, i64_z (show 0 < 4611686018427387904 by decide), h0, h1, hw, e_ldiv hne, i64_div (A := U) (B := (A : Int)) (by omega) (by omega) (by omega), not_true_eq_false, not_false_eq_true, if_true, if_false, true_or, or_true, false_or, or_false, true_and, and_true, false_and, and_false, and_self, or_self, reduceIte, Bool.false_eq_true, i10, i01]
      · simp only [b_154_e, b_154_17, b_154_21, b_154_51, b_154_64, b_154_70, e_aloadr_0, g_595_61, kl_0, e_lcmp, e_if_ge, e_lneg, e_goto, e_jsr, e_lstore_2, e_kpi, e_kpr, e_kpl, e_kpd, g_596_61, e_lstore_4, e_lload_4, e_if_eq, e_lload_2, e_lrem, e_lstore_6, e_lload_6, e_iload_1, e_if_ne, e_ldiv, e_lret, eq_self, lg_cmp_eq, i64_z (show 0 < 4611686018427387904 by decide), h0, h1, hw, e_ldiv hne, i64_div (A := D) (B := (A : Int)) (by omega) (by omega) (by omega), not_true_eq_false, not_false_eq_true, if_true, if_false, true_or, or_true, false_or, or_false, true_and, and_true, false_and, and_false, and_self, or_self, reduceIte, Bool.false_eq_true, i10, i01]
    · have hne : ¬ Int64.ofInt (B : Int) = 0 := by rw [i64_z hB]; exact hz
      have hr : A % B < B := Nat.mod_lt _ (by omega)
      simp only [b_154_e, b_154_17, b_154_21, b_154_51, b_154_64, b_154_70, e_aloadr_0, g_595_61, kl_0, e_lcmp, e_if_ge, e_lneg, e_goto, e_jsr, e_lstore_2, e_kpi, e_kpr, e_kpl, e_kpd, g_596_61, e_lstore_4, e_lload_4, e_if_eq, e_lload_2, e_lrem, e_lstore_6, e_lload_6, e_iload_1, e_if_ne, e_ldiv, e_lret, eq_self, lg_cmp_eq, i64_z hB, hz, e_lrem hne, i64_rem hA hB, not_true_eq_false, not_false_eq_true, if_true, if_false, true_or, or_true, false_or, or_false, true_and, and_true, false_and, and_false, and_self, or_self, reduceIte, Bool.false_eq_true, i10, i01]
      rw [gcd_step A B] at hg hg2 ⊢
      exact ih B (A % B) _ (by omega) hB (by omega) hg hg2
variable {mi : Nat → Nat → Int32} {ml : Nat → Nat → Int64}
theorem ct_M_part {U D : Int} {w : Int32} (h0 : ml 61 19 = Int64.ofInt U) (h1 : ml 61 20 = Int64.ofInt D) (hU : U.natAbs < 4611686018427387904) (hD : 0 < D ∧ D < 1099511627776) : ev E 154 (am_B 154 0) [.ref 61, .int w, am_dm, am_dm, am_dm, am_dm, am_dm, am_dm] [] (HH mi ml) = some (some (.long (Int64.ofInt (tell0 U D w))), HH mi ml) := by
  have hD2 : D = (D.natAbs : Int) := by omega
  have hg : 0 < Nat.gcd U.natAbs D.natAbs := Nat.gcd_pos_of_pos_right _ (by omega)
  have hg2 : Nat.gcd U.natAbs D.natAbs ≤ D.natAbs := Nat.gcd_le_right _ (by omega)
  have hl := pt_loop (E := E) (w := w) (mi := mi) h0 h1 hU hD (D.natAbs + 1) U.natAbs D.natAbs am_dm (by omega) (by omega) (by omega) hg (by omega)
  rw [← hD2] at hl
  unfold tell0
  refine Eq.trans ?_ hl
  have hq : ((0 : Int64) ≤ Int64.ofInt U) = (0 ≤ U) := propext (i64_le (a := 0) (by decide) (by omega))
  by_cases hs : 0 ≤ U
  · simp only [b_154_e, b_154_17, b_154_21, b_154_51, b_154_64, b_154_70, e_aloadr_0, g_595_61, kl_0, e_lcmp, e_if_ge, e_lneg, e_goto, e_jsr, e_lstore_2, e_kpi, e_kpr, e_kpl, e_kpd, g_596_61, e_lstore_4, e_lload_4, e_if_eq, e_lload_2, e_lrem, e_lstore_6, e_lload_6, e_iload_1, e_if_ne, e_ldiv, e_lret, eq_self, h0, h1, lg_cmp_ge, hq, hs, not_true_eq_false, not_false_eq_true, if_true, if_false, true_or, or_true, false_or, or_false, true_and, and_true, false_and, and_false, and_self, or_self, reduceIte, Bool.false_eq_true, i10, i01]
    rw [show (U.natAbs : Int) = U by omega]
  · simp only [b_154_e, b_154_17, b_154_21, b_154_51, b_154_64, b_154_70, e_aloadr_0, g_595_61, kl_0, e_lcmp, e_if_ge, e_lneg, e_goto, e_jsr, e_lstore_2, e_kpi, e_kpr, e_kpl, e_kpd, g_596_61, e_lstore_4, e_lload_4, e_if_eq, e_lload_2, e_lrem, e_lstore_6, e_lload_6, e_iload_1, e_if_ne, e_ldiv, e_lret, eq_self, h0, h1, lg_cmp_ge, hq, hs, not_true_eq_false, not_false_eq_true, if_true, if_false, true_or, or_true, false_or, or_false, true_and, and_true, false_and, and_false, and_self, or_self, reduceIte, Bool.false_eq_true, i10, i01]
    rw [show (U.natAbs : Int) = -U by omega, Int64.ofInt_neg]
theorem cc_M_part_0 {M : Nat} {c : List Instr} {L : List Value} {U D : Int} {w : Int32} (h0 : ml 61 19 = Int64.ofInt U) (h1 : ml 61 20 = Int64.ofInt D) (hU : U.natAbs < 4611686018427387904) (hD : 0 < D ∧ D < 1099511627776) : ev E M (.invokevirtual 154 :: c) L (.int w :: .ref 61 :: []) (HH mi ml) = ev E M c L (.long (Int64.ofInt (tell0 U D w)) :: []) (HH mi ml) := e_inv (as := [.ref 61, .int w]) (S := []) rfl rfl (Nat.le_of_ble_eq_true rfl) (rfl) (ct_M_part h0 h1 hU hD)
theorem cc_M_part_1 {M : Nat} {c : List Instr} {L : List Value} {s0 : Value} {U D : Int} {w : Int32} (h0 : ml 61 19 = Int64.ofInt U) (h1 : ml 61 20 = Int64.ofInt D) (hU : U.natAbs < 4611686018427387904) (hD : 0 < D ∧ D < 1099511627776) : ev E M (.invokevirtual 154 :: c) L (.int w :: .ref 61 :: [s0]) (HH mi ml) = ev E M c L (.long (Int64.ofInt (tell0 U D w)) :: [s0]) (HH mi ml) := e_inv (as := [.ref 61, .int w]) (S := [s0]) rfl rfl (Nat.le_of_ble_eq_true rfl) (rfl) (ct_M_part h0 h1 hU hD)
theorem cc_M_part_2 {M : Nat} {c : List Instr} {L : List Value} {s0 s1 : Value} {U D : Int} {w : Int32} (h0 : ml 61 19 = Int64.ofInt U) (h1 : ml 61 20 = Int64.ofInt D) (hU : U.natAbs < 4611686018427387904) (hD : 0 < D ∧ D < 1099511627776) : ev E M (.invokevirtual 154 :: c) L (.int w :: .ref 61 :: [s0, s1]) (HH mi ml) = ev E M c L (.long (Int64.ofInt (tell0 U D w)) :: [s0, s1]) (HH mi ml) := e_inv (as := [.ref 61, .int w]) (S := [s0, s1]) rfl rfl (Nat.le_of_ble_eq_true rfl) (rfl) (ct_M_part h0 h1 hU hD)
theorem cc_M_part_3 {M : Nat} {c : List Instr} {L : List Value} {s0 s1 s2 : Value} {U D : Int} {w : Int32} (h0 : ml 61 19 = Int64.ofInt U) (h1 : ml 61 20 = Int64.ofInt D) (hU : U.natAbs < 4611686018427387904) (hD : 0 < D ∧ D < 1099511627776) : ev E M (.invokevirtual 154 :: c) L (.int w :: .ref 61 :: [s0, s1, s2]) (HH mi ml) = ev E M c L (.long (Int64.ofInt (tell0 U D w)) :: [s0, s1, s2]) (HH mi ml) := e_inv (as := [.ref 61, .int w]) (S := [s0, s1, s2]) rfl rfl (Nat.le_of_ble_eq_true rfl) (rfl) (ct_M_part h0 h1 hU hD)
end Pt
theorem tell_cg {U D U' D' : Int} {r : Rat} {w : Int32} (hD : 0 < D) (hD' : 0 < D') (h : qI U = r * qI D) (h' : qI U' = r * qI D') : tell0 U D w = tell0 U' D' w := by
  have key : ∀ (U D U' D' : Int), 0 < D → 0 < D' → U * D' = U' * D → U.tdiv (Nat.gcd U.natAbs D.natAbs) = U'.tdiv (Nat.gcd U'.natAbs D'.natAbs) ∧ D.tdiv (Nat.gcd U.natAbs D.natAbs) = D'.tdiv (Nat.gcd U'.natAbs D'.natAbs) := by
    intro U D U' D' hD hD' he
    have g1 : 0 < Nat.gcd U.natAbs D.natAbs := Nat.gcd_pos_of_pos_right _ (by omega)
    have g2 : 0 < Nat.gcd U'.natAbs D'.natAbs := Nat.gcd_pos_of_pos_right _ (by omega)
    obtain ⟨u, hu⟩ := Nat.gcd_dvd_left U.natAbs D.natAbs
    obtain ⟨d, hd⟩ := Nat.gcd_dvd_right U.natAbs D.natAbs
    obtain ⟨u', hu'⟩ := Nat.gcd_dvd_left U'.natAbs D'.natAbs
    obtain ⟨d', hd'⟩ := Nat.gcd_dvd_right U'.natAbs D'.natAbs
    have c1 : Nat.gcd u d = 1 := by
      have := Nat.gcd_mul_left (Nat.gcd U.natAbs D.natAbs) u d
      rw [← hu, ← hd] at this
      exact Nat.eq_of_mul_eq_mul_left g1 (by rw [← this, Nat.mul_one])
    have c2 : Nat.gcd u' d' = 1 := by
      have := Nat.gcd_mul_left (Nat.gcd U'.natAbs D'.natAbs) u' d'
      rw [← hu', ← hd'] at this
      exact Nat.eq_of_mul_eq_mul_left g2 (by rw [← this, Nat.mul_one])
    have hn : U.natAbs * D'.natAbs = U'.natAbs * D.natAbs := by rw [← Int.natAbs_mul, ← Int.natAbs_mul, he]
    generalize Nat.gcd U.natAbs D.natAbs = G at *
    generalize Nat.gcd U'.natAbs D'.natAbs = G' at *
    have hc : u * d' = u' * d := by
      rw [hu, hd, hu', hd'] at hn
      have h3 : (G * G') * (u * d') = (G * G') * (u' * d) := by
        calc (G * G') * (u * d') = G * u * (G' * d') := by rw [Nat.mul_mul_mul_comm]
          _ = G' * u' * (G * d) := hn
          _ = (G * G') * (u' * d) := by rw [Nat.mul_mul_mul_comm, Nat.mul_comm G' G]
      exact Nat.eq_of_mul_eq_mul_left (Nat.mul_pos g1 g2) h3
    have hdp : 0 < d := by
      rcases Nat.eq_zero_or_pos d with z | z
      · rw [z] at hd; omega
      · exact z
    have hdp' : 0 < d' := by
      rcases Nat.eq_zero_or_pos d' with z | z
      · rw [z] at hd'; omega
      · exact z
    have e1 : d ∣ d' := by
      have : d ∣ u * d' := by rw [hc]; exact Nat.dvd_mul_left _ _
      exact (Nat.Coprime.dvd_of_dvd_mul_left (show Nat.Coprime d u by unfold Nat.Coprime; rw [Nat.gcd_comm]; exact c1) this)
    have e2 : d' ∣ d := by
      have : d' ∣ u' * d := by rw [← hc]; exact Nat.dvd_mul_left _ _
      exact (Nat.Coprime.dvd_of_dvd_mul_left (show Nat.Coprime d' u' by unfold Nat.Coprime; rw [Nat.gcd_comm]; exact c2) this)
    have e3 : d = d' := Nat.dvd_antisymm e1 e2
    have e4 : u = u' := by rw [e3] at hc; exact Nat.eq_of_mul_eq_mul_right hdp' hc
    have dv : ∀ (z : Int) (G u : Nat), 0 < G → z.natAbs = G * u → z.tdiv G = if 0 ≤ z then (u : Int) else -(u : Int) := by
      intro z G u hG hz
      by_cases h0 : 0 ≤ z
      · rw [if_pos h0]
        have : z = (G : Int) * u := by rw [← Int.natCast_mul, ← hz]; omega
        rw [this]
        exact Int.mul_tdiv_cancel_left _ (by omega)
      · rw [if_neg h0]
        have : z = (G : Int) * -(u : Int) := by rw [Int.mul_neg, ← Int.natCast_mul, ← hz]; omega
        rw [this]
        exact Int.mul_tdiv_cancel_left _ (by omega)
    rw [dv U G u g1 hu, dv U' G' u' g2 hu', dv D G d g1 hd, dv D' G' d' g2 hd', e3, e4, if_pos (show 0 ≤ D by omega), if_pos (show 0 ≤ D' by omega)]
    refine ⟨?_, rfl⟩
    have hsg : (0 ≤ U) = (0 ≤ U') := by
      apply propext
      constructor
      · intro z
        rcases (show 0 ≤ U' ∨ U' < 0 by omega) with y | y
        · exact y
        · have a := Int.mul_nonneg z (show 0 ≤ D' by omega)
          have b := Int.mul_neg_of_neg_of_pos y hD
          omega
      · intro z
        rcases (show 0 ≤ U ∨ U < 0 by omega) with y | y
        · exact y
        · have a := Int.mul_nonneg z (show 0 ≤ D by omega)
          have b := Int.mul_neg_of_neg_of_pos y hD'
          omega
    simp only [hsg]
  have he : U * D' = U' * D := by
    rw [← qI_eq, qI_mul, qI_mul, h, h']
    grind
  obtain ⟨k1, k2⟩ := key U D U' D' hD hD' he
  unfold tell0
  rw [k1, k2]
/-- cut quotients are the share's -/
theorem cut_cg {U D U' D' N : Int} {r : Rat} (hD : 0 < D) (hD' : 0 < D') (h : qI U = r * qI D) (h' : qI U' = r * qI D') : (U * N).tdiv D = (U' * N).tdiv D' := by
  have he : U * D' = U' * D := by
    rw [← qI_eq, qI_mul, qI_mul, h, h']
    grind
  have e1 : (U * N).tdiv D = (U * N * D').tdiv (D * D') := (Int.mul_tdiv_mul_of_pos_left _ _ hD').symm
  have e2 : (U' * N).tdiv D' = (U' * N * D).tdiv (D' * D) := (Int.mul_tdiv_mul_of_pos_left _ _ hD).symm
  rw [e1, e2, Int.mul_comm D' D]
  congr 1
  have : U * N * D' = N * (U * D') := by grind
  rw [this, he]
  grind
