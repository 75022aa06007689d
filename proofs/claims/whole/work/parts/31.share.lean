/-! LEAST TERMS -/
theorem i64N {A : Nat} (h : A < 4611686018427387904) : (Int64.ofInt (A : Int)).toInt = A := Int64.toInt_ofInt_of_le (by omega) (by omega)
theorem i64I {A : Int} (h : -4611686018427387904 ≤ A ∧ A ≤ 4611686018427387904) : (Int64.ofInt A).toInt = A := Int64.toInt_ofInt_of_le (by omega) (by omega)
theorem i64_div {A B : Int} (hA : -4611686018427387904 ≤ A ∧ A ≤ 4611686018427387904) (hB : -4611686018427387904 ≤ B ∧ B ≤ 4611686018427387904) (h1 : ¬ B = -1) : Int64.ofInt A / Int64.ofInt B = Int64.ofInt (A.tdiv B) := by
  rw [← Int64.toInt_inj, Int64.toInt_div_of_ne_right _ _ (fun q => by
    have := congrArg Int64.toInt q
    rw [i64I hB] at this
    exact h1 this), i64I hA, i64I hB]
  have : (A.tdiv B).natAbs ≤ A.natAbs := by rw [Int.natAbs_tdiv]; exact Nat.div_le_self _ _
  rw [i64I (by omega)]
theorem i64_rem {A B : Nat} (hA : A < 4611686018427387904) (hB : B < 4611686018427387904) : Int64.ofInt (A : Int) - Int64.ofInt (A : Int) / Int64.ofInt (B : Int) * Int64.ofInt (B : Int) = Int64.ofInt ((A % B : Nat) : Int) := by
  rw [i64_div (by omega) (by omega) (by omega), ← Int64.ofInt_mul, ← Int64.ofInt_sub']
  congr 1
  have h1 : (A : Int).tdiv B = ((A / B : Nat) : Int) := rfl
  rw [h1]
  have h2 := Nat.div_add_mod A B
  have h3 : ((A / B : Nat) : Int) * (B : Int) = ((B * (A / B) : Nat) : Int) := by rw [Nat.mul_comm, Int.natCast_mul]
  rw [h3]
  omega
theorem i64_z {B : Nat} (hB : B < 4611686018427387904) : (Int64.ofInt (B : Int) = 0) = (B = 0) := by
  rw [k0i64]
  exact propext ((i64_eq (a := (B : Int)) (b := 0) (by omega) (by decide)).trans (by omega))
theorem mod_half {b r : Nat} (h0 : 0 < r) (h : r < b) : 2 * (b % r) < b := by
  have h1 := Nat.mod_lt b h0
  by_cases h2 : 2 * r ≤ b
  · omega
  · have : b % r = b - r := by
      rw [Nat.mod_eq_sub_mod (by omega), Nat.mod_eq_of_lt (by omega)]
    omega
theorem gcd_step (A B : Nat) : Nat.gcd A B = Nat.gcd B (A % B) := by rw [Nat.gcd_comm A B, Nat.gcd_rec B A, Nat.gcd_comm]
theorem le100 {i : Nat} (h : i < 100) : ((100 : Int32) ≤ nI i) = False := eq_false (fun q => by
  have := (nI_leI (a := 100) (b := i) (by decide) (by omega)).mp q
  omega)
def tell0 (U D : Int) (w : Int32) : Int := if w = 0 then U.tdiv (Nat.gcd U.natAbs D.natAbs) else D.tdiv (Nat.gcd U.natAbs D.natAbs)
section Sh
variable {E : aE}
theorem gd_loop (p q : Int64) : ∀ (k A B i : Nat) (v : Value) (mi : Nat → Nat → Int32) (ml : Nat → Nat → Int64), A < 4611686018427387904 → B < 2 ^ k → k ≤ 40 → i + (2 * k + 1) < 100 → ev E 65 (am_B 65 (Int.toNat 9)) [.long p, am_dm, .long q, am_dm, .long (Int64.ofInt (A : Int)), am_dm, .long (Int64.ofInt (B : Int)), am_dm, .int (nI i), v, am_dm] [] (HH mi ml) = some (some (.long (Int64.ofInt (Nat.gcd A B : Int))), HH mi ml) := by
  intro k
  induction k with
  | zero =>
    intro A B i v mi ml hA hB hk hi
    have hB0 : B = 0 := by simpa using hB
    subst hB0
    refine hd b_65_9 ?_
    simp only [b_65_e, b_65_44, e_lload_0, e_lstore_4, e_kpi, e_kpr, e_kpl, e_kpd, e_lload_2, e_lstore_6, k_0, e_istore_8, e_jsr, e_iload_8, k_100, e_icmp_ge, e_lload_6, kl_0, e_lcmp, e_if_eq, e_lload_4, e_lrem, e_lstore_9, e_lload_9, e_iinc_8, e_goto, e_lret, eq_self, le100 (show i < 100 by omega), lg_cmp_eq, i64_z (show 0 < 4611686018427387904 by decide), Nat.gcd_zero_right, not_true_eq_false, not_false_eq_true, if_true, if_false, true_or, or_true, false_or, or_false, true_and, and_true, false_and, and_false, and_self, or_self, reduceIte, Bool.false_eq_true, i10, i01]
  | succ k ih =>
    intro A B i v mi ml hA hB hk hi
    have hpow : (2 : Nat) ^ (k + 1) ≤ 2 ^ 40 := Nat.pow_le_pow_right (by decide) hk
    have hB2 : B < 4611686018427387904 := by
      have : (2 : Nat) ^ 40 < 4611686018427387904 := by decide
      omega
    refine hd b_65_9 ?_
    by_cases h0 : B = 0
    · subst h0
      simp only [b_65_e, b_65_44, e_lload_0, e_lstore_4, e_kpi, e_kpr, e_kpl, e_kpd, e_lload_2, e_lstore_6, k_0, e_istore_8, e_jsr, e_iload_8, k_100, e_icmp_ge, e_lload_6, kl_0, e_lcmp, e_if_eq, e_lload_4, e_lrem, e_lstore_9, e_lload_9, e_iinc_8, e_goto, e_lret, eq_self, le100 (show i < 100 by omega), lg_cmp_eq, i64_z (show 0 < 4611686018427387904 by decide), Nat.gcd_zero_right, not_true_eq_false, not_false_eq_true, if_true, if_false, true_or, or_true, false_or, or_false, true_and, and_true, false_and, and_false, and_self, or_self, reduceIte, Bool.false_eq_true, i10, i01]
    · have hne : ¬ Int64.ofInt (B : Int) = 0 := by rw [i64_z hB2]; exact h0
      have hr : A % B < B := Nat.mod_lt _ (by omega)
      simp only [b_65_e, b_65_44, e_lload_0, e_lstore_4, e_kpi, e_kpr, e_kpl, e_kpd, e_lload_2, e_lstore_6, k_0, e_istore_8, e_jsr, e_iload_8, k_100, e_icmp_ge, e_lload_6, kl_0, e_lcmp, e_if_eq, e_lload_4, e_lrem, e_lstore_9, e_lload_9, e_iinc_8, e_goto, e_lret, eq_self, le100 (show i < 100 by omega), lg_cmp_eq, i64_z hB2, h0, e_lrem hne, i64_rem hA hB2, e_inc1, not_true_eq_false, not_false_eq_true, if_true, if_false, true_or, or_true, false_or, or_false, true_and, and_true, false_and, and_false, and_self, or_self, reduceIte, Bool.false_eq_true, i10, i01]
      refine hd b_65_9 ?_
      by_cases h1 : A % B = 0
      · simp only [b_65_e, b_65_44, e_lload_0, e_lstore_4, e_kpi, e_kpr, e_kpl, e_kpd, e_lload_2, e_lstore_6, k_0, e_istore_8, e_jsr, e_iload_8, k_100, e_icmp_ge, e_lload_6, kl_0, e_lcmp, e_if_eq, e_lload_4, e_lrem, e_lstore_9, e_lload_9, e_iinc_8, e_goto, e_lret, eq_self, le100 (show i + 1 < 100 by omega), lg_cmp_eq, i64_z (show A % B < 4611686018427387904 by omega), h1, i64_z (show 0 < 4611686018427387904 by decide), not_true_eq_false, not_false_eq_true, if_true, if_false, true_or, or_true, false_or, or_false, true_and, and_true, false_and, and_false, and_self, or_self, reduceIte, Bool.false_eq_true, i10, i01]
        rw [gcd_step, h1, Nat.gcd_zero_right]
      · have hne2 : ¬ Int64.ofInt ((A % B : Nat) : Int) = 0 := by rw [i64_z (by omega)]; exact h1
        simp only [b_65_e, b_65_44, e_lload_0, e_lstore_4, e_kpi, e_kpr, e_kpl, e_kpd, e_lload_2, e_lstore_6, k_0, e_istore_8, e_jsr, e_iload_8, k_100, e_icmp_ge, e_lload_6, kl_0, e_lcmp, e_if_eq, e_lload_4, e_lrem, e_lstore_9, e_lload_9, e_iinc_8, e_goto, e_lret, eq_self, le100 (show i + 1 < 100 by omega), lg_cmp_eq, i64_z (show A % B < 4611686018427387904 by omega), h1, e_lrem hne2, i64_rem hB2 (show A % B < 4611686018427387904 by omega), e_inc1, not_true_eq_false, not_false_eq_true, if_true, if_false, true_or, or_true, false_or, or_false, true_and, and_true, false_and, and_false, and_self, or_self, reduceIte, Bool.false_eq_true, i10, i01]
        have hh := mod_half (b := B) (r := A % B) (by omega) hr
        rw [ih (A % B) (B % (A % B)) (i + 1 + 1) _ mi ml (by omega) (by rw [Nat.pow_succ] at hB; omega) (by omega) (by omega)]
        rw [gcd_step A B, gcd_step B (A % B)]
variable {mi : Nat → Nat → Int32} {ml : Nat → Nat → Int64}
theorem ct_Share_greatestDivisor {A B : Nat} (hA : A < 4611686018427387904) (hB : B < 1099511627776) : ev E 65 (am_B 65 0) [.long (Int64.ofInt (A : Int)), am_dm, .long (Int64.ofInt (B : Int)), am_dm, am_dm, am_dm, am_dm, am_dm, am_dm, am_dm, am_dm] [] (HH mi ml) = some (some (.long (Int64.ofInt (Nat.gcd A B : Int))), HH mi ml) := by
  simp only [b_65_e, b_65_44, e_lload_0, e_lstore_4, e_kpi, e_kpr, e_kpl, e_kpd, e_lload_2, e_lstore_6, k_0, e_istore_8, e_jsr, e_iload_8, k_100, e_icmp_ge, e_lload_6, kl_0, e_lcmp, e_if_eq, e_lload_4, e_lrem, e_lstore_9, e_lload_9, e_iinc_8, e_goto, e_lret, eq_self]
  exact gd_loop _ _ 40 A B 0 am_dm mi ml hA hB (by decide) (by decide)
theorem cc_Share_greatestDivisor_0 {M : Nat} {c : List Instr} {L : List Value} {A B : Nat} (hA : A < 4611686018427387904) (hB : B < 1099511627776) : ev E M (.invokevirtual 65 :: c) L (.long (Int64.ofInt (B : Int)) :: .long (Int64.ofInt (A : Int)) :: []) (HH mi ml) = ev E M c L (.long (Int64.ofInt (Nat.gcd A B : Int)) :: []) (HH mi ml) := e_inv (as := [.long (Int64.ofInt (A : Int)), .long (Int64.ofInt (B : Int))]) (S := []) rfl rfl (Nat.le_of_ble_eq_true rfl) (rfl) (ct_Share_greatestDivisor hA hB)
theorem cc_Share_greatestDivisor_1 {M : Nat} {c : List Instr} {L : List Value} {s0 : Value} {A B : Nat} (hA : A < 4611686018427387904) (hB : B < 1099511627776) : ev E M (.invokevirtual 65 :: c) L (.long (Int64.ofInt (B : Int)) :: .long (Int64.ofInt (A : Int)) :: [s0]) (HH mi ml) = ev E M c L (.long (Int64.ofInt (Nat.gcd A B : Int)) :: [s0]) (HH mi ml) := e_inv (as := [.long (Int64.ofInt (A : Int)), .long (Int64.ofInt (B : Int))]) (S := [s0]) rfl rfl (Nat.le_of_ble_eq_true rfl) (rfl) (ct_Share_greatestDivisor hA hB)
theorem cc_Share_greatestDivisor_2 {M : Nat} {c : List Instr} {L : List Value} {s0 s1 : Value} {A B : Nat} (hA : A < 4611686018427387904) (hB : B < 1099511627776) : ev E M (.invokevirtual 65 :: c) L (.long (Int64.ofInt (B : Int)) :: .long (Int64.ofInt (A : Int)) :: [s0, s1]) (HH mi ml) = ev E M c L (.long (Int64.ofInt (Nat.gcd A B : Int)) :: [s0, s1]) (HH mi ml) := e_inv (as := [.long (Int64.ofInt (A : Int)), .long (Int64.ofInt (B : Int))]) (S := [s0, s1]) rfl rfl (Nat.le_of_ble_eq_true rfl) (rfl) (ct_Share_greatestDivisor hA hB)
theorem cc_Share_greatestDivisor_3 {M : Nat} {c : List Instr} {L : List Value} {s0 s1 s2 : Value} {A B : Nat} (hA : A < 4611686018427387904) (hB : B < 1099511627776) : ev E M (.invokevirtual 65 :: c) L (.long (Int64.ofInt (B : Int)) :: .long (Int64.ofInt (A : Int)) :: [s0, s1, s2]) (HH mi ml) = ev E M c L (.long (Int64.ofInt (Nat.gcd A B : Int)) :: [s0, s1, s2]) (HH mi ml) := e_inv (as := [.long (Int64.ofInt (A : Int)), .long (Int64.ofInt (B : Int))]) (S := [s0, s1, s2]) rfl rfl (Nat.le_of_ble_eq_true rfl) (rfl) (ct_Share_greatestDivisor hA hB)
theorem i64_abs {U : Int} (h : -4611686018427387904 < U ∧ U < 4611686018427387904) : (if (0 : Int64) < Int64.ofInt U then Int64.ofInt U else -Int64.ofInt U) = Int64.ofInt (U.natAbs : Int) := by
  have hq : ((0 : Int64) < Int64.ofInt U) = (0 < U) := propext (i64_lt (a := 0) (by decide) (by omega))
  by_cases h0 : 0 < U
  · rw [if_pos (hq ▸ h0), show (U.natAbs : Int) = U by omega]
  · rw [if_neg (fun q => h0 (hq ▸ q)), ← Int64.ofInt_neg, show (U.natAbs : Int) = -U by omega]
theorem ct_Share_told {k : Nat} {U D : Int} {w : Int32} (hk : am_LAY[k]? = some (.inl 4)) (h0 : ml k 0 = Int64.ofInt U) (h1 : ml k 1 = Int64.ofInt D) (hU : U.natAbs < 4611686018427387904) (hD : 0 < D ∧ D < 1099511627776) : ev E 64 (am_B 64 0) [.ref k, .int w, am_dm, am_dm] [] (HH mi ml) = some (some (.long (Int64.ofInt (tell0 U D w))), HH mi ml) := by
  have hD2 : D = (D.natAbs : Int) := by omega
  have hg : 0 < Nat.gcd U.natAbs D.natAbs := Nat.gcd_pos_of_pos_right _ (by omega)
  have hg2 : Nat.gcd U.natAbs D.natAbs ≤ D.natAbs := Nat.gcd_le_right _ (by omega)
  have hgt : ((0 : Int64) < Int64.ofInt (Nat.gcd U.natAbs D.natAbs : Int)) = True := eq_true ((i64_lt (a := 0) (by decide) (by omega)).mpr (by omega))
  have hne : ¬ Int64.ofInt (Nat.gcd U.natAbs D.natAbs : Int) = 0 := by rw [i64_z (by omega)]; omega
  have hc : ev E 64 [.invokevirtual 65, .lstore 2, .lload 2, .sipush 0, .lcmp, .ifCond .gt 25, .sipush (-9223372036854775808), .lreturn] [.ref k, .int w, am_dm, am_dm] [.long (Int64.ofInt D), .long (Int64.ofInt (U.natAbs : Int))] (HH mi ml) = ev E 64 [.lstore 2, .lload 2, .sipush 0, .lcmp, .ifCond .gt 25, .sipush (-9223372036854775808), .lreturn] [.ref k, .int w, am_dm, am_dm] [.long (Int64.ofInt (Nat.gcd U.natAbs D.natAbs : Int))] (HH mi ml) := by
    have := cc_Share_greatestDivisor_0 (E := E) (mi := mi) (ml := ml) (M := 64) (c := [.lstore 2, .lload 2, .sipush 0, .lcmp, .ifCond .gt 25, .sipush (-9223372036854775808), .lreturn]) (L := [.ref k, .int w, am_dm, am_dm]) (A := U.natAbs) (B := D.natAbs) (by omega) (by omega)
    rw [← hD2] at this
    exact this
  simp only [b_64_e, b_64_25, b_64_38, b_64_44, e_aloadr_0, g_256_27, g_256_28, g_256_30, g_256_31, g_256_32, g_256_43, g_256_44, g_256_46, g_256_49, g_256_60, gS_0, e_fdiv_0, e_fdiv_1, e_fdiv_2, e_fdiv_3, e_fdiv_4, g_257_27, g_257_28, g_257_30, g_257_31, g_257_32, g_257_43, g_257_44, g_257_46, g_257_49, g_257_60, gS_1, cc_Share_greatestDivisor_0, cc_Share_greatestDivisor_1, cc_Share_greatestDivisor_2, cc_Share_greatestDivisor_3, lay_27, lay_28, lay_30, lay_31, lay_32, lay_43, lay_44, lay_46, lay_49, lay_60, Option.toList_some, Option.toList_none, List.cons_append, List.nil_append, e_lstore_2, e_kpi, e_kpr, e_kpl, e_kpd, e_lload_2, kl_0, e_lcmp, e_if_gt, kl_m9223372036854775808, e_lret, e_iload_1, e_if_ne, e_ldiv, e_goto, e_jsr, eq_self, hk, h0, h1, i64_abs (U := U) (by omega), hc, lg_cmp_gt, hgt, not_true_eq_false, not_false_eq_true, if_true, if_false, true_or, or_true, false_or, or_false, true_and, and_true, false_and, and_false, and_self, or_self, reduceIte, Bool.false_eq_true, i10, i01]
  unfold tell0
  by_cases hw : w = 0
  · simp only [b_64_e, b_64_25, b_64_38, b_64_44, e_aloadr_0, g_256_27, g_256_28, g_256_30, g_256_31, g_256_32, g_256_43, g_256_44, g_256_46, g_256_49, g_256_60, gS_0, e_fdiv_0, e_fdiv_1, e_fdiv_2, e_fdiv_3, e_fdiv_4, g_257_27, g_257_28, g_257_30, g_257_31, g_257_32, g_257_43, g_257_44, g_257_46, g_257_49, g_257_60, gS_1, cc_Share_greatestDivisor_0, cc_Share_greatestDivisor_1, cc_Share_greatestDivisor_2, cc_Share_greatestDivisor_3, lay_27, lay_28, lay_30, lay_31, lay_32, lay_43, lay_44, lay_46, lay_49, lay_60, Option.toList_some, Option.toList_none, List.cons_append, List.nil_append, e_lstore_2, e_kpi, e_kpr, e_kpl, e_kpd, e_lload_2, kl_0, e_lcmp, e_if_gt, kl_m9223372036854775808, e_lret, e_iload_1, e_if_ne, e_ldiv, e_goto, e_jsr, eq_self, hk, h0, h1, hw, e_ldiv hne, i64_div (A := U) (B := (Nat.gcd U.natAbs D.natAbs : Int)) (by omega) (by omega) (by omega), not_true_eq_false, not_false_eq_true, if_true, if_false, true_or, or_true, false_or, or_false, true_and, and_true, false_and, and_false, and_self, or_self, reduceIte, Bool.false_eq_true, i10, i01]
  · simp only [b_64_e, b_64_25, b_64_38, b_64_44, e_aloadr_0, g_256_27, g_256_28, g_256_30, g_256_31, g_256_32, g_256_43, g_256_44, g_256_46, g_256_49, g_256_60, gS_0, e_fdiv_0, e_fdiv_1, e_fdiv_2, e_fdiv_3, e_fdiv_4, g_257_27, g_257_28, g_257_30, g_257_31, g_257_32, g_257_43, g_257_44, g_257_46, g_257_49, g_257_60, gS_1, cc_Share_greatestDivisor_0, cc_Share_greatestDivisor_1, cc_Share_greatestDivisor_2, cc_Share_greatestDivisor_3, lay_27, lay_28, lay_30, lay_31, lay_32, lay_43, lay_44, lay_46, lay_49, lay_60, Option.toList_some, Option.toList_none, List.cons_append, List.nil_append, e_lstore_2, e_kpi, e_kpr, e_kpl, e_kpd, e_lload_2, kl_0, e_lcmp, e_if_gt, kl_m9223372036854775808, e_lret, e_iload_1, e_if_ne, e_ldiv, e_goto, e_jsr, eq_self, hk, h0, h1, hw, e_ldiv hne, i64_div (A := D) (B := (Nat.gcd U.natAbs D.natAbs : Int)) (by omega) (by omega) (by omega), not_true_eq_false, not_false_eq_true, if_true, if_false, true_or, or_true, false_or, or_false, true_and, and_true, false_and, and_false, and_self, or_self, reduceIte, Bool.false_eq_true, i10, i01]
theorem cc_Share_told_0 {M : Nat} {c : List Instr} {L : List Value} {k : Nat} {U D : Int} {w : Int32} (hk : am_LAY[k]? = some (.inl 4)) (h0 : ml k 0 = Int64.ofInt U) (h1 : ml k 1 = Int64.ofInt D) (hU : U.natAbs < 4611686018427387904) (hD : 0 < D ∧ D < 1099511627776) : ev E M (.invokevirtual 64 :: c) L (.int w :: .ref k :: []) (HH mi ml) = ev E M c L (.long (Int64.ofInt (tell0 U D w)) :: []) (HH mi ml) := e_inv (as := [.ref k, .int w]) (S := []) rfl rfl (Nat.le_of_ble_eq_true rfl) (am_recv_of (k := 64) hk) (ct_Share_told hk h0 h1 hU hD)
theorem cc_Share_told_1 {M : Nat} {c : List Instr} {L : List Value} {s0 : Value} {k : Nat} {U D : Int} {w : Int32} (hk : am_LAY[k]? = some (.inl 4)) (h0 : ml k 0 = Int64.ofInt U) (h1 : ml k 1 = Int64.ofInt D) (hU : U.natAbs < 4611686018427387904) (hD : 0 < D ∧ D < 1099511627776) : ev E M (.invokevirtual 64 :: c) L (.int w :: .ref k :: [s0]) (HH mi ml) = ev E M c L (.long (Int64.ofInt (tell0 U D w)) :: [s0]) (HH mi ml) := e_inv (as := [.ref k, .int w]) (S := [s0]) rfl rfl (Nat.le_of_ble_eq_true rfl) (am_recv_of (k := 64) hk) (ct_Share_told hk h0 h1 hU hD)
theorem cc_Share_told_2 {M : Nat} {c : List Instr} {L : List Value} {s0 s1 : Value} {k : Nat} {U D : Int} {w : Int32} (hk : am_LAY[k]? = some (.inl 4)) (h0 : ml k 0 = Int64.ofInt U) (h1 : ml k 1 = Int64.ofInt D) (hU : U.natAbs < 4611686018427387904) (hD : 0 < D ∧ D < 1099511627776) : ev E M (.invokevirtual 64 :: c) L (.int w :: .ref k :: [s0, s1]) (HH mi ml) = ev E M c L (.long (Int64.ofInt (tell0 U D w)) :: [s0, s1]) (HH mi ml) := e_inv (as := [.ref k, .int w]) (S := [s0, s1]) rfl rfl (Nat.le_of_ble_eq_true rfl) (am_recv_of (k := 64) hk) (ct_Share_told hk h0 h1 hU hD)
theorem cc_Share_told_3 {M : Nat} {c : List Instr} {L : List Value} {s0 s1 s2 : Value} {k : Nat} {U D : Int} {w : Int32} (hk : am_LAY[k]? = some (.inl 4)) (h0 : ml k 0 = Int64.ofInt U) (h1 : ml k 1 = Int64.ofInt D) (hU : U.natAbs < 4611686018427387904) (hD : 0 < D ∧ D < 1099511627776) : ev E M (.invokevirtual 64 :: c) L (.int w :: .ref k :: [s0, s1, s2]) (HH mi ml) = ev E M c L (.long (Int64.ofInt (tell0 U D w)) :: [s0, s1, s2]) (HH mi ml) := e_inv (as := [.ref k, .int w]) (S := [s0, s1, s2]) rfl rfl (Nat.le_of_ble_eq_true rfl) (am_recv_of (k := 64) hk) (ct_Share_told hk h0 h1 hU hD)
theorem ct_Share_times {k : Nat} {U D N : Int} (hk : am_LAY[k]? = some (.inl 4)) (h0 : ml k 0 = Int64.ofInt U) (h1 : ml k 1 = Int64.ofInt D) (hU : (U * N).natAbs < 4611686018427387904) (hD : 0 < D ∧ D < 1099511627776) : ev E 89 (am_B 89 0) [.ref k, .long (Int64.ofInt N), am_dm] [] (HH mi ml) = some (some (.long (Int64.ofInt ((U * N).tdiv D))), HH mi ml) := by
  have hle : (Int64.ofInt D ≤ 0) = False := eq_false (fun q => by have := (i64_le (a := D) (b := 0) (by omega) (by decide)).mp q; omega)
  have hne : ¬ Int64.ofInt D = 0 := fun q => by have := (i64_eq (a := D) (b := 0) (by omega) (by decide)).mp q; omega
  simp only [b_89_e, b_89_23, b_89_24, e_aloadr_0, g_257_27, g_257_28, g_257_30, g_257_31, g_257_32, g_257_43, g_257_44, g_257_46, g_257_49, g_257_60, gS_1, kl_0, e_lcmp, e_if_le, g_256_27, g_256_28, g_256_30, g_256_31, g_256_32, g_256_43, g_256_44, g_256_46, g_256_49, g_256_60, gS_0, e_lload_1, e_lmul, e_ldiv, e_goto, e_jsr, e_lret, eq_self, hk, h0, h1, lg_cmp_le, hle, e_ldiv hne, ← Int64.ofInt_mul, i64_div (A := U * N) (B := D) (by omega) (by omega) (by omega), not_true_eq_false, not_false_eq_true, if_true, if_false, true_or, or_true, false_or, or_false, true_and, and_true, false_and, and_false, and_self, or_self, reduceIte, Bool.false_eq_true, i10, i01]
theorem cc_Share_times_0 {M : Nat} {c : List Instr} {L : List Value} {k : Nat} {U D N : Int} (hk : am_LAY[k]? = some (.inl 4)) (h0 : ml k 0 = Int64.ofInt U) (h1 : ml k 1 = Int64.ofInt D) (hU : (U * N).natAbs < 4611686018427387904) (hD : 0 < D ∧ D < 1099511627776) : ev E M (.invokevirtual 89 :: c) L (.long (Int64.ofInt N) :: .ref k :: []) (HH mi ml) = ev E M c L (.long (Int64.ofInt ((U * N).tdiv D)) :: []) (HH mi ml) := e_inv (as := [.ref k, .long (Int64.ofInt N)]) (S := []) rfl rfl (Nat.le_of_ble_eq_true rfl) (am_recv_of (k := 89) hk) (ct_Share_times hk h0 h1 hU hD)
theorem cc_Share_times_1 {M : Nat} {c : List Instr} {L : List Value} {s0 : Value} {k : Nat} {U D N : Int} (hk : am_LAY[k]? = some (.inl 4)) (h0 : ml k 0 = Int64.ofInt U) (h1 : ml k 1 = Int64.ofInt D) (hU : (U * N).natAbs < 4611686018427387904) (hD : 0 < D ∧ D < 1099511627776) : ev E M (.invokevirtual 89 :: c) L (.long (Int64.ofInt N) :: .ref k :: [s0]) (HH mi ml) = ev E M c L (.long (Int64.ofInt ((U * N).tdiv D)) :: [s0]) (HH mi ml) := e_inv (as := [.ref k, .long (Int64.ofInt N)]) (S := [s0]) rfl rfl (Nat.le_of_ble_eq_true rfl) (am_recv_of (k := 89) hk) (ct_Share_times hk h0 h1 hU hD)
theorem cc_Share_times_2 {M : Nat} {c : List Instr} {L : List Value} {s0 s1 : Value} {k : Nat} {U D N : Int} (hk : am_LAY[k]? = some (.inl 4)) (h0 : ml k 0 = Int64.ofInt U) (h1 : ml k 1 = Int64.ofInt D) (hU : (U * N).natAbs < 4611686018427387904) (hD : 0 < D ∧ D < 1099511627776) : ev E M (.invokevirtual 89 :: c) L (.long (Int64.ofInt N) :: .ref k :: [s0, s1]) (HH mi ml) = ev E M c L (.long (Int64.ofInt ((U * N).tdiv D)) :: [s0, s1]) (HH mi ml) := e_inv (as := [.ref k, .long (Int64.ofInt N)]) (S := [s0, s1]) rfl rfl (Nat.le_of_ble_eq_true rfl) (am_recv_of (k := 89) hk) (ct_Share_times hk h0 h1 hU hD)
theorem cc_Share_times_3 {M : Nat} {c : List Instr} {L : List Value} {s0 s1 s2 : Value} {k : Nat} {U D N : Int} (hk : am_LAY[k]? = some (.inl 4)) (h0 : ml k 0 = Int64.ofInt U) (h1 : ml k 1 = Int64.ofInt D) (hU : (U * N).natAbs < 4611686018427387904) (hD : 0 < D ∧ D < 1099511627776) : ev E M (.invokevirtual 89 :: c) L (.long (Int64.ofInt N) :: .ref k :: [s0, s1, s2]) (HH mi ml) = ev E M c L (.long (Int64.ofInt ((U * N).tdiv D)) :: [s0, s1, s2]) (HH mi ml) := e_inv (as := [.ref k, .long (Int64.ofInt N)]) (S := [s0, s1, s2]) rfl rfl (Nat.le_of_ble_eq_true rfl) (am_recv_of (k := 89) hk) (ct_Share_times hk h0 h1 hU hD)
end Sh
