/-! THE REFERENCE'S findFeeding -/
theorem bt_lt {n I s : Nat} (hn : n ≤ 5) (hI : I < 2 ^ n) (hs : s < 5) (h : bt (nI I) s = true) : s < n := by
  have k : ∀ n, n < 6 → ∀ I, I < 32 → I < 2 ^ n → ∀ s, s < 5 → bt (nI I) s = true → s < n := by decide +kernel
  have : 2 ^ n ≤ 2 ^ 5 := Nat.pow_le_pow_right (by omega) hn
  exact k n (by omega) I (by omega) hI s hs h
theorem bt_sub {a b : Nat} (ha : a < 32) (hb : b < 32) (h1 : 1 ≤ a) (h : nI a &&& (nI b ^^^ -1) = 0) : ∃ s, s < 5 ∧ bt (nI a) s = true ∧ bt (nI b) s = true := by
  have k : ∀ a, a < 32 → ∀ b, b < 32 → 1 ≤ a → nI a &&& (nI b ^^^ -1) = 0 → ∃ s, s < 5 ∧ bt (nI a) s = true ∧ bt (nI b) s = true := by decide +kernel
  exact k a ha b hb h1 h
theorem inF_pow {mi : Nat → Nat → Int32} : ∀ n, n ≤ 5 → ∃ I, I < 2 ^ n ∧ inF mi n = nI I := by
  have k : ∀ n, n < 5 → ∀ I, I < 32 → I < 2 ^ n → ∃ J, J < 2 ^ (n + 1) ∧ nI I ||| (1 <<< (nI n &&& 31)) = nI J := by decide +kernel
  intro n
  induction n with
  | zero => intro _; exact ⟨0, by omega, rfl⟩
  | succ n ih =>
    intro h
    obtain ⟨I, h1, h2⟩ := ih (by omega)
    have h3 : 2 ^ n ≤ 2 ^ 5 := Nat.pow_le_pow_right (by omega) (by omega)
    have h4 : 2 ^ n ≤ 2 ^ (n + 1) := Nat.pow_le_pow_right (by omega) (by omega)
    rw [inF, h2]
    split
    · exact k n (by omega) I (by omega) h1
    · exact ⟨I, by omega, by simp⟩
def ffR (mi : Nat → Nat → Int32) (K n : Nat) (inn : Int32) : Nat → Nat → (Nat → Nat → Int64) → Option Nat × (Nat → Nat → Int64)
  | 0, _, ml => (none, ml)
  | k + 1, set, ml => if nI set &&& (inn ^^^ -1) = 0 then (if (dfR mi K n (nI set) inn n 0 ml).1 = true then (some set, (dfR mi K n (nI set) inn n 0 ml).2) else ffR mi K n inn k (set + 1) (dfR mi K n (nI set) inn n 0 ml).2) else ffR mi K n inn k (set + 1) ml
section Ff
variable {E : aE} {mi : Nat → Nat → Int32}
theorem ffr_loop {n K I : Nat} (hn : mi 61 3 = nI n) (hn5 : n ≤ 5) (hK : mi 61 15 = nI K) (hK5 : K ≤ 5) (hp : ∀ s, s < n → bd (mi 64 s)) (hp0 : ∀ s, s < n → 0 ≤ (mi 64 s).toInt) (hy : ∀ k, k < K → bd (mi 73 k)) (hI : I < 2 ^ n) : ∀ (k set : Nat) (ml : Nat → Nat → Int64), 1 ≤ set → set + k = I + 1 → ev E 144 (am_B 144 (Int.toNat 7)) [.ref 61, .int (nI I), .int (nI set)] [] (HH mi ml) = some (some (.int (oM (ffR mi K n (nI I) k set ml).1)), HH mi (ffR mi K n (nI I) k set ml).2) := by
  have h32 : 2 ^ n ≤ 2 ^ 5 := Nat.pow_le_pow_right (by omega) hn5
  intro k
  induction k with
  | zero =>
    intro set ml h1 h
    have hs : nI I < nI set := by
      rw [Int32.lt_iff_toInt_lt, nI_toInt (by omega), nI_toInt (by omega)]
      omega
    refine hd b_144_7 ?_
    simp only [b_144_e, b_144_31, b_144_37, e_aloadr_0, cc_M_isIn_0, cc_M_isIn_1, cc_M_isIn_2, cc_M_isIn_3, Option.toList_some, Option.toList_none, List.cons_append, List.nil_append, e_istore_1, e_kpi, e_kpr, e_kpl, e_kpd, k_1, e_istore_2, e_jsr, e_iload_2, e_iload_1, e_icmp_gt, k_m1, e_ixor, e_iand, e_if_ne, cc_M_doesFeed_0, cc_M_doesFeed_1, cc_M_doesFeed_2, cc_M_doesFeed_3, e_if_eq, e_iret, e_iinc_2, e_goto, k_m9, eq_self, hs, ffR, oM_n, not_true_eq_false, not_false_eq_true, if_true, if_false, true_or, or_true, false_or, or_false, true_and, and_true, false_and, and_false, and_self, or_self, reduceIte, Bool.false_eq_true, i10, i01]
  | succ k ih =>
    intro set ml h1 h
    have hs : ¬ nI I < nI set := by
      rw [Int32.lt_iff_toInt_lt, nI_toInt (by omega), nI_toInt (by omega)]
      omega
    refine hd b_144_7 ?_
    rw [ffR]
    by_cases h2 : nI set &&& (nI I ^^^ -1) = 0
    · obtain ⟨s, s1, s2, s3⟩ := bt_sub (show set < 32 by omega) (show I < 32 by omega) h1 h2
      have hex : ∃ s, s < n ∧ bt (nI set) s = true := ⟨s, bt_lt hn5 hI s1 s3, s2⟩
      rw [if_pos h2]
      by_cases h3 : (dfR mi K n (nI set) (nI I) n 0 ml).1 = true
      · rw [if_pos h3]
        simp only [b_144_e, b_144_31, b_144_37, e_aloadr_0, cc_M_isIn_0, cc_M_isIn_1, cc_M_isIn_2, cc_M_isIn_3, Option.toList_some, Option.toList_none, List.cons_append, List.nil_append, e_istore_1, e_kpi, e_kpr, e_kpl, e_kpd, k_1, e_istore_2, e_jsr, e_iload_2, e_iload_1, e_icmp_gt, k_m1, e_ixor, e_iand, e_if_ne, cc_M_doesFeed_0, cc_M_doesFeed_1, cc_M_doesFeed_2, cc_M_doesFeed_3, e_if_eq, e_iret, e_iinc_2, e_goto, k_m9, eq_self, hs, eq_true h2, cc_M_doesFeed_0 hn hn5 hK hK5 hp hp0 hy hex, h3, dfZ, oM_s, not_true_eq_false, not_false_eq_true, if_true, if_false, true_or, or_true, false_or, or_false, true_and, and_true, false_and, and_false, and_self, or_self, reduceIte, Bool.false_eq_true, i10, i01]
      · rw [if_neg h3, ← ih (set + 1) _ (by omega) (by omega)]
        simp only [b_144_e, b_144_31, b_144_37, e_aloadr_0, cc_M_isIn_0, cc_M_isIn_1, cc_M_isIn_2, cc_M_isIn_3, Option.toList_some, Option.toList_none, List.cons_append, List.nil_append, e_istore_1, e_kpi, e_kpr, e_kpl, e_kpd, k_1, e_istore_2, e_jsr, e_iload_2, e_iload_1, e_icmp_gt, k_m1, e_ixor, e_iand, e_if_ne, cc_M_doesFeed_0, cc_M_doesFeed_1, cc_M_doesFeed_2, cc_M_doesFeed_3, e_if_eq, e_iret, e_iinc_2, e_goto, k_m9, eq_self, hs, eq_true h2, cc_M_doesFeed_0 hn hn5 hK hK5 hp hp0 hy hex, h3, dfZ, not_true_eq_false, not_false_eq_true, if_true, if_false, true_or, or_true, false_or, or_false, true_and, and_true, false_and, and_false, and_self, or_self, reduceIte, Bool.false_eq_true, i10, i01, e_inc1]
    · rw [if_neg h2, ← ih (set + 1) _ (by omega) (by omega)]
      simp only [b_144_e, b_144_31, b_144_37, e_aloadr_0, cc_M_isIn_0, cc_M_isIn_1, cc_M_isIn_2, cc_M_isIn_3, Option.toList_some, Option.toList_none, List.cons_append, List.nil_append, e_istore_1, e_kpi, e_kpr, e_kpl, e_kpd, k_1, e_istore_2, e_jsr, e_iload_2, e_iload_1, e_icmp_gt, k_m1, e_ixor, e_iand, e_if_ne, cc_M_doesFeed_0, cc_M_doesFeed_1, cc_M_doesFeed_2, cc_M_doesFeed_3, e_if_eq, e_iret, e_iinc_2, e_goto, k_m9, eq_self, hs, h2, not_true_eq_false, not_false_eq_true, if_true, if_false, true_or, or_true, false_or, or_false, true_and, and_true, false_and, and_false, and_self, or_self, reduceIte, Bool.false_eq_true, i10, i01, e_inc1]
variable {ml : Nat → Nat → Int64}
theorem ct_M_findFeeding {n K I : Nat} (hn : mi 61 3 = nI n) (hn5 : n ≤ 5) (hK : mi 61 15 = nI K) (hK5 : K ≤ 5) (hp : ∀ s, s < n → bd (mi 64 s)) (hp0 : ∀ s, s < n → 0 ≤ (mi 64 s).toInt) (hy : ∀ k, k < K → bd (mi 73 k)) (hI : I < 2 ^ n) (hin : inF mi n = nI I) : ev E 144 (am_B 144 0) [.ref 61, am_dm, am_dm] [] (HH mi ml) = some (some (.int (oM (ffR mi K n (nI I) I 1 ml).1)), HH mi (ffR mi K n (nI I) I 1 ml).2) := by
  have := ffr_loop (E := E) hn hn5 hK hK5 hp hp0 hy hI I 1 ml (by omega) (by omega)
  simp only [b_144_e, b_144_31, b_144_37, e_aloadr_0, cc_M_isIn_0, cc_M_isIn_1, cc_M_isIn_2, cc_M_isIn_3, Option.toList_some, Option.toList_none, List.cons_append, List.nil_append, e_istore_1, e_kpi, e_kpr, e_kpl, e_kpd, k_1, e_istore_2, e_jsr, e_iload_2, e_iload_1, e_icmp_gt, k_m1, e_ixor, e_iand, e_if_ne, cc_M_doesFeed_0, cc_M_doesFeed_1, cc_M_doesFeed_2, cc_M_doesFeed_3, e_if_eq, e_iret, e_iinc_2, e_goto, k_m9, eq_self, cc_M_isIn_0 hn hn5, hin]
  exact this
theorem cc_M_findFeeding_0 {M : Nat} {c : List Instr} {L : List Value} {n K I : Nat} (hn : mi 61 3 = nI n) (hn5 : n ≤ 5) (hK : mi 61 15 = nI K) (hK5 : K ≤ 5) (hp : ∀ s, s < n → bd (mi 64 s)) (hp0 : ∀ s, s < n → 0 ≤ (mi 64 s).toInt) (hy : ∀ k, k < K → bd (mi 73 k)) (hI : I < 2 ^ n) (hin : inF mi n = nI I) : ev E M (.invokevirtual 144 :: c) L (.ref 61 :: []) (HH mi ml) = ev E M c L (.int (oM (ffR mi K n (nI I) I 1 ml).1) :: []) (HH mi (ffR mi K n (nI I) I 1 ml).2) := e_inv (as := [.ref 61]) (S := []) rfl rfl (Nat.le_of_ble_eq_true rfl) (rfl) (ct_M_findFeeding hn hn5 hK hK5 hp hp0 hy hI hin)
theorem cc_M_findFeeding_1 {M : Nat} {c : List Instr} {L : List Value} {s0 : Value} {n K I : Nat} (hn : mi 61 3 = nI n) (hn5 : n ≤ 5) (hK : mi 61 15 = nI K) (hK5 : K ≤ 5) (hp : ∀ s, s < n → bd (mi 64 s)) (hp0 : ∀ s, s < n → 0 ≤ (mi 64 s).toInt) (hy : ∀ k, k < K → bd (mi 73 k)) (hI : I < 2 ^ n) (hin : inF mi n = nI I) : ev E M (.invokevirtual 144 :: c) L (.ref 61 :: [s0]) (HH mi ml) = ev E M c L (.int (oM (ffR mi K n (nI I) I 1 ml).1) :: [s0]) (HH mi (ffR mi K n (nI I) I 1 ml).2) := e_inv (as := [.ref 61]) (S := [s0]) rfl rfl (Nat.le_of_ble_eq_true rfl) (rfl) (ct_M_findFeeding hn hn5 hK hK5 hp hp0 hy hI hin)
theorem cc_M_findFeeding_2 {M : Nat} {c : List Instr} {L : List Value} {s0 s1 : Value} {n K I : Nat} (hn : mi 61 3 = nI n) (hn5 : n ≤ 5) (hK : mi 61 15 = nI K) (hK5 : K ≤ 5) (hp : ∀ s, s < n → bd (mi 64 s)) (hp0 : ∀ s, s < n → 0 ≤ (mi 64 s).toInt) (hy : ∀ k, k < K → bd (mi 73 k)) (hI : I < 2 ^ n) (hin : inF mi n = nI I) : ev E M (.invokevirtual 144 :: c) L (.ref 61 :: [s0, s1]) (HH mi ml) = ev E M c L (.int (oM (ffR mi K n (nI I) I 1 ml).1) :: [s0, s1]) (HH mi (ffR mi K n (nI I) I 1 ml).2) := e_inv (as := [.ref 61]) (S := [s0, s1]) rfl rfl (Nat.le_of_ble_eq_true rfl) (rfl) (ct_M_findFeeding hn hn5 hK hK5 hp hp0 hy hI hin)
theorem cc_M_findFeeding_3 {M : Nat} {c : List Instr} {L : List Value} {s0 s1 s2 : Value} {n K I : Nat} (hn : mi 61 3 = nI n) (hn5 : n ≤ 5) (hK : mi 61 15 = nI K) (hK5 : K ≤ 5) (hp : ∀ s, s < n → bd (mi 64 s)) (hp0 : ∀ s, s < n → 0 ≤ (mi 64 s).toInt) (hy : ∀ k, k < K → bd (mi 73 k)) (hI : I < 2 ^ n) (hin : inF mi n = nI I) : ev E M (.invokevirtual 144 :: c) L (.ref 61 :: [s0, s1, s2]) (HH mi ml) = ev E M c L (.int (oM (ffR mi K n (nI I) I 1 ml).1) :: [s0, s1, s2]) (HH mi (ffR mi K n (nI I) I 1 ml).2) := e_inv (as := [.ref 61]) (S := [s0, s1, s2]) rfl rfl (Nat.le_of_ble_eq_true rfl) (rfl) (ct_M_findFeeding hn hn5 hK hK5 hp hp0 hy hI hin)
end Ff
