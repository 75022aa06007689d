/-! THE LAW'S LOOP -/
section Lw
variable {E : aE} {q : Nat → Nat → Int32} {s : Nat → Nat → Int64} {n nt : Nat}
theorem xl_k {i : Nat} : nI i + 2 = nI (i + 2) ∧ nI i + 3 = nI (i + 3) ∧ nI i + 4 = nI (i + 4) ∧ nI i + 5 = nI (i + 5) := ⟨nI_add i 2, nI_add i 3, nI_add i 4, nI_add i 5⟩
theorem xl_2 {i : Nat} : nI i + 2 = nI (i + 2) := nI_add i 2
theorem xl_3 {i : Nat} : nI i + 3 = nI (i + 3) := nI_add i 3
theorem xl_4 {i : Nat} : nI i + 4 = nI (i + 4) := nI_add i 4
theorem xl_5 {i : Nat} : nI i + 5 = nI (i + 5) := nI_add i 5
theorem xl_in {a N : Nat} (h : a < N) (hN : N ≤ 3072) : am_inB (nI a) N = true := by
  unfold am_inB
  have := nI_in h (show N < 2 ^ 31 by omega)
  simpa using this
theorem xl_d {M : Nat} {c : List Instr} {L S : List Value} {h : aH} {a : Nat} (ha : a < (E 2).1) (hN : (E 2).1 ≤ 3072) : ev E M (.iaload :: c) L (.int (nI a) :: .retAddr 2 :: S) h = ev E M c L (.int ((E 2).2 a) :: S) h := by
  rw [e_xld (by decide) (xl_in ha hN), nI_clamp (by omega)]
/-- one step of the law at the script's place i, from the case t -/
def LW (E : aE) (t : Int) (i : Nat) (q : Nat → Nat → Int32) (s : Nat → Nat → Int64) : Prop := ∃ p r n nt, ev E 186 (am_B 186 (Int.toNat t)) [.retAddr 2, .ref 0, .ref 61, .int (nI i)] [] (HH q s) = ev E 186 (am_B 186 (Int.toNat 1194)) [.retAddr 2, .ref 0, .ref 61, .int (nI i)] [] (HH p r) ∧ INV p r n nt
theorem lg_same {v : Int64} : lg_cmp v v = 0 := (lg_cmp_eq v v).mpr rfl

theorem la_180 (hE0 : E 0 = (5, am_lst [1, 1, 100, 100, 1])) (hE1 : E 1 = (5, am_lst [200, 20, 2000, 3000, 2000])) (hi : INV q s n nt) {i : Nat} (h : i + 6 ≤ (E 2).1) (hN : (E 2).1 ≤ 3072) : LW E 180 i q s := by
  have g1 : i + 1 < (E 2).1 := by omega
  have g2 : i + 2 < (E 2).1 := by omega
  obtain ⟨v, p, r, p2, r2, n2, nt2, c1, c2, hv⟩ := o_rule (E := E) hE0 hE1 hi ((E 2).2 (i + 1)) ((E 2).2 (i + 2))
  have f1 : ∀ {M_ : Nat} {c_ : List Instr} {L_ : List Value}, ev E M_ (.invokevirtual 9 :: c_) L_ (.int ((E 2).2 (i + 2)) :: .int ((E 2).2 (i + 1)) :: .ref 0 :: []) (HH q s) = ev E M_ c_ L_ (.int v :: []) (HH p r) := fun {M_} {c_} {L_} => e_inv (as := [.ref 0, .int ((E 2).2 (i + 1)), .int ((E 2).2 (i + 2))]) (S := []) rfl rfl (Nat.le_of_ble_eq_true rfl) (rfl) (c1)
  have f2 : ∀ {M_ : Nat} {c_ : List Instr} {L_ : List Value} {s0_ : Value}, ev E M_ (.invokevirtual 113 :: c_) L_ (.int ((E 2).2 (i + 2)) :: .int ((E 2).2 (i + 1)) :: .ref 61 :: [s0_]) (HH p r) = ev E M_ c_ L_ (.int v :: [s0_]) (HH p2 r2) := fun {M_} {c_} {L_} {s0_} => e_inv (as := [.ref 61, .int ((E 2).2 (i + 1)), .int ((E 2).2 (i + 2))]) (S := [s0_]) rfl rfl (Nat.le_of_ble_eq_true rfl) (rfl) (c2)
  refine ⟨p2, r2, n2, nt2, ?_, hv⟩
  simp only [b_186_180, e_aloadr_1, e_aloadr_2, e_aloadx_0, e_iload_3, k_1, k_2, k_3, k_4, k_5, e_iadd, nI_1, xl_2, xl_3, xl_4, xl_5, xl_d g1 hN, xl_d g2 hN, f1, f2, e_icmp_eq, eq_self, if_true, not_true_eq_false, not_false_eq_true, if_true, if_false, true_or, or_true, false_or, or_false, true_and, and_true, false_and, and_false, and_self, or_self, reduceIte, Bool.false_eq_true, i10, i01]
theorem la_213 (hi : INV q s n nt) {i : Nat} (h : i + 6 ≤ (E 2).1) (hN : (E 2).1 ≤ 3072) : LW E 213 i q s := by
  have g1 : i + 1 < (E 2).1 := by omega
  have g2 : i + 2 < (E 2).1 := by omega
  obtain ⟨v, p, r, p2, r2, n2, nt2, c1, c2, hv⟩ := o_station (E := E) hi ((E 2).2 (i + 1)) ((E 2).2 (i + 2))
  have f1 : ∀ {M_ : Nat} {c_ : List Instr} {L_ : List Value}, ev E M_ (.invokevirtual 13 :: c_) L_ (.int ((E 2).2 (i + 2)) :: .int ((E 2).2 (i + 1)) :: .ref 0 :: []) (HH q s) = ev E M_ c_ L_ (.int v :: []) (HH p r) := fun {M_} {c_} {L_} => e_inv (as := [.ref 0, .int ((E 2).2 (i + 1)), .int ((E 2).2 (i + 2))]) (S := []) rfl rfl (Nat.le_of_ble_eq_true rfl) (rfl) (c1)
  have f2 : ∀ {M_ : Nat} {c_ : List Instr} {L_ : List Value} {s0_ : Value}, ev E M_ (.invokevirtual 119 :: c_) L_ (.int ((E 2).2 (i + 2)) :: .int ((E 2).2 (i + 1)) :: .ref 61 :: [s0_]) (HH p r) = ev E M_ c_ L_ (.int v :: [s0_]) (HH p2 r2) := fun {M_} {c_} {L_} {s0_} => e_inv (as := [.ref 61, .int ((E 2).2 (i + 1)), .int ((E 2).2 (i + 2))]) (S := [s0_]) rfl rfl (Nat.le_of_ble_eq_true rfl) (rfl) (c2)
  refine ⟨p2, r2, n2, nt2, ?_, hv⟩
  simp only [b_186_213, e_aloadr_1, e_aloadr_2, e_aloadx_0, e_iload_3, k_1, k_2, k_3, k_4, k_5, e_iadd, nI_1, xl_2, xl_3, xl_4, xl_5, xl_d g1 hN, xl_d g2 hN, f1, f2, e_icmp_eq, eq_self, if_true, not_true_eq_false, not_false_eq_true, if_true, if_false, true_or, or_true, false_or, or_false, true_and, and_true, false_and, and_false, and_self, or_self, reduceIte, Bool.false_eq_true, i10, i01]
theorem la_246 (hi : INV q s n nt) {i : Nat} (h : i + 6 ≤ (E 2).1) (hN : (E 2).1 ≤ 3072) : LW E 246 i q s := by
  have g1 : i + 1 < (E 2).1 := by omega
  have g2 : i + 2 < (E 2).1 := by omega
  by_cases hz : (E 2).2 (i + 2) = 0
  · obtain ⟨v, p, r, p2, r2, n2, nt2, c1, c2, hv⟩ := o_set (E := E) hi ((E 2).2 (i + 1)) 0 (by decide)
    have f1 : ∀ {M_ : Nat} {c_ : List Instr} {L_ : List Value}, ev E M_ (.invokevirtual 16 :: c_) L_ (.int 0 :: .int ((E 2).2 (i + 1)) :: .ref 0 :: []) (HH q s) = ev E M_ c_ L_ (.int v :: []) (HH p r) := fun {M_} {c_} {L_} => e_inv (as := [.ref 0, .int ((E 2).2 (i + 1)), .int 0]) (S := []) rfl rfl (Nat.le_of_ble_eq_true rfl) (rfl) (c1)
    have f2 : ∀ {M_ : Nat} {c_ : List Instr} {L_ : List Value} {s0_ : Value}, ev E M_ (.invokevirtual 122 :: c_) L_ (.int 0 :: .int ((E 2).2 (i + 1)) :: .ref 61 :: [s0_]) (HH p r) = ev E M_ c_ L_ (.int v :: [s0_]) (HH p2 r2) := fun {M_} {c_} {L_} {s0_} => e_inv (as := [.ref 61, .int ((E 2).2 (i + 1)), .int 0]) (S := [s0_]) rfl rfl (Nat.le_of_ble_eq_true rfl) (rfl) (c2)
    refine ⟨p2, r2, n2, nt2, ?_, hv⟩
    simp only [b_186_246, b_186_264, b_186_265, b_186_286, b_186_287, e_aloadr_1, e_aloadr_2, e_aloadx_0, e_iload_3, k_1, k_2, k_3, k_4, k_5, e_iadd, nI_1, xl_2, xl_3, xl_4, xl_5, xl_d g1 hN, xl_d g2 hN, f1, f2, e_icmp_eq, eq_self, if_true, not_true_eq_false, not_false_eq_true, if_true, if_false, true_or, or_true, false_or, or_false, true_and, and_true, false_and, and_false, and_self, or_self, reduceIte, Bool.false_eq_true, i10, i01, hz, e_if_eq, k_0, e_goto, e_jsr]
  · obtain ⟨v, p, r, p2, r2, n2, nt2, c1, c2, hv⟩ := o_set (E := E) hi ((E 2).2 (i + 1)) 1 (by decide)
    have f1 : ∀ {M_ : Nat} {c_ : List Instr} {L_ : List Value}, ev E M_ (.invokevirtual 16 :: c_) L_ (.int 1 :: .int ((E 2).2 (i + 1)) :: .ref 0 :: []) (HH q s) = ev E M_ c_ L_ (.int v :: []) (HH p r) := fun {M_} {c_} {L_} => e_inv (as := [.ref 0, .int ((E 2).2 (i + 1)), .int 1]) (S := []) rfl rfl (Nat.le_of_ble_eq_true rfl) (rfl) (c1)
    have f2 : ∀ {M_ : Nat} {c_ : List Instr} {L_ : List Value} {s0_ : Value}, ev E M_ (.invokevirtual 122 :: c_) L_ (.int 1 :: .int ((E 2).2 (i + 1)) :: .ref 61 :: [s0_]) (HH p r) = ev E M_ c_ L_ (.int v :: [s0_]) (HH p2 r2) := fun {M_} {c_} {L_} {s0_} => e_inv (as := [.ref 61, .int ((E 2).2 (i + 1)), .int 1]) (S := [s0_]) rfl rfl (Nat.le_of_ble_eq_true rfl) (rfl) (c2)
    refine ⟨p2, r2, n2, nt2, ?_, hv⟩
    simp only [b_186_246, b_186_264, b_186_265, b_186_286, b_186_287, e_aloadr_1, e_aloadr_2, e_aloadx_0, e_iload_3, k_1, k_2, k_3, k_4, k_5, e_iadd, nI_1, xl_2, xl_3, xl_4, xl_5, xl_d g1 hN, xl_d g2 hN, f1, f2, e_icmp_eq, eq_self, if_true, not_true_eq_false, not_false_eq_true, if_true, if_false, true_or, or_true, false_or, or_false, true_and, and_true, false_and, and_false, and_self, or_self, reduceIte, Bool.false_eq_true, i10, i01, hz, e_if_eq, k_0, e_goto, e_jsr]
theorem la_295 (hi : INV q s n nt) {i : Nat} (h : i + 6 ≤ (E 2).1) (hN : (E 2).1 ≤ 3072) : LW E 295 i q s := by
  have g1 : i + 1 < (E 2).1 := by omega
  have g2 : i + 2 < (E 2).1 := by omega
  obtain ⟨v, p, r, p2, r2, n2, nt2, c1, c2, hv⟩ := o_trip (E := E) hi ((E 2).2 (i + 1)) ((E 2).2 (i + 2))
  have f1 : ∀ {M_ : Nat} {c_ : List Instr} {L_ : List Value}, ev E M_ (.invokevirtual 18 :: c_) L_ (.int ((E 2).2 (i + 2)) :: .int ((E 2).2 (i + 1)) :: .ref 0 :: []) (HH q s) = ev E M_ c_ L_ (.int v :: []) (HH p r) := fun {M_} {c_} {L_} => e_inv (as := [.ref 0, .int ((E 2).2 (i + 1)), .int ((E 2).2 (i + 2))]) (S := []) rfl rfl (Nat.le_of_ble_eq_true rfl) (rfl) (c1)
  have f2 : ∀ {M_ : Nat} {c_ : List Instr} {L_ : List Value} {s0_ : Value}, ev E M_ (.invokevirtual 124 :: c_) L_ (.int ((E 2).2 (i + 2)) :: .int ((E 2).2 (i + 1)) :: .ref 61 :: [s0_]) (HH p r) = ev E M_ c_ L_ (.int v :: [s0_]) (HH p2 r2) := fun {M_} {c_} {L_} {s0_} => e_inv (as := [.ref 61, .int ((E 2).2 (i + 1)), .int ((E 2).2 (i + 2))]) (S := [s0_]) rfl rfl (Nat.le_of_ble_eq_true rfl) (rfl) (c2)
  refine ⟨p2, r2, n2, nt2, ?_, hv⟩
  simp only [b_186_295, e_aloadr_1, e_aloadr_2, e_aloadx_0, e_iload_3, k_1, k_2, k_3, k_4, k_5, e_iadd, nI_1, xl_2, xl_3, xl_4, xl_5, xl_d g1 hN, xl_d g2 hN, f1, f2, e_icmp_eq, eq_self, if_true, not_true_eq_false, not_false_eq_true, if_true, if_false, true_or, or_true, false_or, or_false, true_and, and_true, false_and, and_false, and_self, or_self, reduceIte, Bool.false_eq_true, i10, i01]
theorem la_328 (hi : INV q s n nt) {i : Nat} (h : i + 6 ≤ (E 2).1) (hN : (E 2).1 ≤ 3072) : LW E 328 i q s := by
  have g1 : i + 1 < (E 2).1 := by omega
  have g2 : i + 2 < (E 2).1 := by omega
  obtain ⟨v, p, r, p2, r2, n2, nt2, c1, c2, hv⟩ := o_about (E := E) hi ((E 2).2 (i + 1)) ((E 2).2 (i + 2))
  have f1 : ∀ {M_ : Nat} {c_ : List Instr} {L_ : List Value}, ev E M_ (.invokevirtual 19 :: c_) L_ (.int ((E 2).2 (i + 2)) :: .int ((E 2).2 (i + 1)) :: .ref 0 :: []) (HH q s) = ev E M_ c_ L_ (.int v :: []) (HH p r) := fun {M_} {c_} {L_} => e_inv (as := [.ref 0, .int ((E 2).2 (i + 1)), .int ((E 2).2 (i + 2))]) (S := []) rfl rfl (Nat.le_of_ble_eq_true rfl) (rfl) (c1)
  have f2 : ∀ {M_ : Nat} {c_ : List Instr} {L_ : List Value} {s0_ : Value}, ev E M_ (.invokevirtual 125 :: c_) L_ (.int ((E 2).2 (i + 2)) :: .int ((E 2).2 (i + 1)) :: .ref 61 :: [s0_]) (HH p r) = ev E M_ c_ L_ (.int v :: [s0_]) (HH p2 r2) := fun {M_} {c_} {L_} {s0_} => e_inv (as := [.ref 61, .int ((E 2).2 (i + 1)), .int ((E 2).2 (i + 2))]) (S := [s0_]) rfl rfl (Nat.le_of_ble_eq_true rfl) (rfl) (c2)
  refine ⟨p2, r2, n2, nt2, ?_, hv⟩
  simp only [b_186_328, e_aloadr_1, e_aloadr_2, e_aloadx_0, e_iload_3, k_1, k_2, k_3, k_4, k_5, e_iadd, nI_1, xl_2, xl_3, xl_4, xl_5, xl_d g1 hN, xl_d g2 hN, f1, f2, e_icmp_eq, eq_self, if_true, not_true_eq_false, not_false_eq_true, if_true, if_false, true_or, or_true, false_or, or_false, true_and, and_true, false_and, and_false, and_self, or_self, reduceIte, Bool.false_eq_true, i10, i01]
theorem la_361 (hi : INV q s n nt) {i : Nat} (h : i + 6 ≤ (E 2).1) (hN : (E 2).1 ≤ 3072) : LW E 361 i q s := by
  obtain ⟨v, p, r, p2, r2, n2, nt2, c1, c2, hv⟩ := o_train (E := E) hi 
  have f1 : ∀ {M_ : Nat} {c_ : List Instr} {L_ : List Value}, ev E M_ (.invokevirtual 20 :: c_) L_ (.ref 0 :: []) (HH q s) = ev E M_ c_ L_ (.int v :: []) (HH p r) := fun {M_} {c_} {L_} => e_inv (as := [.ref 0]) (S := []) rfl rfl (Nat.le_of_ble_eq_true rfl) (rfl) (c1)
  have f2 : ∀ {M_ : Nat} {c_ : List Instr} {L_ : List Value} {s0_ : Value}, ev E M_ (.invokevirtual 126 :: c_) L_ (.ref 61 :: [s0_]) (HH p r) = ev E M_ c_ L_ (.int v :: [s0_]) (HH p2 r2) := fun {M_} {c_} {L_} {s0_} => e_inv (as := [.ref 61]) (S := [s0_]) rfl rfl (Nat.le_of_ble_eq_true rfl) (rfl) (c2)
  refine ⟨p2, r2, n2, nt2, ?_, hv⟩
  simp only [b_186_361, e_aloadr_1, e_aloadr_2, e_aloadx_0, e_iload_3, k_1, k_2, k_3, k_4, k_5, e_iadd, nI_1, xl_2, xl_3, xl_4, xl_5, f1, f2, e_icmp_eq, eq_self, if_true, not_true_eq_false, not_false_eq_true, if_true, if_false, true_or, or_true, false_or, or_false, true_and, and_true, false_and, and_false, and_self, or_self, reduceIte, Bool.false_eq_true, i10, i01]
theorem la_374 (hi : INV q s n nt) {i : Nat} (h : i + 6 ≤ (E 2).1) (hN : (E 2).1 ≤ 3072) : LW E 374 i q s := by
  have g1 : i + 1 < (E 2).1 := by omega
  have g2 : i + 2 < (E 2).1 := by omega
  have g3 : i + 3 < (E 2).1 := by omega
  have g4 : i + 4 < (E 2).1 := by omega
  obtain ⟨v, p, r, p2, r2, n2, nt2, c1, c2, hv⟩ := o_run (E := E) hi ((E 2).2 (i + 1)) ((E 2).2 (i + 2)) ((E 2).2 (i + 3)) ((E 2).2 (i + 4))
  have f1 : ∀ {M_ : Nat} {c_ : List Instr} {L_ : List Value}, ev E M_ (.invokevirtual 21 :: c_) L_ (.int ((E 2).2 (i + 4)) :: .int ((E 2).2 (i + 3)) :: .int ((E 2).2 (i + 2)) :: .int ((E 2).2 (i + 1)) :: .ref 0 :: []) (HH q s) = ev E M_ c_ L_ (.int v :: []) (HH p r) := fun {M_} {c_} {L_} => e_inv (as := [.ref 0, .int ((E 2).2 (i + 1)), .int ((E 2).2 (i + 2)), .int ((E 2).2 (i + 3)), .int ((E 2).2 (i + 4))]) (S := []) rfl rfl (Nat.le_of_ble_eq_true rfl) (rfl) (c1)
  have f2 : ∀ {M_ : Nat} {c_ : List Instr} {L_ : List Value} {s0_ : Value}, ev E M_ (.invokevirtual 127 :: c_) L_ (.int ((E 2).2 (i + 4)) :: .int ((E 2).2 (i + 3)) :: .int ((E 2).2 (i + 2)) :: .int ((E 2).2 (i + 1)) :: .ref 61 :: [s0_]) (HH p r) = ev E M_ c_ L_ (.int v :: [s0_]) (HH p2 r2) := fun {M_} {c_} {L_} {s0_} => e_inv (as := [.ref 61, .int ((E 2).2 (i + 1)), .int ((E 2).2 (i + 2)), .int ((E 2).2 (i + 3)), .int ((E 2).2 (i + 4))]) (S := [s0_]) rfl rfl (Nat.le_of_ble_eq_true rfl) (rfl) (c2)
  refine ⟨p2, r2, n2, nt2, ?_, hv⟩
  simp only [b_186_374, e_aloadr_1, e_aloadr_2, e_aloadx_0, e_iload_3, k_1, k_2, k_3, k_4, k_5, e_iadd, nI_1, xl_2, xl_3, xl_4, xl_5, xl_d g1 hN, xl_d g2 hN, xl_d g3 hN, xl_d g4 hN, f1, f2, e_icmp_eq, eq_self, if_true, not_true_eq_false, not_false_eq_true, if_true, if_false, true_or, or_true, false_or, or_false, true_and, and_true, false_and, and_false, and_self, or_self, reduceIte, Bool.false_eq_true, i10, i01]
theorem la_427 (hi : INV q s n nt) {i : Nat} (h : i + 6 ≤ (E 2).1) (hN : (E 2).1 ≤ 3072) : LW E 427 i q s := by
  have g1 : i + 1 < (E 2).1 := by omega
  have g2 : i + 2 < (E 2).1 := by omega
  have g3 : i + 3 < (E 2).1 := by omega
  have g4 : i + 4 < (E 2).1 := by omega
  have g5 : i + 5 < (E 2).1 := by omega
  obtain ⟨v, p, r, p2, r2, n2, nt2, c1, c2, hv⟩ := o_runs (E := E) hi ((E 2).2 (i + 1)) ((E 2).2 (i + 2)) ((E 2).2 (i + 3)) ((E 2).2 (i + 4)) ((E 2).2 (i + 5))
  have f1 : ∀ {M_ : Nat} {c_ : List Instr} {L_ : List Value}, ev E M_ (.invokevirtual 26 :: c_) L_ (.int ((E 2).2 (i + 5)) :: .int ((E 2).2 (i + 4)) :: .int ((E 2).2 (i + 3)) :: .int ((E 2).2 (i + 2)) :: .int ((E 2).2 (i + 1)) :: .ref 0 :: []) (HH q s) = ev E M_ c_ L_ (.int v :: []) (HH p r) := fun {M_} {c_} {L_} => e_inv (as := [.ref 0, .int ((E 2).2 (i + 1)), .int ((E 2).2 (i + 2)), .int ((E 2).2 (i + 3)), .int ((E 2).2 (i + 4)), .int ((E 2).2 (i + 5))]) (S := []) rfl rfl (Nat.le_of_ble_eq_true rfl) (rfl) (c1)
  have f2 : ∀ {M_ : Nat} {c_ : List Instr} {L_ : List Value} {s0_ : Value}, ev E M_ (.invokevirtual 132 :: c_) L_ (.int ((E 2).2 (i + 5)) :: .int ((E 2).2 (i + 4)) :: .int ((E 2).2 (i + 3)) :: .int ((E 2).2 (i + 2)) :: .int ((E 2).2 (i + 1)) :: .ref 61 :: [s0_]) (HH p r) = ev E M_ c_ L_ (.int v :: [s0_]) (HH p2 r2) := fun {M_} {c_} {L_} {s0_} => e_inv (as := [.ref 61, .int ((E 2).2 (i + 1)), .int ((E 2).2 (i + 2)), .int ((E 2).2 (i + 3)), .int ((E 2).2 (i + 4)), .int ((E 2).2 (i + 5))]) (S := [s0_]) rfl rfl (Nat.le_of_ble_eq_true rfl) (rfl) (c2)
  refine ⟨p2, r2, n2, nt2, ?_, hv⟩
  simp only [b_186_427, e_aloadr_1, e_aloadr_2, e_aloadx_0, e_iload_3, k_1, k_2, k_3, k_4, k_5, e_iadd, nI_1, xl_2, xl_3, xl_4, xl_5, xl_d g1 hN, xl_d g2 hN, xl_d g3 hN, xl_d g4 hN, xl_d g5 hN, f1, f2, e_icmp_eq, eq_self, if_true, not_true_eq_false, not_false_eq_true, if_true, if_false, true_or, or_true, false_or, or_false, true_and, and_true, false_and, and_false, and_self, or_self, reduceIte, Bool.false_eq_true, i10, i01]
theorem la_490 (hi : INV q s n nt) {i : Nat} (h : i + 6 ≤ (E 2).1) (hN : (E 2).1 ≤ 3072) : LW E 490 i q s := by
  have g1 : i + 1 < (E 2).1 := by omega
  have g2 : i + 2 < (E 2).1 := by omega
  obtain ⟨v, p, r, p2, r2, n2, nt2, c1, c2, hv⟩ := o_putOff (E := E) hi ((E 2).2 (i + 1)) ((E 2).2 (i + 2))
  have f1 : ∀ {M_ : Nat} {c_ : List Instr} {L_ : List Value}, ev E M_ (.invokevirtual 34 :: c_) L_ (.int ((E 2).2 (i + 2)) :: .int ((E 2).2 (i + 1)) :: .ref 0 :: []) (HH q s) = ev E M_ c_ L_ (.int v :: []) (HH p r) := fun {M_} {c_} {L_} => e_inv (as := [.ref 0, .int ((E 2).2 (i + 1)), .int ((E 2).2 (i + 2))]) (S := []) rfl rfl (Nat.le_of_ble_eq_true rfl) (rfl) (c1)
  have f2 : ∀ {M_ : Nat} {c_ : List Instr} {L_ : List Value} {s0_ : Value}, ev E M_ (.invokevirtual 136 :: c_) L_ (.int ((E 2).2 (i + 2)) :: .int ((E 2).2 (i + 1)) :: .ref 61 :: [s0_]) (HH p r) = ev E M_ c_ L_ (.int v :: [s0_]) (HH p2 r2) := fun {M_} {c_} {L_} {s0_} => e_inv (as := [.ref 61, .int ((E 2).2 (i + 1)), .int ((E 2).2 (i + 2))]) (S := [s0_]) rfl rfl (Nat.le_of_ble_eq_true rfl) (rfl) (c2)
  refine ⟨p2, r2, n2, nt2, ?_, hv⟩
  simp only [b_186_490, e_aloadr_1, e_aloadr_2, e_aloadx_0, e_iload_3, k_1, k_2, k_3, k_4, k_5, e_iadd, nI_1, xl_2, xl_3, xl_4, xl_5, xl_d g1 hN, xl_d g2 hN, f1, f2, e_icmp_eq, eq_self, if_true, not_true_eq_false, not_false_eq_true, if_true, if_false, true_or, or_true, false_or, or_false, true_and, and_true, false_and, and_false, and_self, or_self, reduceIte, Bool.false_eq_true, i10, i01]
theorem la_523 (hi : INV q s n nt) {i : Nat} (h : i + 6 ≤ (E 2).1) (hN : (E 2).1 ≤ 3072) : LW E 523 i q s := by
  have g1 : i + 1 < (E 2).1 := by omega
  have g2 : i + 2 < (E 2).1 := by omega
  have g3 : i + 3 < (E 2).1 := by omega
  obtain ⟨v, p, r, p2, r2, n2, nt2, c1, c2, hv⟩ := o_at (E := E) hi ((E 2).2 (i + 1)) ((E 2).2 (i + 2)) ((E 2).2 (i + 3))
  have f1 : ∀ {M_ : Nat} {c_ : List Instr} {L_ : List Value}, ev E M_ (.invokevirtual 35 :: c_) L_ (.int ((E 2).2 (i + 3)) :: .int ((E 2).2 (i + 2)) :: .int ((E 2).2 (i + 1)) :: .ref 0 :: []) (HH q s) = ev E M_ c_ L_ (.int v :: []) (HH p r) := fun {M_} {c_} {L_} => e_inv (as := [.ref 0, .int ((E 2).2 (i + 1)), .int ((E 2).2 (i + 2)), .int ((E 2).2 (i + 3))]) (S := []) rfl rfl (Nat.le_of_ble_eq_true rfl) (rfl) (c1)
  have f2 : ∀ {M_ : Nat} {c_ : List Instr} {L_ : List Value} {s0_ : Value}, ev E M_ (.invokevirtual 137 :: c_) L_ (.int ((E 2).2 (i + 3)) :: .int ((E 2).2 (i + 2)) :: .int ((E 2).2 (i + 1)) :: .ref 61 :: [s0_]) (HH p r) = ev E M_ c_ L_ (.int v :: [s0_]) (HH p2 r2) := fun {M_} {c_} {L_} {s0_} => e_inv (as := [.ref 61, .int ((E 2).2 (i + 1)), .int ((E 2).2 (i + 2)), .int ((E 2).2 (i + 3))]) (S := [s0_]) rfl rfl (Nat.le_of_ble_eq_true rfl) (rfl) (c2)
  refine ⟨p2, r2, n2, nt2, ?_, hv⟩
  simp only [b_186_523, e_aloadr_1, e_aloadr_2, e_aloadx_0, e_iload_3, k_1, k_2, k_3, k_4, k_5, e_iadd, nI_1, xl_2, xl_3, xl_4, xl_5, xl_d g1 hN, xl_d g2 hN, xl_d g3 hN, f1, f2, e_icmp_eq, eq_self, if_true, not_true_eq_false, not_false_eq_true, if_true, if_false, true_or, or_true, false_or, or_false, true_and, and_true, false_and, and_false, and_self, or_self, reduceIte, Bool.false_eq_true, i10, i01]
theorem la_566 (hi : INV q s n nt) {i : Nat} (h : i + 6 ≤ (E 2).1) (hN : (E 2).1 ≤ 3072) : LW E 566 i q s := by
  have g1 : i + 1 < (E 2).1 := by omega
  obtain ⟨v, p, r, p2, r2, n2, nt2, c1, c2, hv⟩ := o_feeds (E := E) hi ((E 2).2 (i + 1))
  have f1 : ∀ {M_ : Nat} {c_ : List Instr} {L_ : List Value}, ev E M_ (.invokevirtual 60 :: c_) L_ (.int ((E 2).2 (i + 1)) :: .ref 0 :: []) (HH q s) = ev E M_ c_ L_ (.int v :: []) (HH p r) := fun {M_} {c_} {L_} => e_inv (as := [.ref 0, .int ((E 2).2 (i + 1))]) (S := []) rfl rfl (Nat.le_of_ble_eq_true rfl) (rfl) (c1)
  have f2 : ∀ {M_ : Nat} {c_ : List Instr} {L_ : List Value} {s0_ : Value}, ev E M_ (.invokevirtual 152 :: c_) L_ (.int ((E 2).2 (i + 1)) :: .ref 61 :: [s0_]) (HH p r) = ev E M_ c_ L_ (.int v :: [s0_]) (HH p2 r2) := fun {M_} {c_} {L_} {s0_} => e_inv (as := [.ref 61, .int ((E 2).2 (i + 1))]) (S := [s0_]) rfl rfl (Nat.le_of_ble_eq_true rfl) (rfl) (c2)
  refine ⟨p2, r2, n2, nt2, ?_, hv⟩
  simp only [b_186_566, e_aloadr_1, e_aloadr_2, e_aloadx_0, e_iload_3, k_1, k_2, k_3, k_4, k_5, e_iadd, nI_1, xl_2, xl_3, xl_4, xl_5, xl_d g1 hN, f1, f2, e_icmp_eq, eq_self, if_true, not_true_eq_false, not_false_eq_true, if_true, if_false, true_or, or_true, false_or, or_false, true_and, and_true, false_and, and_false, and_self, or_self, reduceIte, Bool.false_eq_true, i10, i01]
theorem la_589 (hi : INV q s n nt) {i : Nat} (h : i + 6 ≤ (E 2).1) (hN : (E 2).1 ≤ 3072) : LW E 589 i q s := by
  have g1 : i + 1 < (E 2).1 := by omega
  have g2 : i + 2 < (E 2).1 := by omega
  have g3 : i + 3 < (E 2).1 := by omega
  obtain ⟨v, p, r, p2, r2, n2, nt2, c1, c2, hv⟩ := o_volts (E := E) hi ((E 2).2 (i + 1)) ((E 2).2 (i + 2)) ((E 2).2 (i + 3))
  have f1 : ∀ {M_ : Nat} {c_ : List Instr} {L_ : List Value}, ev E M_ (.invokevirtual 62 :: c_) L_ (.int ((E 2).2 (i + 3)) :: .int ((E 2).2 (i + 2)) :: .int ((E 2).2 (i + 1)) :: .ref 0 :: []) (HH q s) = ev E M_ c_ L_ (.long v :: []) (HH p r) := fun {M_} {c_} {L_} => e_inv (as := [.ref 0, .int ((E 2).2 (i + 1)), .int ((E 2).2 (i + 2)), .int ((E 2).2 (i + 3))]) (S := []) rfl rfl (Nat.le_of_ble_eq_true rfl) (rfl) (c1)
  have f2 : ∀ {M_ : Nat} {c_ : List Instr} {L_ : List Value} {s0_ : Value}, ev E M_ (.invokevirtual 153 :: c_) L_ (.int ((E 2).2 (i + 3)) :: .int ((E 2).2 (i + 2)) :: .int ((E 2).2 (i + 1)) :: .ref 61 :: [s0_]) (HH p r) = ev E M_ c_ L_ (.long v :: [s0_]) (HH p2 r2) := fun {M_} {c_} {L_} {s0_} => e_inv (as := [.ref 61, .int ((E 2).2 (i + 1)), .int ((E 2).2 (i + 2)), .int ((E 2).2 (i + 3))]) (S := [s0_]) rfl rfl (Nat.le_of_ble_eq_true rfl) (rfl) (c2)
  refine ⟨p2, r2, n2, nt2, ?_, hv⟩
  simp only [b_186_589, e_aloadr_1, e_aloadr_2, e_aloadx_0, e_iload_3, k_1, k_2, k_3, k_4, k_5, e_iadd, nI_1, xl_2, xl_3, xl_4, xl_5, xl_d g1 hN, xl_d g2 hN, xl_d g3 hN, f1, f2, e_lcmp, lg_same, e_if_eq, eq_self, if_true, not_true_eq_false, not_false_eq_true, if_true, if_false, true_or, or_true, false_or, or_false, true_and, and_true, false_and, and_false, and_self, or_self, reduceIte, Bool.false_eq_true, i10, i01]
theorem la_633 (hi : INV q s n nt) {i : Nat} (h : i + 6 ≤ (E 2).1) (hN : (E 2).1 ≤ 3072) : LW E 633 i q s := by
  have g1 : i + 1 < (E 2).1 := by omega
  have g2 : i + 2 < (E 2).1 := by omega
  have g3 : i + 3 < (E 2).1 := by omega
  obtain ⟨v, p, r, p2, r2, n2, nt2, c1, c2, hv⟩ := o_gives (E := E) hi ((E 2).2 (i + 1)) ((E 2).2 (i + 2)) ((E 2).2 (i + 3))
  have f1 : ∀ {M_ : Nat} {c_ : List Instr} {L_ : List Value}, ev E M_ (.invokevirtual 66 :: c_) L_ (.int ((E 2).2 (i + 3)) :: .int ((E 2).2 (i + 2)) :: .int ((E 2).2 (i + 1)) :: .ref 0 :: []) (HH q s) = ev E M_ c_ L_ (.long v :: []) (HH p r) := fun {M_} {c_} {L_} => e_inv (as := [.ref 0, .int ((E 2).2 (i + 1)), .int ((E 2).2 (i + 2)), .int ((E 2).2 (i + 3))]) (S := []) rfl rfl (Nat.le_of_ble_eq_true rfl) (rfl) (c1)
  have f2 : ∀ {M_ : Nat} {c_ : List Instr} {L_ : List Value} {s0_ : Value}, ev E M_ (.invokevirtual 155 :: c_) L_ (.int ((E 2).2 (i + 3)) :: .int ((E 2).2 (i + 2)) :: .int ((E 2).2 (i + 1)) :: .ref 61 :: [s0_]) (HH p r) = ev E M_ c_ L_ (.long v :: [s0_]) (HH p2 r2) := fun {M_} {c_} {L_} {s0_} => e_inv (as := [.ref 61, .int ((E 2).2 (i + 1)), .int ((E 2).2 (i + 2)), .int ((E 2).2 (i + 3))]) (S := [s0_]) rfl rfl (Nat.le_of_ble_eq_true rfl) (rfl) (c2)
  refine ⟨p2, r2, n2, nt2, ?_, hv⟩
  simp only [b_186_633, e_aloadr_1, e_aloadr_2, e_aloadx_0, e_iload_3, k_1, k_2, k_3, k_4, k_5, e_iadd, nI_1, xl_2, xl_3, xl_4, xl_5, xl_d g1 hN, xl_d g2 hN, xl_d g3 hN, f1, f2, e_lcmp, lg_same, e_if_eq, eq_self, if_true, not_true_eq_false, not_false_eq_true, if_true, if_false, true_or, or_true, false_or, or_false, true_and, and_true, false_and, and_false, and_self, or_self, reduceIte, Bool.false_eq_true, i10, i01]
theorem la_677 (hi : INV q s n nt) {i : Nat} (h : i + 6 ≤ (E 2).1) (hN : (E 2).1 ≤ 3072) : LW E 677 i q s := by
  have g1 : i + 1 < (E 2).1 := by omega
  obtain ⟨v, p, r, p2, r2, n2, nt2, c1, c2, hv⟩ := o_lowest (E := E) hi ((E 2).2 (i + 1))
  have f1 : ∀ {M_ : Nat} {c_ : List Instr} {L_ : List Value}, ev E M_ (.invokevirtual 68 :: c_) L_ (.int ((E 2).2 (i + 1)) :: .ref 0 :: []) (HH q s) = ev E M_ c_ L_ (.long v :: []) (HH p r) := fun {M_} {c_} {L_} => e_inv (as := [.ref 0, .int ((E 2).2 (i + 1))]) (S := []) rfl rfl (Nat.le_of_ble_eq_true rfl) (rfl) (c1)
  have f2 : ∀ {M_ : Nat} {c_ : List Instr} {L_ : List Value} {s0_ : Value}, ev E M_ (.invokevirtual 156 :: c_) L_ (.int ((E 2).2 (i + 1)) :: .ref 61 :: [s0_]) (HH p r) = ev E M_ c_ L_ (.long v :: [s0_]) (HH p2 r2) := fun {M_} {c_} {L_} {s0_} => e_inv (as := [.ref 61, .int ((E 2).2 (i + 1))]) (S := [s0_]) rfl rfl (Nat.le_of_ble_eq_true rfl) (rfl) (c2)
  refine ⟨p2, r2, n2, nt2, ?_, hv⟩
  simp only [b_186_677, e_aloadr_1, e_aloadr_2, e_aloadx_0, e_iload_3, k_1, k_2, k_3, k_4, k_5, e_iadd, nI_1, xl_2, xl_3, xl_4, xl_5, xl_d g1 hN, f1, f2, e_lcmp, lg_same, e_if_eq, eq_self, if_true, not_true_eq_false, not_false_eq_true, if_true, if_false, true_or, or_true, false_or, or_false, true_and, and_true, false_and, and_false, and_self, or_self, reduceIte, Bool.false_eq_true, i10, i01]
theorem la_701 (hi : INV q s n nt) {i : Nat} (h : i + 6 ≤ (E 2).1) (hN : (E 2).1 ≤ 3072) : LW E 701 i q s := by
  obtain ⟨v, p, r, p2, r2, n2, nt2, c1, c2, hv⟩ := o_safe (E := E) hi 
  have f1 : ∀ {M_ : Nat} {c_ : List Instr} {L_ : List Value}, ev E M_ (.invokevirtual 71 :: c_) L_ (.ref 0 :: []) (HH q s) = ev E M_ c_ L_ (.int v :: []) (HH p r) := fun {M_} {c_} {L_} => e_inv (as := [.ref 0]) (S := []) rfl rfl (Nat.le_of_ble_eq_true rfl) (rfl) (c1)
  have f2 : ∀ {M_ : Nat} {c_ : List Instr} {L_ : List Value} {s0_ : Value}, ev E M_ (.invokevirtual 158 :: c_) L_ (.ref 61 :: [s0_]) (HH p r) = ev E M_ c_ L_ (.int v :: [s0_]) (HH p2 r2) := fun {M_} {c_} {L_} {s0_} => e_inv (as := [.ref 61]) (S := [s0_]) rfl rfl (Nat.le_of_ble_eq_true rfl) (rfl) (c2)
  refine ⟨p2, r2, n2, nt2, ?_, hv⟩
  simp only [b_186_701, e_aloadr_1, e_aloadr_2, e_aloadx_0, e_iload_3, k_1, k_2, k_3, k_4, k_5, e_iadd, nI_1, xl_2, xl_3, xl_4, xl_5, f1, f2, e_icmp_eq, eq_self, if_true, not_true_eq_false, not_false_eq_true, if_true, if_false, true_or, or_true, false_or, or_false, true_and, and_true, false_and, and_false, and_self, or_self, reduceIte, Bool.false_eq_true, i10, i01]
theorem la_714 (hi : INV q s n nt) {i : Nat} (h : i + 6 ≤ (E 2).1) (hN : (E 2).1 ≤ 3072) : LW E 714 i q s := by
  obtain ⟨v, p, r, p2, r2, n2, nt2, c1, c2, hv⟩ := o_firstOut (E := E) hi 
  have f1 : ∀ {M_ : Nat} {c_ : List Instr} {L_ : List Value}, ev E M_ (.invokevirtual 73 :: c_) L_ (.ref 0 :: []) (HH q s) = ev E M_ c_ L_ (.int v :: []) (HH p r) := fun {M_} {c_} {L_} => e_inv (as := [.ref 0]) (S := []) rfl rfl (Nat.le_of_ble_eq_true rfl) (rfl) (c1)
  have f2 : ∀ {M_ : Nat} {c_ : List Instr} {L_ : List Value} {s0_ : Value}, ev E M_ (.invokevirtual 160 :: c_) L_ (.ref 61 :: [s0_]) (HH p r) = ev E M_ c_ L_ (.int v :: [s0_]) (HH p2 r2) := fun {M_} {c_} {L_} {s0_} => e_inv (as := [.ref 61]) (S := [s0_]) rfl rfl (Nat.le_of_ble_eq_true rfl) (rfl) (c2)
  refine ⟨p2, r2, n2, nt2, ?_, hv⟩
  simp only [b_186_714, e_aloadr_1, e_aloadr_2, e_aloadx_0, e_iload_3, k_1, k_2, k_3, k_4, k_5, e_iadd, nI_1, xl_2, xl_3, xl_4, xl_5, f1, f2, e_icmp_eq, eq_self, if_true, not_true_eq_false, not_false_eq_true, if_true, if_false, true_or, or_true, false_or, or_false, true_and, and_true, false_and, and_false, and_self, or_self, reduceIte, Bool.false_eq_true, i10, i01]
theorem la_727 (hi : INV q s n nt) {i : Nat} (h : i + 6 ≤ (E 2).1) (hN : (E 2).1 ≤ 3072) : LW E 727 i q s := by
  have g1 : i + 1 < (E 2).1 := by omega
  obtain ⟨v, p, r, p2, r2, n2, nt2, c1, c2, hv⟩ := o_most (E := E) hi ((E 2).2 (i + 1))
  have f1 : ∀ {M_ : Nat} {c_ : List Instr} {L_ : List Value}, ev E M_ (.invokevirtual 74 :: c_) L_ (.int ((E 2).2 (i + 1)) :: .ref 0 :: []) (HH q s) = ev E M_ c_ L_ (.long v :: []) (HH p r) := fun {M_} {c_} {L_} => e_inv (as := [.ref 0, .int ((E 2).2 (i + 1))]) (S := []) rfl rfl (Nat.le_of_ble_eq_true rfl) (rfl) (c1)
  have f2 : ∀ {M_ : Nat} {c_ : List Instr} {L_ : List Value} {s0_ : Value}, ev E M_ (.invokevirtual 161 :: c_) L_ (.int ((E 2).2 (i + 1)) :: .ref 61 :: [s0_]) (HH p r) = ev E M_ c_ L_ (.long v :: [s0_]) (HH p2 r2) := fun {M_} {c_} {L_} {s0_} => e_inv (as := [.ref 61, .int ((E 2).2 (i + 1))]) (S := [s0_]) rfl rfl (Nat.le_of_ble_eq_true rfl) (rfl) (c2)
  refine ⟨p2, r2, n2, nt2, ?_, hv⟩
  simp only [b_186_727, e_aloadr_1, e_aloadr_2, e_aloadx_0, e_iload_3, k_1, k_2, k_3, k_4, k_5, e_iadd, nI_1, xl_2, xl_3, xl_4, xl_5, xl_d g1 hN, f1, f2, e_lcmp, lg_same, e_if_eq, eq_self, if_true, not_true_eq_false, not_false_eq_true, if_true, if_false, true_or, or_true, false_or, or_false, true_and, and_true, false_and, and_false, and_self, or_self, reduceIte, Bool.false_eq_true, i10, i01]
theorem la_751 (hi : INV q s n nt) {i : Nat} (h : i + 6 ≤ (E 2).1) (hN : (E 2).1 ≤ 3072) : LW E 751 i q s := by
  have g1 : i + 1 < (E 2).1 := by omega
  have g2 : i + 2 < (E 2).1 := by omega
  obtain ⟨v, p, r, p2, r2, n2, nt2, c1, c2, hv⟩ := o_shorted (E := E) hi ((E 2).2 (i + 1)) ((E 2).2 (i + 2))
  have f1 : ∀ {M_ : Nat} {c_ : List Instr} {L_ : List Value}, ev E M_ (.invokevirtual 77 :: c_) L_ (.int ((E 2).2 (i + 2)) :: .int ((E 2).2 (i + 1)) :: .ref 0 :: []) (HH q s) = ev E M_ c_ L_ (.int v :: []) (HH p r) := fun {M_} {c_} {L_} => e_inv (as := [.ref 0, .int ((E 2).2 (i + 1)), .int ((E 2).2 (i + 2))]) (S := []) rfl rfl (Nat.le_of_ble_eq_true rfl) (rfl) (c1)
  have f2 : ∀ {M_ : Nat} {c_ : List Instr} {L_ : List Value} {s0_ : Value}, ev E M_ (.invokevirtual 163 :: c_) L_ (.int ((E 2).2 (i + 2)) :: .int ((E 2).2 (i + 1)) :: .ref 61 :: [s0_]) (HH p r) = ev E M_ c_ L_ (.int v :: [s0_]) (HH p2 r2) := fun {M_} {c_} {L_} {s0_} => e_inv (as := [.ref 61, .int ((E 2).2 (i + 1)), .int ((E 2).2 (i + 2))]) (S := [s0_]) rfl rfl (Nat.le_of_ble_eq_true rfl) (rfl) (c2)
  refine ⟨p2, r2, n2, nt2, ?_, hv⟩
  simp only [b_186_751, e_aloadr_1, e_aloadr_2, e_aloadx_0, e_iload_3, k_1, k_2, k_3, k_4, k_5, e_iadd, nI_1, xl_2, xl_3, xl_4, xl_5, xl_d g1 hN, xl_d g2 hN, f1, f2, e_icmp_eq, eq_self, if_true, not_true_eq_false, not_false_eq_true, if_true, if_false, true_or, or_true, false_or, or_false, true_and, and_true, false_and, and_false, and_self, or_self, reduceIte, Bool.false_eq_true, i10, i01]
theorem la_784 (hi : INV q s n nt) {i : Nat} (h : i + 6 ≤ (E 2).1) (hN : (E 2).1 ≤ 3072) : LW E 784 i q s := by
  have g1 : i + 1 < (E 2).1 := by omega
  obtain ⟨v, p, r, p2, r2, n2, nt2, c1, c2, hv⟩ := o_right (E := E) hi ((E 2).2 (i + 1))
  have f1 : ∀ {M_ : Nat} {c_ : List Instr} {L_ : List Value}, ev E M_ (.invokevirtual 80 :: c_) L_ (.int ((E 2).2 (i + 1)) :: .ref 0 :: []) (HH q s) = ev E M_ c_ L_ (.int v :: []) (HH p r) := fun {M_} {c_} {L_} => e_inv (as := [.ref 0, .int ((E 2).2 (i + 1))]) (S := []) rfl rfl (Nat.le_of_ble_eq_true rfl) (rfl) (c1)
  have f2 : ∀ {M_ : Nat} {c_ : List Instr} {L_ : List Value} {s0_ : Value}, ev E M_ (.invokevirtual 165 :: c_) L_ (.int ((E 2).2 (i + 1)) :: .ref 61 :: [s0_]) (HH p r) = ev E M_ c_ L_ (.int v :: [s0_]) (HH p2 r2) := fun {M_} {c_} {L_} {s0_} => e_inv (as := [.ref 61, .int ((E 2).2 (i + 1))]) (S := [s0_]) rfl rfl (Nat.le_of_ble_eq_true rfl) (rfl) (c2)
  refine ⟨p2, r2, n2, nt2, ?_, hv⟩
  simp only [b_186_784, e_aloadr_1, e_aloadr_2, e_aloadx_0, e_iload_3, k_1, k_2, k_3, k_4, k_5, e_iadd, nI_1, xl_2, xl_3, xl_4, xl_5, xl_d g1 hN, f1, f2, e_icmp_eq, eq_self, if_true, not_true_eq_false, not_false_eq_true, if_true, if_false, true_or, or_true, false_or, or_false, true_and, and_true, false_and, and_false, and_self, or_self, reduceIte, Bool.false_eq_true, i10, i01]
theorem la_807 (hi : INV q s n nt) {i : Nat} (h : i + 6 ≤ (E 2).1) (hN : (E 2).1 ≤ 3072) : LW E 807 i q s := by
  have g1 : i + 1 < (E 2).1 := by omega
  have g2 : i + 2 < (E 2).1 := by omega
  obtain ⟨v, p, r, p2, r2, n2, nt2, c1, c2, hv⟩ := o_peak (E := E) hi ((E 2).2 (i + 1)) ((E 2).2 (i + 2))
  have f1 : ∀ {M_ : Nat} {c_ : List Instr} {L_ : List Value}, ev E M_ (.invokevirtual 84 :: c_) L_ (.int ((E 2).2 (i + 2)) :: .int ((E 2).2 (i + 1)) :: .ref 0 :: []) (HH q s) = ev E M_ c_ L_ (.long v :: []) (HH p r) := fun {M_} {c_} {L_} => e_inv (as := [.ref 0, .int ((E 2).2 (i + 1)), .int ((E 2).2 (i + 2))]) (S := []) rfl rfl (Nat.le_of_ble_eq_true rfl) (rfl) (c1)
  have f2 : ∀ {M_ : Nat} {c_ : List Instr} {L_ : List Value} {s0_ : Value}, ev E M_ (.invokevirtual 167 :: c_) L_ (.int ((E 2).2 (i + 2)) :: .int ((E 2).2 (i + 1)) :: .ref 61 :: [s0_]) (HH p r) = ev E M_ c_ L_ (.long v :: [s0_]) (HH p2 r2) := fun {M_} {c_} {L_} {s0_} => e_inv (as := [.ref 61, .int ((E 2).2 (i + 1)), .int ((E 2).2 (i + 2))]) (S := [s0_]) rfl rfl (Nat.le_of_ble_eq_true rfl) (rfl) (c2)
  refine ⟨p2, r2, n2, nt2, ?_, hv⟩
  simp only [b_186_807, e_aloadr_1, e_aloadr_2, e_aloadx_0, e_iload_3, k_1, k_2, k_3, k_4, k_5, e_iadd, nI_1, xl_2, xl_3, xl_4, xl_5, xl_d g1 hN, xl_d g2 hN, f1, f2, e_lcmp, lg_same, e_if_eq, eq_self, if_true, not_true_eq_false, not_false_eq_true, if_true, if_false, true_or, or_true, false_or, or_false, true_and, and_true, false_and, and_false, and_self, or_self, reduceIte, Bool.false_eq_true, i10, i01]
theorem la_841 (hi : INV q s n nt) {i : Nat} (h : i + 6 ≤ (E 2).1) (hN : (E 2).1 ≤ 3072) : LW E 841 i q s := by
  have g1 : i + 1 < (E 2).1 := by omega
  obtain ⟨v, p, r, p2, r2, n2, nt2, c1, c2, hv⟩ := o_used (E := E) hi ((E 2).2 (i + 1))
  have f1 : ∀ {M_ : Nat} {c_ : List Instr} {L_ : List Value}, ev E M_ (.invokevirtual 87 :: c_) L_ (.int ((E 2).2 (i + 1)) :: .ref 0 :: []) (HH q s) = ev E M_ c_ L_ (.long v :: []) (HH p r) := fun {M_} {c_} {L_} => e_inv (as := [.ref 0, .int ((E 2).2 (i + 1))]) (S := []) rfl rfl (Nat.le_of_ble_eq_true rfl) (rfl) (c1)
  have f2 : ∀ {M_ : Nat} {c_ : List Instr} {L_ : List Value} {s0_ : Value}, ev E M_ (.invokevirtual 169 :: c_) L_ (.int ((E 2).2 (i + 1)) :: .ref 61 :: [s0_]) (HH p r) = ev E M_ c_ L_ (.long v :: [s0_]) (HH p2 r2) := fun {M_} {c_} {L_} {s0_} => e_inv (as := [.ref 61, .int ((E 2).2 (i + 1))]) (S := [s0_]) rfl rfl (Nat.le_of_ble_eq_true rfl) (rfl) (c2)
  refine ⟨p2, r2, n2, nt2, ?_, hv⟩
  simp only [b_186_841, e_aloadr_1, e_aloadr_2, e_aloadx_0, e_iload_3, k_1, k_2, k_3, k_4, k_5, e_iadd, nI_1, xl_2, xl_3, xl_4, xl_5, xl_d g1 hN, f1, f2, e_lcmp, lg_same, e_if_eq, eq_self, if_true, not_true_eq_false, not_false_eq_true, if_true, if_false, true_or, or_true, false_or, or_false, true_and, and_true, false_and, and_false, and_self, or_self, reduceIte, Bool.false_eq_true, i10, i01]
theorem la_865 (hi : INV q s n nt) {i : Nat} (h : i + 6 ≤ (E 2).1) (hN : (E 2).1 ≤ 3072) : LW E 865 i q s := by
  have g1 : i + 1 < (E 2).1 := by omega
  obtain ⟨v, p, r, p2, r2, n2, nt2, c1, c2, hv⟩ := o_given (E := E) hi ((E 2).2 (i + 1))
  have f1 : ∀ {M_ : Nat} {c_ : List Instr} {L_ : List Value}, ev E M_ (.invokevirtual 90 :: c_) L_ (.int ((E 2).2 (i + 1)) :: .ref 0 :: []) (HH q s) = ev E M_ c_ L_ (.long v :: []) (HH p r) := fun {M_} {c_} {L_} => e_inv (as := [.ref 0, .int ((E 2).2 (i + 1))]) (S := []) rfl rfl (Nat.le_of_ble_eq_true rfl) (rfl) (c1)
  have f2 : ∀ {M_ : Nat} {c_ : List Instr} {L_ : List Value} {s0_ : Value}, ev E M_ (.invokevirtual 170 :: c_) L_ (.int ((E 2).2 (i + 1)) :: .ref 61 :: [s0_]) (HH p r) = ev E M_ c_ L_ (.long v :: [s0_]) (HH p2 r2) := fun {M_} {c_} {L_} {s0_} => e_inv (as := [.ref 61, .int ((E 2).2 (i + 1))]) (S := [s0_]) rfl rfl (Nat.le_of_ble_eq_true rfl) (rfl) (c2)
  refine ⟨p2, r2, n2, nt2, ?_, hv⟩
  simp only [b_186_865, e_aloadr_1, e_aloadr_2, e_aloadx_0, e_iload_3, k_1, k_2, k_3, k_4, k_5, e_iadd, nI_1, xl_2, xl_3, xl_4, xl_5, xl_d g1 hN, f1, f2, e_lcmp, lg_same, e_if_eq, eq_self, if_true, not_true_eq_false, not_false_eq_true, if_true, if_false, true_or, or_true, false_or, or_false, true_and, and_true, false_and, and_false, and_self, or_self, reduceIte, Bool.false_eq_true, i10, i01]
theorem la_889 (hi : INV q s n nt) {i : Nat} (h : i + 6 ≤ (E 2).1) (hN : (E 2).1 ≤ 3072) : LW E 889 i q s := by
  have g1 : i + 1 < (E 2).1 := by omega
  obtain ⟨v, p, r, p2, r2, n2, nt2, c1, c2, hv⟩ := o_best (E := E) hi ((E 2).2 (i + 1))
  have f1 : ∀ {M_ : Nat} {c_ : List Instr} {L_ : List Value}, ev E M_ (.invokevirtual 92 :: c_) L_ (.int ((E 2).2 (i + 1)) :: .ref 0 :: []) (HH q s) = ev E M_ c_ L_ (.long v :: []) (HH p r) := fun {M_} {c_} {L_} => e_inv (as := [.ref 0, .int ((E 2).2 (i + 1))]) (S := []) rfl rfl (Nat.le_of_ble_eq_true rfl) (rfl) (c1)
  have f2 : ∀ {M_ : Nat} {c_ : List Instr} {L_ : List Value} {s0_ : Value}, ev E M_ (.invokevirtual 171 :: c_) L_ (.int ((E 2).2 (i + 1)) :: .ref 61 :: [s0_]) (HH p r) = ev E M_ c_ L_ (.long v :: [s0_]) (HH p2 r2) := fun {M_} {c_} {L_} {s0_} => e_inv (as := [.ref 61, .int ((E 2).2 (i + 1))]) (S := [s0_]) rfl rfl (Nat.le_of_ble_eq_true rfl) (rfl) (c2)
  refine ⟨p2, r2, n2, nt2, ?_, hv⟩
  simp only [b_186_889, e_aloadr_1, e_aloadr_2, e_aloadx_0, e_iload_3, k_1, k_2, k_3, k_4, k_5, e_iadd, nI_1, xl_2, xl_3, xl_4, xl_5, xl_d g1 hN, f1, f2, e_lcmp, lg_same, e_if_eq, eq_self, if_true, not_true_eq_false, not_false_eq_true, if_true, if_false, true_or, or_true, false_or, or_false, true_and, and_true, false_and, and_false, and_self, or_self, reduceIte, Bool.false_eq_true, i10, i01]
theorem la_913 (hi : INV q s n nt) {i : Nat} (h : i + 6 ≤ (E 2).1) (hN : (E 2).1 ≤ 3072) : LW E 913 i q s := by
  have g1 : i + 1 < (E 2).1 := by omega
  have g2 : i + 2 < (E 2).1 := by omega
  have g3 : i + 3 < (E 2).1 := by omega
  obtain ⟨v, p, r, p2, r2, n2, nt2, c1, c2, hv⟩ := o_sheet (E := E) hi ((E 2).2 (i + 1)) ((E 2).2 (i + 2)) ((E 2).2 (i + 3))
  have f1 : ∀ {M_ : Nat} {c_ : List Instr} {L_ : List Value}, ev E M_ (.invokevirtual 94 :: c_) L_ (.int ((E 2).2 (i + 3)) :: .int ((E 2).2 (i + 2)) :: .int ((E 2).2 (i + 1)) :: .ref 0 :: []) (HH q s) = ev E M_ c_ L_ (.int v :: []) (HH p r) := fun {M_} {c_} {L_} => e_inv (as := [.ref 0, .int ((E 2).2 (i + 1)), .int ((E 2).2 (i + 2)), .int ((E 2).2 (i + 3))]) (S := []) rfl rfl (Nat.le_of_ble_eq_true rfl) (rfl) (c1)
  have f2 : ∀ {M_ : Nat} {c_ : List Instr} {L_ : List Value} {s0_ : Value}, ev E M_ (.invokevirtual 174 :: c_) L_ (.int ((E 2).2 (i + 3)) :: .int ((E 2).2 (i + 2)) :: .int ((E 2).2 (i + 1)) :: .ref 61 :: [s0_]) (HH p r) = ev E M_ c_ L_ (.int v :: [s0_]) (HH p2 r2) := fun {M_} {c_} {L_} {s0_} => e_inv (as := [.ref 61, .int ((E 2).2 (i + 1)), .int ((E 2).2 (i + 2)), .int ((E 2).2 (i + 3))]) (S := [s0_]) rfl rfl (Nat.le_of_ble_eq_true rfl) (rfl) (c2)
  refine ⟨p2, r2, n2, nt2, ?_, hv⟩
  simp only [b_186_913, e_aloadr_1, e_aloadr_2, e_aloadx_0, e_iload_3, k_1, k_2, k_3, k_4, k_5, e_iadd, nI_1, xl_2, xl_3, xl_4, xl_5, xl_d g1 hN, xl_d g2 hN, xl_d g3 hN, f1, f2, e_icmp_eq, eq_self, if_true, not_true_eq_false, not_false_eq_true, if_true, if_false, true_or, or_true, false_or, or_false, true_and, and_true, false_and, and_false, and_self, or_self, reduceIte, Bool.false_eq_true, i10, i01]
theorem la_956 (hi : INV q s n nt) {i : Nat} (h : i + 6 ≤ (E 2).1) (hN : (E 2).1 ≤ 3072) : LW E 956 i q s := by
  have g1 : i + 1 < (E 2).1 := by omega
  obtain ⟨v, p, r, p2, r2, n2, nt2, c1, c2, hv⟩ := o_lose (E := E) hi ((E 2).2 (i + 1))
  have f1 : ∀ {M_ : Nat} {c_ : List Instr} {L_ : List Value}, ev E M_ (.invokevirtual 96 :: c_) L_ (.int ((E 2).2 (i + 1)) :: .ref 0 :: []) (HH q s) = ev E M_ c_ L_ (.int v :: []) (HH p r) := fun {M_} {c_} {L_} => e_inv (as := [.ref 0, .int ((E 2).2 (i + 1))]) (S := []) rfl rfl (Nat.le_of_ble_eq_true rfl) (rfl) (c1)
  have f2 : ∀ {M_ : Nat} {c_ : List Instr} {L_ : List Value} {s0_ : Value}, ev E M_ (.invokevirtual 175 :: c_) L_ (.int ((E 2).2 (i + 1)) :: .ref 61 :: [s0_]) (HH p r) = ev E M_ c_ L_ (.int v :: [s0_]) (HH p2 r2) := fun {M_} {c_} {L_} {s0_} => e_inv (as := [.ref 61, .int ((E 2).2 (i + 1))]) (S := [s0_]) rfl rfl (Nat.le_of_ble_eq_true rfl) (rfl) (c2)
  refine ⟨p2, r2, n2, nt2, ?_, hv⟩
  simp only [b_186_956, e_aloadr_1, e_aloadr_2, e_aloadx_0, e_iload_3, k_1, k_2, k_3, k_4, k_5, e_iadd, nI_1, xl_2, xl_3, xl_4, xl_5, xl_d g1 hN, f1, f2, e_icmp_eq, eq_self, if_true, not_true_eq_false, not_false_eq_true, if_true, if_false, true_or, or_true, false_or, or_false, true_and, and_true, false_and, and_false, and_self, or_self, reduceIte, Bool.false_eq_true, i10, i01]
theorem la_979 (hi : INV q s n nt) {i : Nat} (h : i + 6 ≤ (E 2).1) (hN : (E 2).1 ≤ 3072) : LW E 979 i q s := by
  have g1 : i + 1 < (E 2).1 := by omega
  have g2 : i + 2 < (E 2).1 := by omega
  have g3 : i + 3 < (E 2).1 := by omega
  obtain ⟨v, p, r, p2, r2, n2, nt2, c1, c2, hv⟩ := o_put (E := E) hi ((E 2).2 (i + 1)) ((E 2).2 (i + 2)) ((E 2).2 (i + 3))
  have f1 : ∀ {M_ : Nat} {c_ : List Instr} {L_ : List Value}, ev E M_ (.invokevirtual 97 :: c_) L_ (.int ((E 2).2 (i + 3)) :: .int ((E 2).2 (i + 2)) :: .int ((E 2).2 (i + 1)) :: .ref 0 :: []) (HH q s) = ev E M_ c_ L_ (.int v :: []) (HH p r) := fun {M_} {c_} {L_} => e_inv (as := [.ref 0, .int ((E 2).2 (i + 1)), .int ((E 2).2 (i + 2)), .int ((E 2).2 (i + 3))]) (S := []) rfl rfl (Nat.le_of_ble_eq_true rfl) (rfl) (c1)
  have f2 : ∀ {M_ : Nat} {c_ : List Instr} {L_ : List Value} {s0_ : Value}, ev E M_ (.invokevirtual 176 :: c_) L_ (.int ((E 2).2 (i + 3)) :: .int ((E 2).2 (i + 2)) :: .int ((E 2).2 (i + 1)) :: .ref 61 :: [s0_]) (HH p r) = ev E M_ c_ L_ (.int v :: [s0_]) (HH p2 r2) := fun {M_} {c_} {L_} {s0_} => e_inv (as := [.ref 61, .int ((E 2).2 (i + 1)), .int ((E 2).2 (i + 2)), .int ((E 2).2 (i + 3))]) (S := [s0_]) rfl rfl (Nat.le_of_ble_eq_true rfl) (rfl) (c2)
  refine ⟨p2, r2, n2, nt2, ?_, hv⟩
  simp only [b_186_979, e_aloadr_1, e_aloadr_2, e_aloadx_0, e_iload_3, k_1, k_2, k_3, k_4, k_5, e_iadd, nI_1, xl_2, xl_3, xl_4, xl_5, xl_d g1 hN, xl_d g2 hN, xl_d g3 hN, f1, f2, e_icmp_eq, eq_self, if_true, not_true_eq_false, not_false_eq_true, if_true, if_false, true_or, or_true, false_or, or_false, true_and, and_true, false_and, and_false, and_self, or_self, reduceIte, Bool.false_eq_true, i10, i01]
theorem la_1022 (hi : INV q s n nt) {i : Nat} (h : i + 6 ≤ (E 2).1) (hN : (E 2).1 ≤ 3072) : LW E 1022 i q s := by
  have g1 : i + 1 < (E 2).1 := by omega
  have g2 : i + 2 < (E 2).1 := by omega
  have g3 : i + 3 < (E 2).1 := by omega
  obtain ⟨v, p, r, p2, r2, n2, nt2, c1, c2, hv⟩ := o_cell (E := E) hi ((E 2).2 (i + 1)) ((E 2).2 (i + 2)) ((E 2).2 (i + 3))
  have f1 : ∀ {M_ : Nat} {c_ : List Instr} {L_ : List Value}, ev E M_ (.invokevirtual 100 :: c_) L_ (.int ((E 2).2 (i + 3)) :: .int ((E 2).2 (i + 2)) :: .int ((E 2).2 (i + 1)) :: .ref 0 :: []) (HH q s) = ev E M_ c_ L_ (.long v :: []) (HH p r) := fun {M_} {c_} {L_} => e_inv (as := [.ref 0, .int ((E 2).2 (i + 1)), .int ((E 2).2 (i + 2)), .int ((E 2).2 (i + 3))]) (S := []) rfl rfl (Nat.le_of_ble_eq_true rfl) (rfl) (c1)
  have f2 : ∀ {M_ : Nat} {c_ : List Instr} {L_ : List Value} {s0_ : Value}, ev E M_ (.invokevirtual 177 :: c_) L_ (.int ((E 2).2 (i + 3)) :: .int ((E 2).2 (i + 2)) :: .int ((E 2).2 (i + 1)) :: .ref 61 :: [s0_]) (HH p r) = ev E M_ c_ L_ (.long v :: [s0_]) (HH p2 r2) := fun {M_} {c_} {L_} {s0_} => e_inv (as := [.ref 61, .int ((E 2).2 (i + 1)), .int ((E 2).2 (i + 2)), .int ((E 2).2 (i + 3))]) (S := [s0_]) rfl rfl (Nat.le_of_ble_eq_true rfl) (rfl) (c2)
  refine ⟨p2, r2, n2, nt2, ?_, hv⟩
  simp only [b_186_1022, e_aloadr_1, e_aloadr_2, e_aloadx_0, e_iload_3, k_1, k_2, k_3, k_4, k_5, e_iadd, nI_1, xl_2, xl_3, xl_4, xl_5, xl_d g1 hN, xl_d g2 hN, xl_d g3 hN, f1, f2, e_lcmp, lg_same, e_if_eq, eq_self, if_true, not_true_eq_false, not_false_eq_true, if_true, if_false, true_or, or_true, false_or, or_false, true_and, and_true, false_and, and_false, and_self, or_self, reduceIte, Bool.false_eq_true, i10, i01]
theorem la_1066 (hi : INV q s n nt) {i : Nat} (h : i + 6 ≤ (E 2).1) (hN : (E 2).1 ≤ 3072) : LW E 1066 i q s := by
  have g1 : i + 1 < (E 2).1 := by omega
  obtain ⟨v, p, r, p2, r2, n2, nt2, c1, c2, hv⟩ := o_tell (E := E) hi ((E 2).2 (i + 1))
  have f1 : ∀ {M_ : Nat} {c_ : List Instr} {L_ : List Value}, ev E M_ (.invokevirtual 101 :: c_) L_ (.int ((E 2).2 (i + 1)) :: .ref 0 :: []) (HH q s) = ev E M_ c_ L_ (.int v :: []) (HH p r) := fun {M_} {c_} {L_} => e_inv (as := [.ref 0, .int ((E 2).2 (i + 1))]) (S := []) rfl rfl (Nat.le_of_ble_eq_true rfl) (rfl) (c1)
  have f2 : ∀ {M_ : Nat} {c_ : List Instr} {L_ : List Value} {s0_ : Value}, ev E M_ (.invokevirtual 179 :: c_) L_ (.int ((E 2).2 (i + 1)) :: .ref 61 :: [s0_]) (HH p r) = ev E M_ c_ L_ (.int v :: [s0_]) (HH p2 r2) := fun {M_} {c_} {L_} {s0_} => e_inv (as := [.ref 61, .int ((E 2).2 (i + 1))]) (S := [s0_]) rfl rfl (Nat.le_of_ble_eq_true rfl) (rfl) (c2)
  refine ⟨p2, r2, n2, nt2, ?_, hv⟩
  simp only [b_186_1066, e_aloadr_1, e_aloadr_2, e_aloadx_0, e_iload_3, k_1, k_2, k_3, k_4, k_5, e_iadd, nI_1, xl_2, xl_3, xl_4, xl_5, xl_d g1 hN, f1, f2, e_icmp_eq, eq_self, if_true, not_true_eq_false, not_false_eq_true, if_true, if_false, true_or, or_true, false_or, or_false, true_and, and_true, false_and, and_false, and_self, or_self, reduceIte, Bool.false_eq_true, i10, i01]
theorem la_1089 (hi : INV q s n nt) {i : Nat} (h : i + 6 ≤ (E 2).1) (hN : (E 2).1 ≤ 3072) : LW E 1089 i q s := by
  have g1 : i + 1 < (E 2).1 := by omega
  obtain ⟨v, p, r, p2, r2, n2, nt2, c1, c2, hv⟩ := o_call (E := E) hi ((E 2).2 (i + 1))
  have f1 : ∀ {M_ : Nat} {c_ : List Instr} {L_ : List Value}, ev E M_ (.invokevirtual 106 :: c_) L_ (.int ((E 2).2 (i + 1)) :: .ref 0 :: []) (HH q s) = ev E M_ c_ L_ (.int v :: []) (HH p r) := fun {M_} {c_} {L_} => e_inv (as := [.ref 0, .int ((E 2).2 (i + 1))]) (S := []) rfl rfl (Nat.le_of_ble_eq_true rfl) (rfl) (c1)
  have f2 : ∀ {M_ : Nat} {c_ : List Instr} {L_ : List Value} {s0_ : Value}, ev E M_ (.invokevirtual 181 :: c_) L_ (.int ((E 2).2 (i + 1)) :: .ref 61 :: [s0_]) (HH p r) = ev E M_ c_ L_ (.int v :: [s0_]) (HH p2 r2) := fun {M_} {c_} {L_} {s0_} => e_inv (as := [.ref 61, .int ((E 2).2 (i + 1))]) (S := [s0_]) rfl rfl (Nat.le_of_ble_eq_true rfl) (rfl) (c2)
  refine ⟨p2, r2, n2, nt2, ?_, hv⟩
  simp only [b_186_1089, e_aloadr_1, e_aloadr_2, e_aloadx_0, e_iload_3, k_1, k_2, k_3, k_4, k_5, e_iadd, nI_1, xl_2, xl_3, xl_4, xl_5, xl_d g1 hN, f1, f2, e_icmp_eq, eq_self, if_true, not_true_eq_false, not_false_eq_true, if_true, if_false, true_or, or_true, false_or, or_false, true_and, and_true, false_and, and_false, and_self, or_self, reduceIte, Bool.false_eq_true, i10, i01]
theorem la_1112 (hi : INV q s n nt) {i : Nat} (h : i + 6 ≤ (E 2).1) (hN : (E 2).1 ≤ 3072) : LW E 1112 i q s := by
  have g1 : i + 1 < (E 2).1 := by omega
  have g2 : i + 2 < (E 2).1 := by omega
  obtain ⟨v, p, r, p2, r2, n2, nt2, c1, c2, hv⟩ := o_as (E := E) hi ((E 2).2 (i + 1)) ((E 2).2 (i + 2))
  have f1 : ∀ {M_ : Nat} {c_ : List Instr} {L_ : List Value}, ev E M_ (.invokevirtual 107 :: c_) L_ (.int ((E 2).2 (i + 2)) :: .int ((E 2).2 (i + 1)) :: .ref 0 :: []) (HH q s) = ev E M_ c_ L_ (.int v :: []) (HH p r) := fun {M_} {c_} {L_} => e_inv (as := [.ref 0, .int ((E 2).2 (i + 1)), .int ((E 2).2 (i + 2))]) (S := []) rfl rfl (Nat.le_of_ble_eq_true rfl) (rfl) (c1)
  have f2 : ∀ {M_ : Nat} {c_ : List Instr} {L_ : List Value} {s0_ : Value}, ev E M_ (.invokevirtual 182 :: c_) L_ (.int ((E 2).2 (i + 2)) :: .int ((E 2).2 (i + 1)) :: .ref 61 :: [s0_]) (HH p r) = ev E M_ c_ L_ (.int v :: [s0_]) (HH p2 r2) := fun {M_} {c_} {L_} {s0_} => e_inv (as := [.ref 61, .int ((E 2).2 (i + 1)), .int ((E 2).2 (i + 2))]) (S := [s0_]) rfl rfl (Nat.le_of_ble_eq_true rfl) (rfl) (c2)
  refine ⟨p2, r2, n2, nt2, ?_, hv⟩
  simp only [b_186_1112, e_aloadr_1, e_aloadr_2, e_aloadx_0, e_iload_3, k_1, k_2, k_3, k_4, k_5, e_iadd, nI_1, xl_2, xl_3, xl_4, xl_5, xl_d g1 hN, xl_d g2 hN, f1, f2, e_icmp_eq, eq_self, if_true, not_true_eq_false, not_false_eq_true, if_true, if_false, true_or, or_true, false_or, or_false, true_and, and_true, false_and, and_false, and_self, or_self, reduceIte, Bool.false_eq_true, i10, i01]
theorem la_1145 (hi : INV q s n nt) {i : Nat} (h : i + 6 ≤ (E 2).1) (hN : (E 2).1 ≤ 3072) : LW E 1145 i q s := by
  obtain ⟨v, p, r, p2, r2, n2, nt2, c1, c2, hv⟩ := o_trace (E := E) hi 
  have f1 : ∀ {M_ : Nat} {c_ : List Instr} {L_ : List Value}, ev E M_ (.invokevirtual 108 :: c_) L_ (.ref 0 :: []) (HH q s) = ev E M_ c_ L_ (.int v :: []) (HH p r) := fun {M_} {c_} {L_} => e_inv (as := [.ref 0]) (S := []) rfl rfl (Nat.le_of_ble_eq_true rfl) (rfl) (c1)
  have f2 : ∀ {M_ : Nat} {c_ : List Instr} {L_ : List Value} {s0_ : Value}, ev E M_ (.invokevirtual 183 :: c_) L_ (.ref 61 :: [s0_]) (HH p r) = ev E M_ c_ L_ (.int v :: [s0_]) (HH p2 r2) := fun {M_} {c_} {L_} {s0_} => e_inv (as := [.ref 61]) (S := [s0_]) rfl rfl (Nat.le_of_ble_eq_true rfl) (rfl) (c2)
  refine ⟨p2, r2, n2, nt2, ?_, hv⟩
  simp only [b_186_1145, e_aloadr_1, e_aloadr_2, e_aloadx_0, e_iload_3, k_1, k_2, k_3, k_4, k_5, e_iadd, nI_1, xl_2, xl_3, xl_4, xl_5, f1, f2, e_icmp_eq, eq_self, if_true, not_true_eq_false, not_false_eq_true, if_true, if_false, true_or, or_true, false_or, or_false, true_and, and_true, false_and, and_false, and_self, or_self, reduceIte, Bool.false_eq_true, i10, i01]
theorem la_1158 (hi : INV q s n nt) {i : Nat} (h : i + 6 ≤ (E 2).1) (hN : (E 2).1 ≤ 3072) : LW E 1158 i q s := by
  obtain ⟨v, p, r, p2, r2, n2, nt2, c1, c2, hv⟩ := o_fault (E := E) hi 
  have f1 : ∀ {M_ : Nat} {c_ : List Instr} {L_ : List Value}, ev E M_ (.invokevirtual 109 :: c_) L_ (.ref 0 :: []) (HH q s) = ev E M_ c_ L_ (.int v :: []) (HH p r) := fun {M_} {c_} {L_} => e_inv (as := [.ref 0]) (S := []) rfl rfl (Nat.le_of_ble_eq_true rfl) (rfl) (c1)
  have f2 : ∀ {M_ : Nat} {c_ : List Instr} {L_ : List Value} {s0_ : Value}, ev E M_ (.invokevirtual 184 :: c_) L_ (.ref 61 :: [s0_]) (HH p r) = ev E M_ c_ L_ (.int v :: [s0_]) (HH p2 r2) := fun {M_} {c_} {L_} {s0_} => e_inv (as := [.ref 61]) (S := [s0_]) rfl rfl (Nat.le_of_ble_eq_true rfl) (rfl) (c2)
  refine ⟨p2, r2, n2, nt2, ?_, hv⟩
  simp only [b_186_1158, e_aloadr_1, e_aloadr_2, e_aloadx_0, e_iload_3, k_1, k_2, k_3, k_4, k_5, e_iadd, nI_1, xl_2, xl_3, xl_4, xl_5, f1, f2, e_icmp_eq, eq_self, if_true, not_true_eq_false, not_false_eq_true, if_true, if_false, true_or, or_true, false_or, or_false, true_and, and_true, false_and, and_false, and_self, or_self, reduceIte, Bool.false_eq_true, i10, i01]
theorem la_1171 (hi : INV q s n nt) {i : Nat} (h : i + 6 ≤ (E 2).1) (hN : (E 2).1 ≤ 3072) : LW E 1171 i q s := by
  have g1 : i + 1 < (E 2).1 := by omega
  obtain ⟨v, p, r, p2, r2, n2, nt2, c1, c2, hv⟩ := o_many (E := E) hi ((E 2).2 (i + 1))
  have f1 : ∀ {M_ : Nat} {c_ : List Instr} {L_ : List Value}, ev E M_ (.invokevirtual 110 :: c_) L_ (.int ((E 2).2 (i + 1)) :: .ref 0 :: []) (HH q s) = ev E M_ c_ L_ (.int v :: []) (HH p r) := fun {M_} {c_} {L_} => e_inv (as := [.ref 0, .int ((E 2).2 (i + 1))]) (S := []) rfl rfl (Nat.le_of_ble_eq_true rfl) (rfl) (c1)
  have f2 : ∀ {M_ : Nat} {c_ : List Instr} {L_ : List Value} {s0_ : Value}, ev E M_ (.invokevirtual 185 :: c_) L_ (.int ((E 2).2 (i + 1)) :: .ref 61 :: [s0_]) (HH p r) = ev E M_ c_ L_ (.int v :: [s0_]) (HH p2 r2) := fun {M_} {c_} {L_} {s0_} => e_inv (as := [.ref 61, .int ((E 2).2 (i + 1))]) (S := [s0_]) rfl rfl (Nat.le_of_ble_eq_true rfl) (rfl) (c2)
  refine ⟨p2, r2, n2, nt2, ?_, hv⟩
  simp only [b_186_1171, e_aloadr_1, e_aloadr_2, e_aloadx_0, e_iload_3, k_1, k_2, k_3, k_4, k_5, e_iadd, nI_1, xl_2, xl_3, xl_4, xl_5, xl_d g1 hN, f1, f2, e_icmp_eq, eq_self, if_true, not_true_eq_false, not_false_eq_true, if_true, if_false, true_or, or_true, false_or, or_false, true_and, and_true, false_and, and_false, and_self, or_self, reduceIte, Bool.false_eq_true, i10, i01]
/-- any case of the law -/
theorem la_any (hE0 : E 0 = (5, am_lst [1, 1, 100, 100, 1])) (hE1 : E 1 = (5, am_lst [200, 20, 2000, 3000, 2000])) (hi : INV q s n nt) {i : Nat} (h : i + 6 ≤ (E 2).1) (hN : (E 2).1 ≤ 3072) (x : Int32) : ∃ p r n nt, ev E 186 (am_B 186 (am_tsw 1194 0 32 #[180, 213, 246, 295, 328, 361, 374, 427, 490, 523, 566, 589, 633, 677, 701, 714, 727, 751, 784, 807, 841, 865, 889, 913, 956, 979, 1022, 1066, 1089, 1112, 1145, 1158, 1171] x)) [.retAddr 2, .ref 0, .ref 61, .int (nI i)] [] (HH q s) = ev E 186 (am_B 186 (Int.toNat 1194)) [.retAddr 2, .ref 0, .ref 61, .int (nI i)] [] (HH p r) ∧ INV p r n nt := by
  by_cases hx : x.toInt < 0 ∨ 32 < x.toInt
  · refine ⟨q, s, n, nt, ?_, hi⟩
    unfold am_tsw
    rw [if_pos hx]
  · obtain ⟨c, hc, e⟩ : ∃ c : Nat, c < 33 ∧ (x.toInt - 0).toNat = c := ⟨_, by omega, rfl⟩
    unfold am_tsw
    rw [if_neg hx, e]
    clear e hx
    match c, hc with
    | 0, _ => exact la_180 hE0 hE1 hi h hN
    | 1, _ => exact la_213 hi h hN
    | 2, _ => exact la_246 hi h hN
    | 3, _ => exact la_295 hi h hN
    | 4, _ => exact la_328 hi h hN
    | 5, _ => exact la_361 hi h hN
    | 6, _ => exact la_374 hi h hN
    | 7, _ => exact la_427 hi h hN
    | 8, _ => exact la_490 hi h hN
    | 9, _ => exact la_523 hi h hN
    | 10, _ => exact la_566 hi h hN
    | 11, _ => exact la_589 hi h hN
    | 12, _ => exact la_633 hi h hN
    | 13, _ => exact la_677 hi h hN
    | 14, _ => exact la_701 hi h hN
    | 15, _ => exact la_714 hi h hN
    | 16, _ => exact la_727 hi h hN
    | 17, _ => exact la_751 hi h hN
    | 18, _ => exact la_784 hi h hN
    | 19, _ => exact la_807 hi h hN
    | 20, _ => exact la_841 hi h hN
    | 21, _ => exact la_865 hi h hN
    | 22, _ => exact la_889 hi h hN
    | 23, _ => exact la_913 hi h hN
    | 24, _ => exact la_956 hi h hN
    | 25, _ => exact la_979 hi h hN
    | 26, _ => exact la_1022 hi h hN
    | 27, _ => exact la_1066 hi h hN
    | 28, _ => exact la_1089 hi h hN
    | 29, _ => exact la_1112 hi h hN
    | 30, _ => exact la_1145 hi h hN
    | 31, _ => exact la_1158 hi h hN
    | 32, _ => exact la_1171 hi h hN
    | c + 33, hc => omega
theorem la_end {i : Nat} (h : ¬ i + 6 ≤ (E 2).1) (hN : (E 2).1 ≤ 3072) (hi6 : i ≤ 4000) : ev E 186 (am_B 186 (Int.toNat 18)) [.retAddr 2, .ref 0, .ref 61, .int (nI i)] [] (HH q s) = some (some (.int 1), HH q s) := by
  have hc : (Int32.ofNat (E 2).1 - 6 < nI i) = True := eq_true (by
    rw [Int32.lt_iff_toInt_lt, nI_toInt (by omega)]
    have := pk_sub_toInt (a := (E 2).1) (b := 6) (by omega) (by decide)
    rw [show Int32.ofNat (E 2).1 - 6 = nI (E 2).1 - nI 6 from rfl, this]
    omega)
  refine hd b_186_18 ?_
  simp only [b_186_1200, e_iload_3, e_aloadx_0, e_xlen, k_6, e_isub, e_icmp_gt, hc, if_true, k_1, e_zret1]
theorem la_go (hE0 : E 0 = (5, am_lst [1, 1, 100, 100, 1])) (hE1 : E 1 = (5, am_lst [200, 20, 2000, 3000, 2000])) (hi : INV q s n nt) {i : Nat} (h : i + 6 ≤ (E 2).1) (hN : (E 2).1 ≤ 3072) : ∃ p r n nt, ev E 186 (am_B 186 (Int.toNat 18)) [.retAddr 2, .ref 0, .ref 61, .int (nI i)] [] (HH q s) = ev E 186 (am_B 186 (Int.toNat 18)) [.retAddr 2, .ref 0, .ref 61, .int (nI (i + 6))] [] (HH p r) ∧ INV p r n nt := by
  have hc : (Int32.ofNat (E 2).1 - 6 < nI i) = False := eq_false (by
    rw [Int32.lt_iff_toInt_lt, nI_toInt (by omega)]
    have := pk_sub_toInt (a := (E 2).1) (b := 6) (by omega) (by decide)
    rw [show Int32.ofNat (E 2).1 - 6 = nI (E 2).1 - nI 6 from rfl, this]
    omega)
  have g0 : i < (E 2).1 := by omega
  obtain ⟨p, r, n2, nt2, e1, e2⟩ := la_any hE0 hE1 hi h hN ((E 2).2 i &&& 63)
  refine ⟨p, r, n2, nt2, hd b_186_18 ?_, e2⟩
  simp only [e_iload_3, e_aloadx_0, e_xlen, k_6, e_isub, e_icmp_gt, hc, if_false, xl_d g0 hN, k_63, e_iand, e_tsw]
  refine Eq.trans e1 (hd b_186_1194 ?_)
  simp only [e_iinc_3, e_kpr, e_goto]
  rw [show nI i + Int32.ofInt 6 = nI (i + 6) from nI_add i 6]
theorem la_all (hE0 : E 0 = (5, am_lst [1, 1, 100, 100, 1])) (hE1 : E 1 = (5, am_lst [200, 20, 2000, 3000, 2000])) (hN : (E 2).1 ≤ 3072) : ∀ (k i : Nat) (q : Nat → Nat → Int32) (s : Nat → Nat → Int64) (n nt : Nat), (E 2).1 + 6 ≤ i + k → i ≤ 3100 → INV q s n nt → ∃ p r, ev E 186 (am_B 186 (Int.toNat 18)) [.retAddr 2, .ref 0, .ref 61, .int (nI i)] [] (HH q s) = some (some (.int 1), HH p r) := by
  intro k
  induction k with
  | zero => intro i q s n nt h1 h2 hi; exact ⟨q, s, la_end (by omega) hN (by omega)⟩
  | succ k ih =>
    intro i q s n nt h1 h2 hi
    by_cases h : i + 6 ≤ (E 2).1
    · obtain ⟨p, r, n2, nt2, e1, e2⟩ := la_go hE0 hE1 hi h hN
      obtain ⟨p2, r2, e3⟩ := ih (i + 6) p r n2 nt2 (by omega) (by omega) e2
      exact ⟨p2, r2, e1.trans e3⟩
    · exact ⟨q, s, la_end h hN (by omega)⟩
end Lw
