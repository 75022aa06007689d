/-! LOOPS OF THE CIRCUIT -/
/-- a loop that goes through -/
theorem loop_up {β : Type} (G : Nat → β) (a n : Nat) (h : ∀ i, a ≤ i → i < n → G i = G (i + 1)) (hn : a ≤ n) : G a = G n := by
  obtain ⟨k, rfl⟩ : ∃ k, n = a + k := ⟨n - a, by omega⟩
  clear hn
  induction k with
  | zero => rfl
  | succ k ih =>
    rw [ih (fun i h1 h2 => h i h1 (by omega))]
    exact h (a + k) (by omega) (by omega)
/-- a loop that ends at the first i with c i -/
theorem loop_if {β : Type} (G : Nat → β) (c : Nat → Prop) [DecidablePred c] (r : Nat → β) (n : Nat) (h : ∀ i, i < n → G i = if c i then r i else G (i + 1)) : ∀ a, a ≤ n → (∃ i, a ≤ i ∧ i < n ∧ c i ∧ (∀ j, a ≤ j → j < i → ¬ c j) ∧ G a = r i) ∨ ((∀ j, a ≤ j → j < n → ¬ c j) ∧ G a = G n) := by
  intro a ha
  obtain ⟨k, rfl⟩ : ∃ k, n = a + k := ⟨n - a, by omega⟩
  clear ha
  induction k generalizing a with
  | zero => exact Or.inr ⟨fun j h1 h2 => by omega, rfl⟩
  | succ k ih =>
    by_cases hc : c a
    · exact Or.inl ⟨a, Nat.le_refl _, by omega, hc, fun j h1 h2 => by omega, by rw [h a (by omega), if_pos hc]⟩
    · have e : G a = G (a + 1) := by rw [h a (by omega), if_neg hc]
      have e2 : a + (k + 1) = a + 1 + k := by omega
      rw [e2] at h ⊢
      rcases ih (a + 1) h with ⟨i, h1, h2, h3, h4, h5⟩ | ⟨h1, h2⟩
      · refine Or.inl ⟨i, by omega, h2, h3, fun j g1 g2 => ?_, e.trans h5⟩
        by_cases hj : j = a
        · subst hj; exact hc
        · exact h4 j (by omega) g2
      · refine Or.inr ⟨fun j g1 g2 => ?_, e.trans h2⟩
        by_cases hj : j = a
        · subst hj; exact hc
        · exact h1 j (by omega) g2
theorem hd {E : aE} {M : Nat} {c c' : List Instr} {L S : List Value} {h : aH} {r : Option aR} (hb : c = c') (k : ev E M c' L S h = r) : ev E M c L S h = r := hb ▸ k
theorem am_upa {α : Type} {f : Nat → Nat → α} {k i a b : Nat} {v : α} : am_up f k i v a b = if a = k ∧ b = i then v else f a b := by
  unfold am_up
  by_cases h1 : a = k <;> by_cases h2 : b = i <;> simp [h1, h2]
theorem le_nI {a b : Nat} (ha : a < 2 ^ 31) (hb : b < 2 ^ 31) : nI a ≤ nI b ↔ a ≤ b := nI_leI ha hb
theorem le5 {i : Nat} (h : i < 5) : ((5 : Int32) ≤ nI i) = False := by
  have : ¬ nI 5 ≤ nI i := fun q => by have := (nI_leI (by decide) (by omega)).mp q; omega
  exact eq_false this
theorem le55 : ((5 : Int32) ≤ nI 5) = True := by decide +kernel
theorem le24 {i : Nat} (h : i < 24) : ((24 : Int32) ≤ nI i) = False := by
  have : ¬ nI 24 ≤ nI i := fun q => by have := (nI_leI (by decide) (by omega)).mp q; omega
  exact eq_false this
theorem le2424 : ((24 : Int32) ≤ nI 24) = True := by decide +kernel
theorem lec {i m : Nat} (hm : m < 1000) (h : i < m) : (nI m ≤ nI i) = False := eq_false (fun q => by have := (nI_leI (by omega) (by omega)).mp q; omega)
theorem lecc {m : Nat} : (nI m ≤ nI m) = True := eq_true (Int32.le_refl _)
theorem k0nI : (0 : Int32) = nI 0 := rfl
def sumI (f : Nat → Int) : Nat → Int
  | 0 => 0
  | n + 1 => sumI f n + f n
section Cl2
variable {E : aE} {mi : Nat → Nat → Int32} {ml : Nat → Nat → Int64}
def clr2 (mi : Nat → Nat → Int32) (n : Nat) : Nat → Nat → Int32 := fun a b => if (a = 40 ∨ a = 42) ∧ b < n then 0 else mi a b
theorem ct_Circuit_clearLoads   : ev E 43 (am_B 43 0) [.ref 34, am_dm] [] (HH mi ml) = some (none, HH (clr2 mi 5) ml) := by
  simp only [b_43_e, b_43_27, k_0, e_istore_1, e_kpi, e_kpr, e_kpl, e_kpd, e_jsr, e_iload_1, k_5, e_icmp_ge, e_aloadr_0, g_6_34, is_37, is_40, g_8_34, is_2, is_5, is_33, is_35, is_36, is_41, is_42, is_tp, is_ta, is_sc, is_po, e_iinc_1, e_goto, e_ret, eq_self]
  have hl := loop_up (fun i => ev E 43 (am_B 43 (Int.toNat 2)) [.ref 34, .int (nI i)] [] (HH (clr2 mi i) ml)) 0 5 (fun i _ hi => by
    refine hd b_43_2 ?_
    simp only [b_43_e, b_43_27, k_0, e_istore_1, e_kpi, e_kpr, e_kpl, e_kpd, e_jsr, e_iload_1, k_5, e_icmp_ge, e_aloadr_0, g_6_34, is_37, is_40, g_8_34, is_2, is_5, is_33, is_35, is_36, is_41, is_42, is_tp, is_ta, is_sc, is_po, e_iinc_1, e_goto, e_ret, eq_self, hi, le5 hi, not_true_eq_false, not_false_eq_true, if_true, if_false, true_or, or_true, false_or, or_false, true_and, and_true, false_and, and_false, and_self, or_self, reduceIte, Bool.false_eq_true, i10, i01, e_inc1]
    congr 2
    funext a b
    simp only [am_upa, clr2]
    repeat' split
    all_goals first | rfl | omega) (by decide)
  have h0 : clr2 mi 0 = mi := by funext a b; simp [clr2]
  rw [h0] at hl
  rw [k0nI, hl]
  simp only [b_43_2, b_43_e, b_43_27, k_0, e_istore_1, e_kpi, e_kpr, e_kpl, e_kpd, e_jsr, e_iload_1, k_5, e_icmp_ge, e_aloadr_0, g_6_34, is_37, is_40, g_8_34, is_2, is_5, is_33, is_35, is_36, is_41, is_42, is_tp, is_ta, is_sc, is_po, e_iinc_1, e_goto, e_ret, eq_self, le55, not_true_eq_false, not_false_eq_true, if_true, if_false, true_or, or_true, false_or, or_false, true_and, and_true, false_and, and_false, and_self, or_self, reduceIte, Bool.false_eq_true, i10, i01]
theorem cc_Circuit_clearLoads_0 {M : Nat} {c : List Instr} {L : List Value}   : ev E M (.invokevirtual 43 :: c) L (.ref 34 :: []) (HH mi ml) = ev E M c L [] (HH (clr2 mi 5) ml) := e_inv (as := [.ref 34]) (S := []) rfl rfl (Nat.le_of_ble_eq_true rfl) (rfl) (ct_Circuit_clearLoads )
theorem cc_Circuit_clearLoads_1 {M : Nat} {c : List Instr} {L : List Value} {s0 : Value}   : ev E M (.invokevirtual 43 :: c) L (.ref 34 :: [s0]) (HH mi ml) = ev E M c L [s0] (HH (clr2 mi 5) ml) := e_inv (as := [.ref 34]) (S := [s0]) rfl rfl (Nat.le_of_ble_eq_true rfl) (rfl) (ct_Circuit_clearLoads )
theorem cc_Circuit_clearLoads_2 {M : Nat} {c : List Instr} {L : List Value} {s0 s1 : Value}   : ev E M (.invokevirtual 43 :: c) L (.ref 34 :: [s0, s1]) (HH mi ml) = ev E M c L [s0, s1] (HH (clr2 mi 5) ml) := e_inv (as := [.ref 34]) (S := [s0, s1]) rfl rfl (Nat.le_of_ble_eq_true rfl) (rfl) (ct_Circuit_clearLoads )
theorem cc_Circuit_clearLoads_3 {M : Nat} {c : List Instr} {L : List Value} {s0 s1 s2 : Value}   : ev E M (.invokevirtual 43 :: c) L (.ref 34 :: [s0, s1, s2]) (HH mi ml) = ev E M c L [s0, s1, s2] (HH (clr2 mi 5) ml) := e_inv (as := [.ref 34]) (S := [s0, s1, s2]) rfl rfl (Nat.le_of_ble_eq_true rfl) (rfl) (ct_Circuit_clearLoads )
theorem ct_Circuit_pulledTogether   : ev E 47 (am_B 47 0) [.ref 34, am_dm, am_dm, am_dm] [] (HH mi ml) = some (some (.long (Int64.ofInt (sumI (fun n => (mi 42 n).toInt) 5))), HH mi ml) := by
  simp only [b_47_e, b_47_25, kl_0, e_lstore_1, e_kpi, e_kpr, e_kpl, e_kpd, k_0, e_istore_3, e_jsr, e_iload_3, k_5, e_icmp_ge, e_lload_1, e_aloadr_0, g_8_34, il_2, il_5, il_33, il_35, il_36, il_41, il_42, il_tp, il_ta, il_sc, il_po, ik_2_0, ik_2_1, ik_2_2, ik_2_3, ik_2_4, e_i2l, e_ladd, e_iinc_3, e_goto, e_lret, eq_self]
  have hl := loop_up (fun i => ev E 47 (am_B 47 (Int.toNat 4)) [.ref 34, .long (Int64.ofInt (sumI (fun n => (mi 42 n).toInt) i)), am_dm, .int (nI i)] [] (HH mi ml)) 0 5 (fun i _ hi => by
    refine hd b_47_4 ?_
    simp only [b_47_e, b_47_25, kl_0, e_lstore_1, e_kpi, e_kpr, e_kpl, e_kpd, k_0, e_istore_3, e_jsr, e_iload_3, k_5, e_icmp_ge, e_lload_1, e_aloadr_0, g_8_34, il_2, il_5, il_33, il_35, il_36, il_41, il_42, il_tp, il_ta, il_sc, il_po, ik_2_0, ik_2_1, ik_2_2, ik_2_3, ik_2_4, e_i2l, e_ladd, e_iinc_3, e_goto, e_lret, eq_self, hi, le5 hi, not_true_eq_false, not_false_eq_true, if_true, if_false, true_or, or_true, false_or, or_false, true_and, and_true, false_and, and_false, and_self, or_self, reduceIte, Bool.false_eq_true, i10, i01, e_inc1, i64_of, sumI, Int64.ofInt_add]) (by decide)
  rw [k0nI, show (0 : Int64) = Int64.ofInt (sumI (fun n => (mi 42 n).toInt) 0) from rfl, hl]
  simp only [b_47_4, b_47_e, b_47_25, kl_0, e_lstore_1, e_kpi, e_kpr, e_kpl, e_kpd, k_0, e_istore_3, e_jsr, e_iload_3, k_5, e_icmp_ge, e_lload_1, e_aloadr_0, g_8_34, il_2, il_5, il_33, il_35, il_36, il_41, il_42, il_tp, il_ta, il_sc, il_po, ik_2_0, ik_2_1, ik_2_2, ik_2_3, ik_2_4, e_i2l, e_ladd, e_iinc_3, e_goto, e_lret, eq_self, le55, not_true_eq_false, not_false_eq_true, if_true, if_false, true_or, or_true, false_or, or_false, true_and, and_true, false_and, and_false, and_self, or_self, reduceIte, Bool.false_eq_true, i10, i01]
theorem cc_Circuit_pulledTogether_0 {M : Nat} {c : List Instr} {L : List Value}   : ev E M (.invokevirtual 47 :: c) L (.ref 34 :: []) (HH mi ml) = ev E M c L (.long (Int64.ofInt (sumI (fun n => (mi 42 n).toInt) 5)) :: []) (HH mi ml) := e_inv (as := [.ref 34]) (S := []) rfl rfl (Nat.le_of_ble_eq_true rfl) (rfl) (ct_Circuit_pulledTogether )
theorem cc_Circuit_pulledTogether_1 {M : Nat} {c : List Instr} {L : List Value} {s0 : Value}   : ev E M (.invokevirtual 47 :: c) L (.ref 34 :: [s0]) (HH mi ml) = ev E M c L (.long (Int64.ofInt (sumI (fun n => (mi 42 n).toInt) 5)) :: [s0]) (HH mi ml) := e_inv (as := [.ref 34]) (S := [s0]) rfl rfl (Nat.le_of_ble_eq_true rfl) (rfl) (ct_Circuit_pulledTogether )
theorem cc_Circuit_pulledTogether_2 {M : Nat} {c : List Instr} {L : List Value} {s0 s1 : Value}   : ev E M (.invokevirtual 47 :: c) L (.ref 34 :: [s0, s1]) (HH mi ml) = ev E M c L (.long (Int64.ofInt (sumI (fun n => (mi 42 n).toInt) 5)) :: [s0, s1]) (HH mi ml) := e_inv (as := [.ref 34]) (S := [s0, s1]) rfl rfl (Nat.le_of_ble_eq_true rfl) (rfl) (ct_Circuit_pulledTogether )
theorem cc_Circuit_pulledTogether_3 {M : Nat} {c : List Instr} {L : List Value} {s0 s1 s2 : Value}   : ev E M (.invokevirtual 47 :: c) L (.ref 34 :: [s0, s1, s2]) (HH mi ml) = ev E M c L (.long (Int64.ofInt (sumI (fun n => (mi 42 n).toInt) 5)) :: [s0, s1, s2]) (HH mi ml) := e_inv (as := [.ref 34]) (S := [s0, s1, s2]) rfl rfl (Nat.le_of_ble_eq_true rfl) (rfl) (ct_Circuit_pulledTogether )
end Cl2
