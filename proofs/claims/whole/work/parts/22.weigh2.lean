/-! WEIGH, AND WHO IS LEFT OUT -/
def fsti (c : Nat → Bool) : Nat → Nat → Option Nat
  | _, 0 => none
  | i, k + 1 => if c i = true then some i else fsti c (i + 1) k
theorem loop_fst {β : Type} (G : Nat → β) (c : Nat → Bool) (r : Nat → β) (n : Nat) (h : ∀ i, i < n → G i = if c i = true then r i else G (i + 1)) : ∀ k a, a + k = n → G a = match fsti c a k with
    | some i => r i
    | none => G n := by
  intro k
  induction k with
  | zero => intro a ha; simp only [fsti]; rw [show a = n by omega]
  | succ k ih =>
    intro a ha
    rw [h a (by omega), fsti]
    by_cases hc : c a = true
    · simp only [hc, if_true]
    · simp only [hc]
      exact ih (a + 1) (by omega)
theorem fsti_some {c : Nat → Bool} : ∀ {k a i : Nat}, fsti c a k = some i → a ≤ i ∧ i < a + k ∧ c i = true ∧ ∀ j, a ≤ j → j < i → c j = false := by
  intro k
  induction k with
  | zero => intro a i h; cases h
  | succ k ih =>
    intro a i h
    rw [fsti] at h
    by_cases hc : c a = true
    · rw [if_pos hc] at h
      cases h
      exact ⟨Nat.le_refl _, by omega, hc, fun j h1 h2 => by omega⟩
    · rw [if_neg hc] at h
      obtain ⟨h1, h2, h3, h4⟩ := ih h
      refine ⟨by omega, by omega, h3, fun j g1 g2 => ?_⟩
      by_cases hj : j = a
      · subst hj; simpa using hc
      · exact h4 j (by omega) g2
theorem fsti_none {c : Nat → Bool} : ∀ {k a : Nat}, fsti c a k = none → ∀ j, a ≤ j → j < a + k → c j = false := by
  intro k
  induction k with
  | zero => intro a h j h1 h2; omega
  | succ k ih =>
    intro a h j h1 h2
    rw [fsti] at h
    by_cases hc : c a = true
    · rw [if_pos hc] at h; cases h
    · rw [if_neg hc] at h
      by_cases hj : j = a
      · subst hj; simpa using hc
      · exact ih h j (by omega) (by omega)
/-- the last before i -/
def prvi (c : Nat → Bool) : Nat → Option Nat
  | 0 => none
  | i + 1 => if c i = true then some i else prvi c i
theorem prvi_some {c : Nat → Bool} : ∀ {i p : Nat}, prvi c i = some p → p < i ∧ c p = true ∧ ∀ j, p < j → j < i → c j = false := by
  intro i
  induction i with
  | zero => intro p h; cases h
  | succ i ih =>
    intro p h
    rw [prvi] at h
    by_cases hc : c i = true
    · rw [if_pos hc] at h
      cases h
      exact ⟨by omega, hc, fun j h1 h2 => by omega⟩
    · rw [if_neg hc] at h
      obtain ⟨h1, h2, h3⟩ := ih h
      refine ⟨by omega, h2, fun j g1 g2 => ?_⟩
      by_cases hj : j = i
      · subst hj; simpa using hc
      · exact h3 j g1 (by omega)
theorem prvi_none {c : Nat → Bool} : ∀ {i : Nat}, prvi c i = none → ∀ j, j < i → c j = false := by
  intro i
  induction i with
  | zero => intro h j hj; omega
  | succ i ih =>
    intro h j hj
    rw [prvi] at h
    by_cases hc : c i = true
    · rw [if_pos hc] at h; cases h
    · rw [if_neg hc] at h
      by_cases hji : j = i
      · subst hji; simpa using hc
      · exact ih h j (by omega)
def cF (mi : Nat → Nat → Int32) (n : Nat) : Bool := decide (¬ mi 37 n = 0)
def nxti (c : Nat → Bool) (m j : Nat) : Option Nat := fsti c (j + 1) (m - (j + 1))
/-- what j would give, with who feeds now -/
def gUp (mi : Nat → Nat → Int32) (m j : Nat) : Int := sumI (fun n => wT (cTh mi n) (cY mi n) (cA mi n) (cP mi j) ((prvi (cF mi) j).map (cP mi)) ((nxti (cF mi) m j).map (cP mi))) 5
def gDn (mi : Nat → Nat → Int32) (m j : Nat) : Int := lef (cP mi j) ((prvi (cF mi) j).map (cP mi)) * rig (cP mi j) ((nxti (cF mi) m j).map (cP mi))
def wgh (mi : Nat → Nat → Int32) (ml : Nat → Nat → Int64) (m i : Nat) : Nat → Nat → Int64 := fun a b => if a = 38 ∧ b < i ∧ cF mi b = true then Int64.ofInt (gUp mi m b) else if a = 39 ∧ b < i ∧ cF mi b = true then Int64.ofInt (gDn mi m b) else ml a b
def lot (mi : Nat → Nat → Int32) (ml : Nat → Nat → Int64) (i : Nat) : Nat → Nat → Int32 := fun a b => if a = 37 ∧ b < i ∧ cF mi b = true ∧ ml 38 b < 0 then 0 else mi a b
def lotB (mi : Nat → Nat → Int32) (ml : Nat → Nat → Int64) : Nat → Bool
  | 0 => false
  | i + 1 => lotB mi ml i || (cF mi i && decide (ml 38 i < 0))
section Cl5
variable {E : aE} {mi : Nat → Nat → Int32} {ml : Nat → Nat → Int64}
theorem ct_Circuit_nextFeeding {j m : Nat} (hm : mi 34 5 = nI m) (hm5 : m ≤ 5) (hj : j < m) : ev E 49 (am_B 49 0) [.ref 34, .int (nI j), am_dm] [] (HH mi ml) = some (some (.int (oI (nxti (cF mi) m j))), HH mi ml) := by
  simp only [b_49_e, b_49_23, b_49_29, e_iload_1, k_1, e_iadd, e_istore_2, e_kpi, e_kpr, e_kpl, e_kpd, e_jsr, e_iload_2, e_aloadr_0, g_5_34, e_icmp_ge, g_2_34, il_37, il_40, e_if_eq, e_iret, e_iinc_2, e_goto, k_m1, eq_self, nI_1]
  have hl := loop_fst (fun i => ev E 49 (am_B 49 (Int.toNat 4)) [.ref 34, .int (nI j), .int (nI i)] [] (HH mi ml)) (cF mi) (fun i => some (some (.int (nI i)), HH mi ml)) m (fun i hi => by
    refine hd b_49_4 ?_
    have hi5 : i < 5 := by omega
    by_cases h1 : mi 37 i = 0
    · simp only [b_49_e, b_49_23, b_49_29, e_iload_1, k_1, e_iadd, e_istore_2, e_kpi, e_kpr, e_kpl, e_kpd, e_jsr, e_iload_2, e_aloadr_0, g_5_34, e_icmp_ge, g_2_34, il_37, il_40, e_if_eq, e_iret, e_iinc_2, e_goto, k_m1, eq_self, hm, lec (show m < 1000 by omega) hi, hi5, h1, not_true_eq_false, not_false_eq_true, if_true, if_false, true_or, or_true, false_or, or_false, true_and, and_true, false_and, and_false, and_self, or_self, reduceIte, Bool.false_eq_true, i10, i01, e_inc1, cF, decide_false, Bool.false_eq_true]
    · simp only [b_49_e, b_49_23, b_49_29, e_iload_1, k_1, e_iadd, e_istore_2, e_kpi, e_kpr, e_kpl, e_kpd, e_jsr, e_iload_2, e_aloadr_0, g_5_34, e_icmp_ge, g_2_34, il_37, il_40, e_if_eq, e_iret, e_iinc_2, e_goto, k_m1, eq_self, hm, lec (show m < 1000 by omega) hi, hi5, h1, not_true_eq_false, not_false_eq_true, if_true, if_false, true_or, or_true, false_or, or_false, true_and, and_true, false_and, and_false, and_self, or_self, reduceIte, Bool.false_eq_true, i10, i01, e_inc1, cF, decide_true]) (m - (j + 1)) (j + 1) (by omega)
  rw [hl]
  unfold nxti
  cases fsti (cF mi) (j + 1) (m - (j + 1)) with
  | some i => rfl
  | none => simp only [b_49_4, b_49_e, b_49_23, b_49_29, e_iload_1, k_1, e_iadd, e_istore_2, e_kpi, e_kpr, e_kpl, e_kpd, e_jsr, e_iload_2, e_aloadr_0, g_5_34, e_icmp_ge, g_2_34, il_37, il_40, e_if_eq, e_iret, e_iinc_2, e_goto, k_m1, eq_self, hm, lecc, not_true_eq_false, not_false_eq_true, if_true, if_false, true_or, or_true, false_or, or_false, true_and, and_true, false_and, and_false, and_self, or_self, reduceIte, Bool.false_eq_true, i10, i01, oI_n]
theorem cc_Circuit_nextFeeding_0 {M : Nat} {c : List Instr} {L : List Value} {j m : Nat} (hm : mi 34 5 = nI m) (hm5 : m ≤ 5) (hj : j < m) : ev E M (.invokevirtual 49 :: c) L (.int (nI j) :: .ref 34 :: []) (HH mi ml) = ev E M c L (.int (oI (nxti (cF mi) m j)) :: []) (HH mi ml) := e_inv (as := [.ref 34, .int (nI j)]) (S := []) rfl rfl (Nat.le_of_ble_eq_true rfl) (rfl) (ct_Circuit_nextFeeding hm hm5 hj)
theorem cc_Circuit_nextFeeding_1 {M : Nat} {c : List Instr} {L : List Value} {s0 : Value} {j m : Nat} (hm : mi 34 5 = nI m) (hm5 : m ≤ 5) (hj : j < m) : ev E M (.invokevirtual 49 :: c) L (.int (nI j) :: .ref 34 :: [s0]) (HH mi ml) = ev E M c L (.int (oI (nxti (cF mi) m j)) :: [s0]) (HH mi ml) := e_inv (as := [.ref 34, .int (nI j)]) (S := [s0]) rfl rfl (Nat.le_of_ble_eq_true rfl) (rfl) (ct_Circuit_nextFeeding hm hm5 hj)
theorem cc_Circuit_nextFeeding_2 {M : Nat} {c : List Instr} {L : List Value} {s0 s1 : Value} {j m : Nat} (hm : mi 34 5 = nI m) (hm5 : m ≤ 5) (hj : j < m) : ev E M (.invokevirtual 49 :: c) L (.int (nI j) :: .ref 34 :: [s0, s1]) (HH mi ml) = ev E M c L (.int (oI (nxti (cF mi) m j)) :: [s0, s1]) (HH mi ml) := e_inv (as := [.ref 34, .int (nI j)]) (S := [s0, s1]) rfl rfl (Nat.le_of_ble_eq_true rfl) (rfl) (ct_Circuit_nextFeeding hm hm5 hj)
theorem cc_Circuit_nextFeeding_3 {M : Nat} {c : List Instr} {L : List Value} {s0 s1 s2 : Value} {j m : Nat} (hm : mi 34 5 = nI m) (hm5 : m ≤ 5) (hj : j < m) : ev E M (.invokevirtual 49 :: c) L (.int (nI j) :: .ref 34 :: [s0, s1, s2]) (HH mi ml) = ev E M c L (.int (oI (nxti (cF mi) m j)) :: [s0, s1, s2]) (HH mi ml) := e_inv (as := [.ref 34, .int (nI j)]) (S := [s0, s1, s2]) rfl rfl (Nat.le_of_ble_eq_true rfl) (rfl) (ct_Circuit_nextFeeding hm hm5 hj)
theorem ct_Circuit_weigh {m : Nat} (hm : mi 34 5 = nI m) (hm5 : m ≤ 5) (hp : ∀ n, n < m → bd (mi 36 n)) (hy : ∀ n, n < 5 → cTh mi n = true → bd (mi 41 n)) : ev E 48 (am_B 48 0) [.ref 34, am_dm, am_dm] [] (HH mi ml) = some (none, HH mi (wgh mi ml m m)) := by
  simp only [b_48_e, b_48_34, b_48_40, k_m1, e_istore_1, e_kpi, e_kpr, e_kpl, e_kpd, k_0, e_istore_2, e_jsr, e_iload_2, e_aloadr_0, g_5_34, e_icmp_ge, g_2_34, il_37, il_40, e_if_eq, e_iload_1, cc_Circuit_nextFeeding_0, cc_Circuit_nextFeeding_1, cc_Circuit_nextFeeding_2, cc_Circuit_nextFeeding_3, Option.toList_some, Option.toList_none, List.cons_append, List.nil_append, cc_Circuit_weighOne_0, cc_Circuit_weighOne_1, cc_Circuit_weighOne_2, cc_Circuit_weighOne_3, e_iinc_2, e_goto, e_ret, eq_self]
  have hl := loop_up (fun i => ev E 48 (am_B 48 (Int.toNat 4)) [.ref 34, .int (oI (prvi (cF mi) i)), .int (nI i)] [] (HH mi (wgh mi ml m i))) 0 m (fun i _ hi => by
    refine hd b_48_4 ?_
    have hi5 : i < 5 := by omega
    by_cases h1 : mi 37 i = 0
    · have e1 : prvi (cF mi) (i + 1) = prvi (cF mi) i := by rw [prvi, if_neg (by simp [cF, h1])]
      have e2 : wgh mi ml m (i + 1) = wgh mi ml m i := by
        have hc : cF mi i = false := by simp [cF, h1]
        funext a b
        unfold wgh
        by_cases hb : b = i
        · subst hb; simp [hc]
        · have : (b < i + 1) = (b < i) := propext ⟨fun q => by omega, fun q => by omega⟩
          simp only [this]
      rw [e1, e2]
      simp only [b_48_e, b_48_34, b_48_40, k_m1, e_istore_1, e_kpi, e_kpr, e_kpl, e_kpd, k_0, e_istore_2, e_jsr, e_iload_2, e_aloadr_0, g_5_34, e_icmp_ge, g_2_34, il_37, il_40, e_if_eq, e_iload_1, cc_Circuit_nextFeeding_0, cc_Circuit_nextFeeding_1, cc_Circuit_nextFeeding_2, cc_Circuit_nextFeeding_3, Option.toList_some, Option.toList_none, List.cons_append, List.nil_append, cc_Circuit_weighOne_0, cc_Circuit_weighOne_1, cc_Circuit_weighOne_2, cc_Circuit_weighOne_3, e_iinc_2, e_goto, e_ret, eq_self, hm, lec (show m < 1000 by omega) hi, hi5, h1, not_true_eq_false, not_false_eq_true, if_true, if_false, true_or, or_true, false_or, or_false, true_and, and_true, false_and, and_false, and_self, or_self, reduceIte, Bool.false_eq_true, i10, i01, e_inc1]
    · have hc : cF mi i = true := by simp [cF, h1]
      have e1 : prvi (cF mi) (i + 1) = some i := by rw [prvi, if_pos hc]
      have e2 : wgh mi ml m (i + 1) = am_up (am_up (wgh mi ml m i) 38 i (Int64.ofInt (gUp mi m i))) 39 i (Int64.ofInt (gDn mi m i)) := by
        funext a b
        simp only [am_upa, wgh]
        by_cases hb : b = i
        · subst hb
          by_cases ha : a = 38
          · simp [ha, hc]
          · by_cases ha2 : a = 39
            · simp [ha2, hc]
            · simp [ha, ha2]
        · have : (b < i + 1) = (b < i) := propext ⟨fun q => by omega, fun q => by omega⟩
          simp only [this, hb, and_false, if_false]
      rw [e1, e2]
      have hbf : ∀ p, prvi (cF mi) i = some p → p < 5 ∧ bd (mi 36 p) := fun p q => by
        have := prvi_some q
        exact ⟨by omega, hp p (by omega)⟩
      have haf : ∀ p, nxti (cF mi) m i = some p → p < 5 ∧ bd (mi 36 p) := fun p q => by
        have := fsti_some q
        exact ⟨by omega, hp p (by omega)⟩
      simp only [b_48_e, b_48_34, b_48_40, k_m1, e_istore_1, e_kpi, e_kpr, e_kpl, e_kpd, k_0, e_istore_2, e_jsr, e_iload_2, e_aloadr_0, g_5_34, e_icmp_ge, g_2_34, il_37, il_40, e_if_eq, e_iload_1, cc_Circuit_nextFeeding_0, cc_Circuit_nextFeeding_1, cc_Circuit_nextFeeding_2, cc_Circuit_nextFeeding_3, Option.toList_some, Option.toList_none, List.cons_append, List.nil_append, cc_Circuit_weighOne_0, cc_Circuit_weighOne_1, cc_Circuit_weighOne_2, cc_Circuit_weighOne_3, e_iinc_2, e_goto, e_ret, eq_self, hm, lec (show m < 1000 by omega) hi, hi5, h1, not_true_eq_false, not_false_eq_true, if_true, if_false, true_or, or_true, false_or, or_false, true_and, and_true, false_and, and_false, and_self, or_self, reduceIte, Bool.false_eq_true, i10, i01, e_inc1, cc_Circuit_nextFeeding_3 hm hm5 hi, cc_Circuit_weighOne_0 hi5 hbf haf (hp i hi) hy, oI_s]
      rfl) (by omega)
  have h0 : wgh mi ml m 0 = ml := by funext a b; simp [wgh]
  rw [h0] at hl
  rw [k0nI]
  refine Eq.trans (show _ = _ from hl) ?_
  simp only [b_48_4, b_48_e, b_48_34, b_48_40, k_m1, e_istore_1, e_kpi, e_kpr, e_kpl, e_kpd, k_0, e_istore_2, e_jsr, e_iload_2, e_aloadr_0, g_5_34, e_icmp_ge, g_2_34, il_37, il_40, e_if_eq, e_iload_1, cc_Circuit_nextFeeding_0, cc_Circuit_nextFeeding_1, cc_Circuit_nextFeeding_2, cc_Circuit_nextFeeding_3, Option.toList_some, Option.toList_none, List.cons_append, List.nil_append, cc_Circuit_weighOne_0, cc_Circuit_weighOne_1, cc_Circuit_weighOne_2, cc_Circuit_weighOne_3, e_iinc_2, e_goto, e_ret, eq_self, hm, lecc, not_true_eq_false, not_false_eq_true, if_true, if_false, true_or, or_true, false_or, or_false, true_and, and_true, false_and, and_false, and_self, or_self, reduceIte, Bool.false_eq_true, i10, i01]
theorem cc_Circuit_weigh_0 {M : Nat} {c : List Instr} {L : List Value} {m : Nat} (hm : mi 34 5 = nI m) (hm5 : m ≤ 5) (hp : ∀ n, n < m → bd (mi 36 n)) (hy : ∀ n, n < 5 → cTh mi n = true → bd (mi 41 n)) : ev E M (.invokevirtual 48 :: c) L (.ref 34 :: []) (HH mi ml) = ev E M c L [] (HH mi (wgh mi ml m m)) := e_inv (as := [.ref 34]) (S := []) rfl rfl (Nat.le_of_ble_eq_true rfl) (rfl) (ct_Circuit_weigh hm hm5 hp hy)
theorem cc_Circuit_weigh_1 {M : Nat} {c : List Instr} {L : List Value} {s0 : Value} {m : Nat} (hm : mi 34 5 = nI m) (hm5 : m ≤ 5) (hp : ∀ n, n < m → bd (mi 36 n)) (hy : ∀ n, n < 5 → cTh mi n = true → bd (mi 41 n)) : ev E M (.invokevirtual 48 :: c) L (.ref 34 :: [s0]) (HH mi ml) = ev E M c L [s0] (HH mi (wgh mi ml m m)) := e_inv (as := [.ref 34]) (S := [s0]) rfl rfl (Nat.le_of_ble_eq_true rfl) (rfl) (ct_Circuit_weigh hm hm5 hp hy)
theorem cc_Circuit_weigh_2 {M : Nat} {c : List Instr} {L : List Value} {s0 s1 : Value} {m : Nat} (hm : mi 34 5 = nI m) (hm5 : m ≤ 5) (hp : ∀ n, n < m → bd (mi 36 n)) (hy : ∀ n, n < 5 → cTh mi n = true → bd (mi 41 n)) : ev E M (.invokevirtual 48 :: c) L (.ref 34 :: [s0, s1]) (HH mi ml) = ev E M c L [s0, s1] (HH mi (wgh mi ml m m)) := e_inv (as := [.ref 34]) (S := [s0, s1]) rfl rfl (Nat.le_of_ble_eq_true rfl) (rfl) (ct_Circuit_weigh hm hm5 hp hy)
theorem cc_Circuit_weigh_3 {M : Nat} {c : List Instr} {L : List Value} {s0 s1 s2 : Value} {m : Nat} (hm : mi 34 5 = nI m) (hm5 : m ≤ 5) (hp : ∀ n, n < m → bd (mi 36 n)) (hy : ∀ n, n < 5 → cTh mi n = true → bd (mi 41 n)) : ev E M (.invokevirtual 48 :: c) L (.ref 34 :: [s0, s1, s2]) (HH mi ml) = ev E M c L [s0, s1, s2] (HH mi (wgh mi ml m m)) := e_inv (as := [.ref 34]) (S := [s0, s1, s2]) rfl rfl (Nat.le_of_ble_eq_true rfl) (rfl) (ct_Circuit_weigh hm hm5 hp hy)
theorem ct_Circuit_leaveOutTaking {m : Nat} (hm : mi 34 5 = nI m) (hm5 : m ≤ 5) : ev E 51 (am_B 51 0) [.ref 34, am_dm, am_dm] [] (HH mi ml) = some (some (.int (if lotB mi ml m = true then 1 else 0)), HH (lot mi ml m) ml) := by
  simp only [b_51_e, b_51_41, b_51_47, k_0, e_istore_1, e_kpi, e_kpr, e_kpl, e_kpd, e_istore_2, e_jsr, e_iload_2, e_aloadr_0, g_5_34, e_icmp_ge, g_2_34, il_37, il_40, e_if_eq, g_3_34, il_38, il_39, kl_0, e_lcmp, e_if_ge, is_37, is_40, k_1, e_iinc_2, e_goto, e_iload_1, e_zret0, e_zret1, eq_self]
  have hl := loop_up (fun i => ev E 51 (am_B 51 (Int.toNat 4)) [.ref 34, .int (if lotB mi ml i = true then 1 else 0), .int (nI i)] [] (HH (lot mi ml i) ml)) 0 m (fun i _ hi => by
    refine hd b_51_4 ?_
    have hi5 : i < 5 := by omega
    have hm' : lot mi ml i 34 5 = nI m := by rw [← hm]; simp [lot]
    have hf' : lot mi ml i 37 i = mi 37 i := by simp [lot]
    have hno : cF mi i = false ∨ ¬ ml 38 i < 0 → lot mi ml (i + 1) = lot mi ml i ∧ lotB mi ml (i + 1) = lotB mi ml i := by
      intro hq
      constructor
      · funext a b
        unfold lot
        by_cases hb : b = i
        · subst hb
          rcases hq with hq | hq <;> simp [hq]
        · have : (b < i + 1) = (b < i) := propext ⟨fun q => by omega, fun q => by omega⟩
          simp only [this]
      · rw [lotB]
        rcases hq with hq | hq <;> simp [hq]
    by_cases h1 : mi 37 i = 0
    · obtain ⟨e1, e2⟩ := hno (Or.inl (by simp [cF, h1]))
      rw [e1, e2]
      simp only [b_51_e, b_51_41, b_51_47, k_0, e_istore_1, e_kpi, e_kpr, e_kpl, e_kpd, e_istore_2, e_jsr, e_iload_2, e_aloadr_0, g_5_34, e_icmp_ge, g_2_34, il_37, il_40, e_if_eq, g_3_34, il_38, il_39, kl_0, e_lcmp, e_if_ge, is_37, is_40, k_1, e_iinc_2, e_goto, e_iload_1, e_zret0, e_zret1, eq_self, hm', hf', lec (show m < 1000 by omega) hi, hi5, h1, not_true_eq_false, not_false_eq_true, if_true, if_false, true_or, or_true, false_or, or_false, true_and, and_true, false_and, and_false, and_self, or_self, reduceIte, Bool.false_eq_true, i10, i01, e_inc1]
    · by_cases h2 : (0 : Int64) ≤ ml 38 i
      · obtain ⟨e1, e2⟩ := hno (Or.inr (Int64.not_lt.mpr h2))
        rw [e1, e2]
        simp only [b_51_e, b_51_41, b_51_47, k_0, e_istore_1, e_kpi, e_kpr, e_kpl, e_kpd, e_istore_2, e_jsr, e_iload_2, e_aloadr_0, g_5_34, e_icmp_ge, g_2_34, il_37, il_40, e_if_eq, g_3_34, il_38, il_39, kl_0, e_lcmp, e_if_ge, is_37, is_40, k_1, e_iinc_2, e_goto, e_iload_1, e_zret0, e_zret1, eq_self, hm', hf', lec (show m < 1000 by omega) hi, hi5, h1, h2, lg_cmp_ge, not_true_eq_false, not_false_eq_true, if_true, if_false, true_or, or_true, false_or, or_false, true_and, and_true, false_and, and_false, and_self, or_self, reduceIte, Bool.false_eq_true, i10, i01, e_inc1]
      · have h2' : ml 38 i < 0 := Int64.not_le.mp h2
        have hc : cF mi i = true := by simp [cF, h1]
        have e1 : lot mi ml (i + 1) = am_up (lot mi ml i) 37 i 0 := by
          funext a b
          simp only [am_upa, lot]
          by_cases hb : b = i
          · subst hb
            by_cases ha : a = 37 <;> simp [ha, hc, h2']
          · have : (b < i + 1) = (b < i) := propext ⟨fun q => by omega, fun q => by omega⟩
            simp only [this, hb, and_false, if_false]
        have e2 : lotB mi ml (i + 1) = true := by rw [lotB]; simp [hc, h2']
        rw [e1, e2]
        simp only [b_51_e, b_51_41, b_51_47, k_0, e_istore_1, e_kpi, e_kpr, e_kpl, e_kpd, e_istore_2, e_jsr, e_iload_2, e_aloadr_0, g_5_34, e_icmp_ge, g_2_34, il_37, il_40, e_if_eq, g_3_34, il_38, il_39, kl_0, e_lcmp, e_if_ge, is_37, is_40, k_1, e_iinc_2, e_goto, e_iload_1, e_zret0, e_zret1, eq_self, hm', hf', lec (show m < 1000 by omega) hi, hi5, h1, h2, lg_cmp_ge, not_true_eq_false, not_false_eq_true, if_true, if_false, true_or, or_true, false_or, or_false, true_and, and_true, false_and, and_false, and_self, or_self, reduceIte, Bool.false_eq_true, i10, i01, e_inc1]) (by omega)
  have h0 : lot mi ml 0 = mi := by funext a b; simp [lot]
  rw [h0] at hl
  refine Eq.trans (show _ = _ from hl) ?_
  have hm' : lot mi ml m 34 5 = nI m := by rw [← hm]; simp [lot]
  simp only [b_51_4, b_51_e, b_51_41, b_51_47, k_0, e_istore_1, e_kpi, e_kpr, e_kpl, e_kpd, e_istore_2, e_jsr, e_iload_2, e_aloadr_0, g_5_34, e_icmp_ge, g_2_34, il_37, il_40, e_if_eq, g_3_34, il_38, il_39, kl_0, e_lcmp, e_if_ge, is_37, is_40, k_1, e_iinc_2, e_goto, e_iload_1, e_zret0, e_zret1, eq_self, hm', lecc, not_true_eq_false, not_false_eq_true, if_true, if_false, true_or, or_true, false_or, or_false, true_and, and_true, false_and, and_false, and_self, or_self, reduceIte, Bool.false_eq_true, i10, i01, e_zret bzo]
theorem cc_Circuit_leaveOutTaking_0 {M : Nat} {c : List Instr} {L : List Value} {m : Nat} (hm : mi 34 5 = nI m) (hm5 : m ≤ 5) : ev E M (.invokevirtual 51 :: c) L (.ref 34 :: []) (HH mi ml) = ev E M c L (.int (if lotB mi ml m = true then 1 else 0) :: []) (HH (lot mi ml m) ml) := e_inv (as := [.ref 34]) (S := []) rfl rfl (Nat.le_of_ble_eq_true rfl) (rfl) (ct_Circuit_leaveOutTaking hm hm5)
theorem cc_Circuit_leaveOutTaking_1 {M : Nat} {c : List Instr} {L : List Value} {s0 : Value} {m : Nat} (hm : mi 34 5 = nI m) (hm5 : m ≤ 5) : ev E M (.invokevirtual 51 :: c) L (.ref 34 :: [s0]) (HH mi ml) = ev E M c L (.int (if lotB mi ml m = true then 1 else 0) :: [s0]) (HH (lot mi ml m) ml) := e_inv (as := [.ref 34]) (S := [s0]) rfl rfl (Nat.le_of_ble_eq_true rfl) (rfl) (ct_Circuit_leaveOutTaking hm hm5)
theorem cc_Circuit_leaveOutTaking_2 {M : Nat} {c : List Instr} {L : List Value} {s0 s1 : Value} {m : Nat} (hm : mi 34 5 = nI m) (hm5 : m ≤ 5) : ev E M (.invokevirtual 51 :: c) L (.ref 34 :: [s0, s1]) (HH mi ml) = ev E M c L (.int (if lotB mi ml m = true then 1 else 0) :: [s0, s1]) (HH (lot mi ml m) ml) := e_inv (as := [.ref 34]) (S := [s0, s1]) rfl rfl (Nat.le_of_ble_eq_true rfl) (rfl) (ct_Circuit_leaveOutTaking hm hm5)
theorem cc_Circuit_leaveOutTaking_3 {M : Nat} {c : List Instr} {L : List Value} {s0 s1 s2 : Value} {m : Nat} (hm : mi 34 5 = nI m) (hm5 : m ≤ 5) : ev E M (.invokevirtual 51 :: c) L (.ref 34 :: [s0, s1, s2]) (HH mi ml) = ev E M c L (.int (if lotB mi ml m = true then 1 else 0) :: [s0, s1, s2]) (HH (lot mi ml m) ml) := e_inv (as := [.ref 34]) (S := [s0, s1, s2]) rfl rfl (Nat.le_of_ble_eq_true rfl) (rfl) (ct_Circuit_leaveOutTaking hm hm5)
end Cl5
