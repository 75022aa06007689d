/-! THE DAY WITHOUT CELLS: LOWEST; the class's findLowest -/
abbrev dLw : Type := Option (Rat × Nat × Nat)
def d_lowT (c : qC) (le : qL) (t : Nat) (o : dLw) : Nat → dLw
  | 0 => o
  | i + 1 => if q_th le i = true then (match d_lowT c le t o i with
    | none => some (q_vn c le i, t, i)
    | some b => if q_vn c le i < b.1 then some (q_vn c le i, t, i) else some b) else d_lowT c le t o i
def d_low (c : qC) (l : Nat → qL) (nt : Nat) : Nat → dLw
  | 0 => none
  | t + 1 => d_lowT c (q_end c (l t)) t (d_low c l nt t) nt
/-- what two cells and a share hold of LOWEST -/
def d_in (o : dLw) (u d : Int64) (a b : Int32) : Prop := ∀ v t n, o = some (v, t, n) → fr2 u d v 1000000000000 ∧ a = nI t ∧ b = nI n
def d_is (o : dLw) : Bool := o.isSome
theorem d_lowT_none {c : qC} {le : qL} {t : Nat} {o : dLw} : ∀ {i : Nat}, (∀ k, k < i → q_th le k = false) → d_lowT c le t o i = o := by
  intro i
  induction i with
  | zero => intro _; rfl
  | succ i ih => intro h; rw [d_lowT, if_neg (by simp [h i (by omega)])]; exact ih (fun k hk => h k (by omega))
theorem d_lowT_le {c : qC} {le : qL} {t : Nat} {o : dLw} {b : Rat × Nat × Nat} (h : o = some b) : ∀ i, ∃ e, d_lowT c le t o i = some e ∧ e.1 ≤ b.1 := by
  intro i
  induction i with
  | zero => exact ⟨b, h, Rat.le_refl⟩
  | succ i ih =>
    obtain ⟨e, e1, e2⟩ := ih
    rw [d_lowT, e1]
    split
    · dsimp only
      split
      · rename_i z; exact ⟨_, rfl, by dsimp only; grind⟩
      · exact ⟨e, rfl, e2⟩
    · exact ⟨e, rfl, e2⟩
theorem d_low_le {c : qC} {l : Nat → qL} {nt t : Nat} {b : Rat × Nat × Nat} (h : d_low c l nt t = some b) : ∀ k, ∃ e, d_low c l nt (t + k) = some e ∧ e.1 ≤ b.1 := by
  intro k
  induction k with
  | zero => exact ⟨b, h, Rat.le_refl⟩
  | succ k ih =>
    obtain ⟨e, e1, e2⟩ := ih
    obtain ⟨f, f1, f2⟩ := d_lowT_le (c := c) (le := q_end c (l (t + k))) (t := t + k) e1 nt
    exact ⟨f, f1, by grind⟩
theorem d_lowT_some {c : qC} {le : qL} {t : Nat} {o : dLw} {i : Nat} (h : ∃ k, k < i ∧ q_th le k = true) : (d_lowT c le t o i).isSome = true := by
  obtain ⟨k, hk, ht⟩ := h
  have h0 : ∃ e, d_lowT c le t o (k + 1) = some e := by
    rw [d_lowT, if_pos ht]
    split
    · exact ⟨_, rfl⟩
    · split
      · exact ⟨_, rfl⟩
      · exact ⟨_, rfl⟩
  have : ∀ d, ∃ e, d_lowT c le t o (k + 1 + d) = some e := by
    intro d
    induction d with
    | zero => exact h0
    | succ d ih =>
      obtain ⟨e, e1⟩ := ih
      rw [show k + 1 + (d + 1) = k + 1 + d + 1 by omega, d_lowT, e1]
      split
      · dsimp only
        split
        · exact ⟨_, rfl⟩
        · exact ⟨_, rfl⟩
      · exact ⟨_, rfl⟩
  obtain ⟨e, e1⟩ := this (i - (k + 1))
  rw [show k + 1 + (i - (k + 1)) = i by omega] at e1
  rw [e1]; rfl
theorem cE_of {p q : Nat → Nat → Int32} {r s : Nat → Nat → Int64} {c : qC} {l : qL} (h : cE q s c l) (he : ∀ a b, a = 2 ∨ a = 34 ∨ a = 35 ∨ a = 36 ∨ a = 37 ∨ a = 40 ∨ a = 41 ∨ a = 42 → p a b = q a b) (hr : ∀ a b, a = 38 ∨ a = 39 → r a b = s a b) : cE p r c l := by
  obtain ⟨h1, h2, h3, h4⟩ := h
  refine ⟨cS_of h1 (fun a b z => he a b (by omega)), cR_of h2 (fun b => he 2 b (by omega)), cL_of h3 (fun a b z => he a b (by omega)), fun j hj => ?_⟩
  rw [hr 38 j (by simp), hr 39 j (by simp)]
  have : cF p j = cF q j := by unfold cF; rw [he 37 j (by omega)]
  rw [this]
  exact h4 j hj
theorem shr_up {r : Nat → Nat → Int64} {k : Nat} {u d : Int64} : am_up (am_up r k 0 u) k 1 d = shr r k u d := rfl
theorem bI {b : Bool} : (if b = true then (1 : Int32) else 0) = 0 ↔ b = false := by cases b <;> simp
section Lw
variable {E : aE} {q : Nat → Nat → Int32} {ml : Nat → Nat → Int64} {c : qC} {le : qL} {nt t : Nat}
/-- volts at a train, read by the class -/
theorem y_volt {p : Nat → Nat → Int32} {r : Nat → Nat → Int64} (hE : cE p r c le) {i : Nat} (hi : i < 5) (ht : q_th le i = true) : fr2 (Int64.ofInt (vUp p (q_m c) (p 41 i))) (Int64.ofInt (vDn p (q_m c) (p 41 i))) (q_vn c le i) 1000000000000 ∧ bd (p 41 i) := by
  obtain ⟨h1, h2, h3, h4⟩ := hE
  obtain ⟨y1, y2⟩ := (h3 i hi).2.1 ht
  have := c_volt2 h1 h2 h3 (fun j hj => (h4 j hj).1) y1
  refine ⟨?_, y1⟩
  unfold q_vn
  rw [← y2]
  exact this
theorem y_sink {o : dLw} (hE : cE q ml c le) (hnt : q 1 5 = nI nt) (hnt5 : nt ≤ 5) (ho : d_in o (ml 27 0) (ml 27 1) (q 26 2) (q 26 3)) : ∃ p r, ev E 70 (am_B 70 0) [.ref 26, .int (nI t), .int (if o.isSome = true then 1 else 0), am_dm, am_dm] [] (HH q ml) = some (none, HH p r) ∧ d_in (d_lowT c le t o nt) (r 27 0) (r 27 1) (p 26 2) (p 26 3) ∧ (∀ a b, ¬ (a = 26 ∧ (b = 2 ∨ b = 3)) → p a b = q a b) ∧ ∀ a b, ¬ a = 27 → ¬ a = 31 → r a b = ml a b := by
  simp only [b_70_e, b_70_69, b_70_103, b_70_109, e_iload_2, e_istore_3, e_kpi, e_kpr, e_kpl, e_kpd, k_0, e_istore_4, e_jsr, e_iload_4, e_aloadr_0, g_73_26, g_133_1, e_icmp_ge, g_64_26, g_6_34, il_37, il_40, e_if_eq, g_7_34, il_2, il_5, il_33, il_35, il_36, il_41, il_42, il_tp, il_ta, il_sc, il_po, ik_2_0, ik_2_1, ik_2_2, ik_2_3, ik_2_4, g_74_26, cc_Circuit_voltsAt_0, cc_Circuit_voltsAt_1, cc_Circuit_voltsAt_2, cc_Circuit_voltsAt_3, Option.toList_some, Option.toList_none, List.cons_append, List.nil_append, e_iload_3, g_65_26, cc_Share_isBelow_0, cc_Share_isBelow_1, cc_Share_isBelow_2, cc_Share_isBelow_3, lay_27, lay_28, lay_30, lay_31, lay_32, lay_43, lay_44, lay_46, lay_49, lay_60, g_256_27, g_256_28, g_256_30, g_256_31, g_256_32, g_256_43, g_256_44, g_256_46, g_256_49, g_256_60, gS_0, g_257_27, g_257_28, g_257_30, g_257_31, g_257_32, g_257_43, g_257_44, g_257_46, g_257_49, g_257_60, gS_1, cc_Share_become_0, cc_Share_become_1, cc_Share_become_2, cc_Share_become_3, e_iload_1, p_66_26, p_67_26, k_1, e_iinc_4, e_goto, e_ret, eq_self]
  obtain ⟨s', hl, hJ⟩ := loop_inv (fun i (s : (Nat → Nat → Int32) × (Nat → Nat → Int64) × Int32) => ev E 70 (am_B 70 (Int.toNat 5)) [.ref 26, .int (nI t), .int (if o.isSome = true then 1 else 0), .int s.2.2, .int (nI i)] [] (HH s.1 s.2.1)) (fun i s => s.2.2 = (if (d_lowT c le t o i).isSome = true then 1 else 0) ∧ d_in (d_lowT c le t o i) (s.2.1 27 0) (s.2.1 27 1) (s.1 26 2) (s.1 26 3) ∧ (∀ a b, ¬ (a = 26 ∧ (b = 2 ∨ b = 3)) → s.1 a b = q a b) ∧ ∀ a b, ¬ a = 27 → ¬ a = 31 → s.2.1 a b = ml a b) nt (fun i s hi hj => by
    obtain ⟨p, r, f⟩ := s
    obtain ⟨j1, j2, j3, j4⟩ := hj
    dsimp only at j1 j2 j3 j4 ⊢
    have hi5 : i < 5 := by omega
    have hEp : cE p r c le := cE_of hE (fun a b z => j3 a b (by omega)) (fun a b z => j4 a b (by omega) (by omega))
    obtain ⟨k1, k2, k3, k4⟩ := id hEp
    have hB := c_CB k1 k2 k3
    have e5 : p 1 5 = nI nt := by rw [j3 1 5 (by simp)]; exact hnt
    have eth : cTh p i = q_th le i := (k3 i hi5).1
    rw [d_lowT]
    cases ht : q_th le i with
    | false =>
      have h40 : p 40 i = 0 := by rw [ht] at eth; unfold cTh at eth; simpa using eth
      refine ⟨(p, r, f), hd b_70_5 ?_, j1, j2, j3, j4⟩
      simp only [b_70_e, b_70_69, b_70_103, b_70_109, e_iload_2, e_istore_3, e_kpi, e_kpr, e_kpl, e_kpd, k_0, e_istore_4, e_jsr, e_iload_4, e_aloadr_0, g_73_26, g_133_1, e_icmp_ge, g_64_26, g_6_34, il_37, il_40, e_if_eq, g_7_34, il_2, il_5, il_33, il_35, il_36, il_41, il_42, il_tp, il_ta, il_sc, il_po, ik_2_0, ik_2_1, ik_2_2, ik_2_3, ik_2_4, g_74_26, cc_Circuit_voltsAt_0, cc_Circuit_voltsAt_1, cc_Circuit_voltsAt_2, cc_Circuit_voltsAt_3, Option.toList_some, Option.toList_none, List.cons_append, List.nil_append, e_iload_3, g_65_26, cc_Share_isBelow_0, cc_Share_isBelow_1, cc_Share_isBelow_2, cc_Share_isBelow_3, lay_27, lay_28, lay_30, lay_31, lay_32, lay_43, lay_44, lay_46, lay_49, lay_60, g_256_27, g_256_28, g_256_30, g_256_31, g_256_32, g_256_43, g_256_44, g_256_46, g_256_49, g_256_60, gS_0, g_257_27, g_257_28, g_257_30, g_257_31, g_257_32, g_257_43, g_257_44, g_257_46, g_257_49, g_257_60, gS_1, cc_Share_become_0, cc_Share_become_1, cc_Share_become_2, cc_Share_become_3, e_iload_1, p_66_26, p_67_26, k_1, e_iinc_4, e_goto, e_ret, eq_self, e5, lec (show nt < 1000 by omega) hi, hi5, h40, not_true_eq_false, not_false_eq_true, if_true, if_false, true_or, or_true, false_or, or_false, true_and, and_true, false_and, and_false, and_self, or_self, reduceIte, Bool.false_eq_true, i10, i01, e_inc1]
    | true =>
      have h40 : ¬ p 40 i = 0 := by rw [ht] at eth; unfold cTh at eth; simpa using eth
      obtain ⟨v1, v2⟩ := y_volt hEp hi5 ht
      cases ho2 : d_lowT c le t o i with
      | none =>
        rw [ho2] at j1
        refine ⟨(am_up (am_up p 26 2 (nI t)) 26 3 (nI i), shr (shr r 31 (Int64.ofInt (vUp p (q_m c) (p 41 i))) (Int64.ofInt (vDn p (q_m c) (p 41 i)))) 27 (Int64.ofInt (vUp p (q_m c) (p 41 i))) (Int64.ofInt (vDn p (q_m c) (p 41 i))), 1), hd b_70_5 ?_, rfl, ?_, ?_, ?_⟩
        · rw [j1]
          simp only [b_70_e, b_70_69, b_70_103, b_70_109, e_iload_2, e_istore_3, e_kpi, e_kpr, e_kpl, e_kpd, k_0, e_istore_4, e_jsr, e_iload_4, e_aloadr_0, g_73_26, g_133_1, e_icmp_ge, g_64_26, g_6_34, il_37, il_40, e_if_eq, g_7_34, il_2, il_5, il_33, il_35, il_36, il_41, il_42, il_tp, il_ta, il_sc, il_po, ik_2_0, ik_2_1, ik_2_2, ik_2_3, ik_2_4, g_74_26, cc_Circuit_voltsAt_0, cc_Circuit_voltsAt_1, cc_Circuit_voltsAt_2, cc_Circuit_voltsAt_3, Option.toList_some, Option.toList_none, List.cons_append, List.nil_append, e_iload_3, g_65_26, cc_Share_isBelow_0, cc_Share_isBelow_1, cc_Share_isBelow_2, cc_Share_isBelow_3, lay_27, lay_28, lay_30, lay_31, lay_32, lay_43, lay_44, lay_46, lay_49, lay_60, g_256_27, g_256_28, g_256_30, g_256_31, g_256_32, g_256_43, g_256_44, g_256_46, g_256_49, g_256_60, gS_0, g_257_27, g_257_28, g_257_30, g_257_31, g_257_32, g_257_43, g_257_44, g_257_46, g_257_49, g_257_60, gS_1, cc_Share_become_0, cc_Share_become_1, cc_Share_become_2, cc_Share_become_3, e_iload_1, p_66_26, p_67_26, k_1, e_iinc_4, e_goto, e_ret, eq_self, e5, lec (show nt < 1000 by omega) hi, hi5, h40, cc_Circuit_voltsAt_0 lay_31 hB.1 hB.2.1 v2 hB.2.2.1 hB.2.2.2.2.1, shr_up, shr_0, shr_1, Option.isSome, cc_Share_become_0 lay_27, gS_0 lay_31, gS_1 lay_31, not_true_eq_false, not_false_eq_true, if_true, if_false, true_or, or_true, false_or, or_false, true_and, and_true, false_and, and_false, and_self, or_self, reduceIte, Bool.false_eq_true, i10, i01, e_inc1]
        · intro v t' n' h
          cases h
          dsimp only
          rw [shr_0, shr_1, am_up_self, am_upa, if_neg (by omega), am_up_self]
          exact ⟨v1, rfl, rfl⟩
        · intro a b h
          dsimp only
          rw [am_upa, if_neg (fun z => h ⟨z.1, Or.inr z.2⟩), am_upa, if_neg (fun z => h ⟨z.1, Or.inl z.2⟩)]
          exact j3 a b h
        · intro a b h1 h2
          dsimp only
          rw [shr_ne h1, shr_ne h2]
          exact j4 a b h1 h2
      | some b =>
        obtain ⟨bv, bt', bn⟩ := b
        rw [ho2] at j1
        obtain ⟨w1, w2, w3⟩ := j2 bv bt' bn ho2
        have hcmp := fr2_lt v1 w1 (Nat.le_refl _)
        by_cases h1 : q_vn c le i < bv
        · refine ⟨(am_up (am_up p 26 2 (nI t)) 26 3 (nI i), shr (shr r 31 (Int64.ofInt (vUp p (q_m c) (p 41 i))) (Int64.ofInt (vDn p (q_m c) (p 41 i)))) 27 (Int64.ofInt (vUp p (q_m c) (p 41 i))) (Int64.ofInt (vDn p (q_m c) (p 41 i))), 1), hd b_70_5 ?_, ?_, ?_, ?_, ?_⟩
          · rw [j1]
            simp only [b_70_e, b_70_69, b_70_103, b_70_109, e_iload_2, e_istore_3, e_kpi, e_kpr, e_kpl, e_kpd, k_0, e_istore_4, e_jsr, e_iload_4, e_aloadr_0, g_73_26, g_133_1, e_icmp_ge, g_64_26, g_6_34, il_37, il_40, e_if_eq, g_7_34, il_2, il_5, il_33, il_35, il_36, il_41, il_42, il_tp, il_ta, il_sc, il_po, ik_2_0, ik_2_1, ik_2_2, ik_2_3, ik_2_4, g_74_26, cc_Circuit_voltsAt_0, cc_Circuit_voltsAt_1, cc_Circuit_voltsAt_2, cc_Circuit_voltsAt_3, Option.toList_some, Option.toList_none, List.cons_append, List.nil_append, e_iload_3, g_65_26, cc_Share_isBelow_0, cc_Share_isBelow_1, cc_Share_isBelow_2, cc_Share_isBelow_3, lay_27, lay_28, lay_30, lay_31, lay_32, lay_43, lay_44, lay_46, lay_49, lay_60, g_256_27, g_256_28, g_256_30, g_256_31, g_256_32, g_256_43, g_256_44, g_256_46, g_256_49, g_256_60, gS_0, g_257_27, g_257_28, g_257_30, g_257_31, g_257_32, g_257_43, g_257_44, g_257_46, g_257_49, g_257_60, gS_1, cc_Share_become_0, cc_Share_become_1, cc_Share_become_2, cc_Share_become_3, e_iload_1, p_66_26, p_67_26, k_1, e_iinc_4, e_goto, e_ret, eq_self, e5, lec (show nt < 1000 by omega) hi, hi5, h40, cc_Circuit_voltsAt_0 lay_31 hB.1 hB.2.1 v2 hB.2.2.1 hB.2.2.2.2.1, shr_up, shr_0, shr_1, shr_ne (show ¬ 27 = 31 by decide), Option.isSome, cc_Share_isBelow_0 lay_31 lay_27, hcmp, h1, cc_Share_become_0 lay_27, gS_0 lay_31, gS_1 lay_31, not_true_eq_false, not_false_eq_true, if_true, if_false, true_or, or_true, false_or, or_false, true_and, and_true, false_and, and_false, and_self, or_self, reduceIte, Bool.false_eq_true, i10, i01, e_inc1]
          · dsimp only; rw [if_pos rfl, if_pos h1]; rfl
          · intro v t' n' h
            dsimp only at h
            rw [if_pos rfl, if_pos h1] at h
            cases h
            dsimp only
            rw [shr_0, shr_1, am_up_self, am_upa, if_neg (by omega), am_up_self]
            exact ⟨v1, rfl, rfl⟩
          · intro a b h
            dsimp only
            rw [am_upa, if_neg (fun z => h ⟨z.1, Or.inr z.2⟩), am_upa, if_neg (fun z => h ⟨z.1, Or.inl z.2⟩)]
            exact j3 a b h
          · intro a b h1 h2
            dsimp only
            rw [shr_ne h1, shr_ne h2]
            exact j4 a b h1 h2
        · refine ⟨(p, shr r 31 (Int64.ofInt (vUp p (q_m c) (p 41 i))) (Int64.ofInt (vDn p (q_m c) (p 41 i))), 1), hd b_70_5 ?_, ?_, ?_, j3, ?_⟩
          · rw [j1]
            simp only [b_70_e, b_70_69, b_70_103, b_70_109, e_iload_2, e_istore_3, e_kpi, e_kpr, e_kpl, e_kpd, k_0, e_istore_4, e_jsr, e_iload_4, e_aloadr_0, g_73_26, g_133_1, e_icmp_ge, g_64_26, g_6_34, il_37, il_40, e_if_eq, g_7_34, il_2, il_5, il_33, il_35, il_36, il_41, il_42, il_tp, il_ta, il_sc, il_po, ik_2_0, ik_2_1, ik_2_2, ik_2_3, ik_2_4, g_74_26, cc_Circuit_voltsAt_0, cc_Circuit_voltsAt_1, cc_Circuit_voltsAt_2, cc_Circuit_voltsAt_3, Option.toList_some, Option.toList_none, List.cons_append, List.nil_append, e_iload_3, g_65_26, cc_Share_isBelow_0, cc_Share_isBelow_1, cc_Share_isBelow_2, cc_Share_isBelow_3, lay_27, lay_28, lay_30, lay_31, lay_32, lay_43, lay_44, lay_46, lay_49, lay_60, g_256_27, g_256_28, g_256_30, g_256_31, g_256_32, g_256_43, g_256_44, g_256_46, g_256_49, g_256_60, gS_0, g_257_27, g_257_28, g_257_30, g_257_31, g_257_32, g_257_43, g_257_44, g_257_46, g_257_49, g_257_60, gS_1, cc_Share_become_0, cc_Share_become_1, cc_Share_become_2, cc_Share_become_3, e_iload_1, p_66_26, p_67_26, k_1, e_iinc_4, e_goto, e_ret, eq_self, e5, lec (show nt < 1000 by omega) hi, hi5, h40, cc_Circuit_voltsAt_0 lay_31 hB.1 hB.2.1 v2 hB.2.2.1 hB.2.2.2.2.1, shr_up, shr_0, shr_1, shr_ne (show ¬ 27 = 31 by decide), Option.isSome, cc_Share_isBelow_0 lay_31 lay_27, hcmp, h1, not_true_eq_false, not_false_eq_true, if_true, if_false, true_or, or_true, false_or, or_false, true_and, and_true, false_and, and_false, and_self, or_self, reduceIte, Bool.false_eq_true, i10, i01, e_inc1]
          · dsimp only; rw [if_pos rfl, if_neg h1]; rfl
          · intro v t' n' h
            dsimp only at h
            rw [if_pos rfl, if_neg h1] at h
            cases h
            dsimp only
            rw [shr_ne (by decide), shr_ne (by decide)]
            exact ⟨w1, w2, w3⟩
          · intro a b h1 h2
            dsimp only
            rw [shr_ne h2]
            exact j4 a b h1 h2) (q, ml, if o.isSome = true then 1 else 0) ⟨rfl, ho, fun _ _ _ => rfl, fun _ _ _ _ => rfl⟩
  obtain ⟨p, r, f⟩ := s'
  obtain ⟨j1, j2, j3, j4⟩ := hJ
  dsimp only at hl j1 j2 j3 j4
  have e5 : p 1 5 = nI nt := by rw [j3 1 5 (by simp)]; exact hnt
  refine ⟨p, r, Eq.trans (show _ = _ from hl) (hd b_70_5 ?_), j2, j3, j4⟩
  simp only [b_70_e, b_70_69, b_70_103, b_70_109, e_iload_2, e_istore_3, e_kpi, e_kpr, e_kpl, e_kpd, k_0, e_istore_4, e_jsr, e_iload_4, e_aloadr_0, g_73_26, g_133_1, e_icmp_ge, g_64_26, g_6_34, il_37, il_40, e_if_eq, g_7_34, il_2, il_5, il_33, il_35, il_36, il_41, il_42, il_tp, il_ta, il_sc, il_po, ik_2_0, ik_2_1, ik_2_2, ik_2_3, ik_2_4, g_74_26, cc_Circuit_voltsAt_0, cc_Circuit_voltsAt_1, cc_Circuit_voltsAt_2, cc_Circuit_voltsAt_3, Option.toList_some, Option.toList_none, List.cons_append, List.nil_append, e_iload_3, g_65_26, cc_Share_isBelow_0, cc_Share_isBelow_1, cc_Share_isBelow_2, cc_Share_isBelow_3, lay_27, lay_28, lay_30, lay_31, lay_32, lay_43, lay_44, lay_46, lay_49, lay_60, g_256_27, g_256_28, g_256_30, g_256_31, g_256_32, g_256_43, g_256_44, g_256_46, g_256_49, g_256_60, gS_0, g_257_27, g_257_28, g_257_30, g_257_31, g_257_32, g_257_43, g_257_44, g_257_46, g_257_49, g_257_60, gS_1, cc_Share_become_0, cc_Share_become_1, cc_Share_become_2, cc_Share_become_3, e_iload_1, p_66_26, p_67_26, k_1, e_iinc_4, e_goto, e_ret, eq_self, e5, lecc, not_true_eq_false, not_false_eq_true, if_true, if_false, true_or, or_true, false_or, or_false, true_and, and_true, false_and, and_false, and_self, or_self, reduceIte, Bool.false_eq_true, i10, i01]
end Lw
