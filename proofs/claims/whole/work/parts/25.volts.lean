/-! VOLTS -/
theorem leN {a b : Nat} (ha : a < 5) (hb : b < 5) : (nI a ≤ nI b) = (a ≤ b) := propext (nI_leI (by omega) (by omega))
theorem ltN {a b : Nat} (ha : a < 5) (hb : b < 5) : (nI a < nI b) = (a < b) := propext (nI_ltI (by omega) (by omega))
theorem eqN {a b : Nat} (ha : a < 5) (hb : b < 5) : (nI a = nI b) = (a = b) := propext (nI_eq (by omega) (by omega))
theorem le_m1 {p : Nat} (h : p < 5) : ((-1 : Int32) < nI p) = True := eq_true (by
  rw [Int32.lt_iff_toInt_lt, nI_toInt (by omega)]
  have : (-1 : Int32).toInt = -1 := rfl
  omega)
theorem nlt_m1 {p : Nat} (h : p < 5) : (nI p < (-1 : Int32)) = False := eq_false (by
  rw [Int32.lt_iff_toInt_lt, nI_toInt (by omega)]
  have : (-1 : Int32).toInt = -1 := rfl
  omega)
theorem le_pm1 {p : Nat} (h : p < 5) : (nI p ≤ (-1 : Int32)) = False := eq_false (by
  rw [Int32.le_iff_toInt_le, nI_toInt (by omega)]
  have : (-1 : Int32).toInt = -1 := rfl
  omega)
theorem le_m1p {p : Nat} (h : p < 5) : ((-1 : Int32) ≤ nI p) = True := eq_true (by
  rw [Int32.le_iff_toInt_le, nI_toInt (by omega)]
  have : (-1 : Int32).toInt = -1 := rfl
  omega)
theorem eq_pm1 {p : Nat} (h : p < 5) : (nI p = (-1 : Int32)) = False := eq_false (fun q => by
  have := congrArg Int32.toInt q
  rw [nI_toInt (by omega)] at this
  have h1 : (-1 : Int32).toInt = -1 := rfl
  omega)
theorem eq_m1p {p : Nat} (h : p < 5) : ((-1 : Int32) = nI p) = False := eq_false (fun q => by
  have := congrArg Int32.toInt q
  rw [nI_toInt (by omega)] at this
  have h1 : (-1 : Int32).toInt = -1 := rfl
  omega)
def bfV (mi : Nat → Nat → Int32) (x : Int32) : Nat → Option Nat
  | 0 => none
  | i + 1 => if cF mi i = true ∧ mi 36 i ≤ x then some i else bfV mi x i
def afV (mi : Nat → Nat → Int32) (x : Int32) : Nat → Option Nat
  | 0 => none
  | i + 1 => if cF mi i = true ∧ x ≤ mi 36 i ∧ afV mi x i = none then some i else afV mi x i
theorem bfV_some {mi : Nat → Nat → Int32} {x : Int32} : ∀ {i p : Nat}, bfV mi x i = some p → p < i ∧ cF mi p = true ∧ mi 36 p ≤ x ∧ ∀ j, p < j → j < i → ¬ (cF mi j = true ∧ mi 36 j ≤ x) := by
  intro i
  induction i with
  | zero => intro p h; cases h
  | succ i ih =>
    intro p h
    rw [bfV] at h
    by_cases hc : cF mi i = true ∧ mi 36 i ≤ x
    · rw [if_pos hc] at h
      cases h
      exact ⟨by omega, hc.1, hc.2, fun j h1 h2 => by omega⟩
    · rw [if_neg hc] at h
      obtain ⟨h1, h2, h3, h4⟩ := ih h
      refine ⟨by omega, h2, h3, fun j g1 g2 => ?_⟩
      by_cases hj : j = i
      · subst hj; exact hc
      · exact h4 j g1 (by omega)
theorem bfV_none {mi : Nat → Nat → Int32} {x : Int32} : ∀ {i : Nat}, bfV mi x i = none → ∀ j, j < i → ¬ (cF mi j = true ∧ mi 36 j ≤ x) := by
  intro i
  induction i with
  | zero => intro h j hj; omega
  | succ i ih =>
    intro h j hj
    rw [bfV] at h
    by_cases hc : cF mi i = true ∧ mi 36 i ≤ x
    · rw [if_pos hc] at h; cases h
    · rw [if_neg hc] at h
      by_cases hji : j = i
      · subst hji; exact hc
      · exact ih h j (by omega)
theorem afV_some {mi : Nat → Nat → Int32} {x : Int32} : ∀ {i p : Nat}, afV mi x i = some p → p < i ∧ cF mi p = true ∧ x ≤ mi 36 p ∧ ∀ j, j < p → ¬ (cF mi j = true ∧ x ≤ mi 36 j) := by
  intro i
  induction i with
  | zero => intro p h; cases h
  | succ i ih =>
    intro p h
    rw [afV] at h
    by_cases hc : cF mi i = true ∧ x ≤ mi 36 i ∧ afV mi x i = none
    · rw [if_pos hc] at h
      cases h
      refine ⟨by omega, hc.1, hc.2.1, ?_⟩
      have hn := hc.2.2
      clear ih hc
      intro j hj
      induction i with
      | zero => omega
      | succ i ih2 =>
        rw [afV] at hn
        by_cases hc2 : cF mi i = true ∧ x ≤ mi 36 i ∧ afV mi x i = none
        · rw [if_pos hc2] at hn; cases hn
        · rw [if_neg hc2] at hn
          by_cases hji : j = i
          · subst hji; exact fun q => hc2 ⟨q.1, q.2, hn⟩
          · exact ih2 hn (by omega)
    · rw [if_neg hc] at h
      obtain ⟨h1, h2, h3, h4⟩ := ih h
      exact ⟨by omega, h2, h3, h4⟩
theorem afV_none {mi : Nat → Nat → Int32} {x : Int32} : ∀ {i : Nat}, afV mi x i = none → ∀ j, j < i → ¬ (cF mi j = true ∧ x ≤ mi 36 j) := by
  intro i
  induction i with
  | zero => intro h j hj; omega
  | succ i ih =>
    intro h j hj
    rw [afV] at h
    by_cases hc : cF mi i = true ∧ x ≤ mi 36 i ∧ afV mi x i = none
    · rw [if_pos hc] at h; cases h
    · rw [if_neg hc] at h
      by_cases hji : j = i
      · subst hji; exact fun q => hc ⟨q.1, q.2, h⟩
      · exact ih h j (by omega)
def gapV (mi : Nat → Nat → Int32) (bf af : Option Nat) : Int := match bf, af with
  | some p, some q => if p < q then cP mi q - cP mi p else 1
  | _, _ => 1
def losB (mi : Nat → Nat → Int32) (a x : Int) : Int := sumI (fun n => tmY (cTh mi n) (cY mi n) (cA mi n) a x) 5
def losV (mi : Nat → Nat → Int32) (x : Int) (bf af : Option Nat) : Int := match bf, af with
  | some p, some q => if p < q then sumI (fun n => tmB (cTh mi n) (cY mi n) (cA mi n) (cP mi p) (cP mi q) x) 5 else if p = q then 0 else losB mi (cP mi p) x
  | some p, none => losB mi (cP mi p) x
  | none, some q => losB mi (cP mi q) x
  | none, none => 0
def vUp (mi : Nat → Nat → Int32) (m : Nat) (x : Int32) : Int := 1000 * (mi 2 2).toInt * gapV mi (bfV mi x m) (afV mi x m) - (mi 2 1).toInt * losV mi x.toInt (bfV mi x m) (afV mi x m)
def vDn (mi : Nat → Nat → Int32) (m : Nat) (x : Int32) : Int := 1000 * gapV mi (bfV mi x m) (afV mi x m)
theorem Int64.ofInt_sub' (a b : Int) : Int64.ofInt (a - b) = Int64.ofInt a - Int64.ofInt b := by rw [Int64.ofInt_sub]
section Cl8
variable {E : aE} {mi : Nat → Nat → Int32} {ml : Nat → Nat → Int64}
theorem ct_Circuit_voltsAt {m k : Nat} {x : Int32} (hk : am_LAY[k]? = some (.inl 4)) (hm : mi 34 5 = nI m) (hm5 : m ≤ 5) (hx : bd x) (hp : ∀ n, n < m → bd (mi 36 n)) (hy : ∀ n, n < 5 → cTh mi n = true → bd (mi 41 n)) : ev E 55 (am_B 55 0) [.ref 34, .int x, .ref k, am_dm, am_dm, am_dm, am_dm, am_dm, am_dm] [] (HH mi ml) = some (none, HH mi (am_up (am_up ml k 0 (Int64.ofInt (vUp mi m x))) k 1 (Int64.ofInt (vDn mi m x)))) := by
  simp only [b_55_e, b_55_41, b_55_71, b_55_77, b_55_133, b_55_157, k_m1, e_istore_3, e_kpi, e_kpr, e_kpl, e_kpd, e_istore_4, k_0, e_istore_5, e_jsr, e_iload_5, e_aloadr_0, g_5_34, e_icmp_ge, g_2_34, il_37, il_40, e_if_eq, g_1_34, il_2, il_5, il_33, il_35, il_36, il_41, il_42, il_tp, il_ta, il_sc, il_po, ik_2_0, ik_2_1, ik_2_2, ik_2_3, ik_2_4, e_iload_1, e_icmp_gt, e_icmp_lt, e_iload_4, e_if_ge, e_iinc_5, e_goto, kl_1, e_lstore_5, kl_0, e_lstore_7, e_iload_3, e_if_lt, e_icmp_le, e_isub, e_i2l, cc_Circuit_lostBetween_0, cc_Circuit_lostBetween_1, cc_Circuit_lostBetween_2, cc_Circuit_lostBetween_3, Option.toList_some, Option.toList_none, List.cons_append, List.nil_append, e_icmp_eq, e_fadd_0, e_fadd_1, e_fadd_2, e_fadd_3, e_fadd_4, cc_Circuit_lostBeyond_0, cc_Circuit_lostBeyond_1, cc_Circuit_lostBeyond_2, cc_Circuit_lostBeyond_3, e_aloadr_2, kl_1000, g_9_34, k_2, e_lmul, e_lload_5, k_1, e_lload_7, e_lsub, cc_Share_become_0, cc_Share_become_1, cc_Share_become_2, cc_Share_become_3, lay_27, lay_28, lay_30, lay_31, lay_32, lay_43, lay_44, lay_46, lay_49, lay_60, e_ret, eq_self]
  have hl := loop_up (fun i => ev E 55 (am_B 55 (Int.toNat 8)) [.ref 34, .int x, .ref k, .int (oI (bfV mi x i)), .int (oI (afV mi x i)), .int (nI i), am_dm, am_dm, am_dm] [] (HH mi ml)) 0 m (fun i _ hi => by
    refine hd b_55_8 ?_
    have hi5 : i < 5 := by omega
    rw [bfV, afV]
    by_cases h1 : mi 37 i = 0
    · have hc : cF mi i = false := by simp [cF, h1]
      simp only [b_55_e, b_55_41, b_55_71, b_55_77, b_55_133, b_55_157, k_m1, e_istore_3, e_kpi, e_kpr, e_kpl, e_kpd, e_istore_4, k_0, e_istore_5, e_jsr, e_iload_5, e_aloadr_0, g_5_34, e_icmp_ge, g_2_34, il_37, il_40, e_if_eq, g_1_34, il_2, il_5, il_33, il_35, il_36, il_41, il_42, il_tp, il_ta, il_sc, il_po, ik_2_0, ik_2_1, ik_2_2, ik_2_3, ik_2_4, e_iload_1, e_icmp_gt, e_icmp_lt, e_iload_4, e_if_ge, e_iinc_5, e_goto, kl_1, e_lstore_5, kl_0, e_lstore_7, e_iload_3, e_if_lt, e_icmp_le, e_isub, e_i2l, cc_Circuit_lostBetween_0, cc_Circuit_lostBetween_1, cc_Circuit_lostBetween_2, cc_Circuit_lostBetween_3, Option.toList_some, Option.toList_none, List.cons_append, List.nil_append, e_icmp_eq, e_fadd_0, e_fadd_1, e_fadd_2, e_fadd_3, e_fadd_4, cc_Circuit_lostBeyond_0, cc_Circuit_lostBeyond_1, cc_Circuit_lostBeyond_2, cc_Circuit_lostBeyond_3, e_aloadr_2, kl_1000, g_9_34, k_2, e_lmul, e_lload_5, k_1, e_lload_7, e_lsub, cc_Share_become_0, cc_Share_become_1, cc_Share_become_2, cc_Share_become_3, lay_27, lay_28, lay_30, lay_31, lay_32, lay_43, lay_44, lay_46, lay_49, lay_60, e_ret, eq_self, hm, lec (show m < 1000 by omega) hi, hi5, h1, hc, not_true_eq_false, not_false_eq_true, if_true, if_false, true_or, or_true, false_or, or_false, true_and, and_true, false_and, and_false, and_self, or_self, reduceIte, Bool.false_eq_true, i10, i01, e_inc1]
    · have hc : cF mi i = true := by simp [cF, h1]
      have hle : ¬ x < mi 36 i ↔ mi 36 i ≤ x := Int32.not_lt
      have hle2 : ¬ mi 36 i < x ↔ x ≤ mi 36 i := Int32.not_lt
      by_cases h2 : x < mi 36 i <;> by_cases h3 : mi 36 i < x
      · exact absurd h3 (Int32.lt_asymm h2)
      · have g2 : ¬ mi 36 i ≤ x := Int32.not_le.mpr h2
        have g3 := hle2.mp h3
        cases hf : afV mi x i with
        | none => simp only [b_55_e, b_55_41, b_55_71, b_55_77, b_55_133, b_55_157, k_m1, e_istore_3, e_kpi, e_kpr, e_kpl, e_kpd, e_istore_4, k_0, e_istore_5, e_jsr, e_iload_5, e_aloadr_0, g_5_34, e_icmp_ge, g_2_34, il_37, il_40, e_if_eq, g_1_34, il_2, il_5, il_33, il_35, il_36, il_41, il_42, il_tp, il_ta, il_sc, il_po, ik_2_0, ik_2_1, ik_2_2, ik_2_3, ik_2_4, e_iload_1, e_icmp_gt, e_icmp_lt, e_iload_4, e_if_ge, e_iinc_5, e_goto, kl_1, e_lstore_5, kl_0, e_lstore_7, e_iload_3, e_if_lt, e_icmp_le, e_isub, e_i2l, cc_Circuit_lostBetween_0, cc_Circuit_lostBetween_1, cc_Circuit_lostBetween_2, cc_Circuit_lostBetween_3, Option.toList_some, Option.toList_none, List.cons_append, List.nil_append, e_icmp_eq, e_fadd_0, e_fadd_1, e_fadd_2, e_fadd_3, e_fadd_4, cc_Circuit_lostBeyond_0, cc_Circuit_lostBeyond_1, cc_Circuit_lostBeyond_2, cc_Circuit_lostBeyond_3, e_aloadr_2, kl_1000, g_9_34, k_2, e_lmul, e_lload_5, k_1, e_lload_7, e_lsub, cc_Share_become_0, cc_Share_become_1, cc_Share_become_2, cc_Share_become_3, lay_27, lay_28, lay_30, lay_31, lay_32, lay_43, lay_44, lay_46, lay_49, lay_60, e_ret, eq_self, hm, lec (show m < 1000 by omega) hi, hi5, h1, hc, h2, h3, g2, g3, not_true_eq_false, not_false_eq_true, if_true, if_false, true_or, or_true, false_or, or_false, true_and, and_true, false_and, and_false, and_self, or_self, reduceIte, Bool.false_eq_true, i10, i01, e_inc1, oI_n, oI_s, ge_n]
        | some f =>
          have hf5 : f < 5 := by have := afV_some hf; omega
          simp only [b_55_e, b_55_41, b_55_71, b_55_77, b_55_133, b_55_157, k_m1, e_istore_3, e_kpi, e_kpr, e_kpl, e_kpd, e_istore_4, k_0, e_istore_5, e_jsr, e_iload_5, e_aloadr_0, g_5_34, e_icmp_ge, g_2_34, il_37, il_40, e_if_eq, g_1_34, il_2, il_5, il_33, il_35, il_36, il_41, il_42, il_tp, il_ta, il_sc, il_po, ik_2_0, ik_2_1, ik_2_2, ik_2_3, ik_2_4, e_iload_1, e_icmp_gt, e_icmp_lt, e_iload_4, e_if_ge, e_iinc_5, e_goto, kl_1, e_lstore_5, kl_0, e_lstore_7, e_iload_3, e_if_lt, e_icmp_le, e_isub, e_i2l, cc_Circuit_lostBetween_0, cc_Circuit_lostBetween_1, cc_Circuit_lostBetween_2, cc_Circuit_lostBetween_3, Option.toList_some, Option.toList_none, List.cons_append, List.nil_append, e_icmp_eq, e_fadd_0, e_fadd_1, e_fadd_2, e_fadd_3, e_fadd_4, cc_Circuit_lostBeyond_0, cc_Circuit_lostBeyond_1, cc_Circuit_lostBeyond_2, cc_Circuit_lostBeyond_3, e_aloadr_2, kl_1000, g_9_34, k_2, e_lmul, e_lload_5, k_1, e_lload_7, e_lsub, cc_Share_become_0, cc_Share_become_1, cc_Share_become_2, cc_Share_become_3, lay_27, lay_28, lay_30, lay_31, lay_32, lay_43, lay_44, lay_46, lay_49, lay_60, e_ret, eq_self, hm, lec (show m < 1000 by omega) hi, hi5, h1, hc, h2, h3, g2, g3, not_true_eq_false, not_false_eq_true, if_true, if_false, true_or, or_true, false_or, or_false, true_and, and_true, false_and, and_false, and_self, or_self, reduceIte, Bool.false_eq_true, i10, i01, e_inc1, oI_n, oI_s, ge_s hf5, reduceCtorEq]
      · have g2 := hle.mp h2
        have g3 : ¬ x ≤ mi 36 i := Int32.not_le.mpr h3
        simp only [b_55_e, b_55_41, b_55_71, b_55_77, b_55_133, b_55_157, k_m1, e_istore_3, e_kpi, e_kpr, e_kpl, e_kpd, e_istore_4, k_0, e_istore_5, e_jsr, e_iload_5, e_aloadr_0, g_5_34, e_icmp_ge, g_2_34, il_37, il_40, e_if_eq, g_1_34, il_2, il_5, il_33, il_35, il_36, il_41, il_42, il_tp, il_ta, il_sc, il_po, ik_2_0, ik_2_1, ik_2_2, ik_2_3, ik_2_4, e_iload_1, e_icmp_gt, e_icmp_lt, e_iload_4, e_if_ge, e_iinc_5, e_goto, kl_1, e_lstore_5, kl_0, e_lstore_7, e_iload_3, e_if_lt, e_icmp_le, e_isub, e_i2l, cc_Circuit_lostBetween_0, cc_Circuit_lostBetween_1, cc_Circuit_lostBetween_2, cc_Circuit_lostBetween_3, Option.toList_some, Option.toList_none, List.cons_append, List.nil_append, e_icmp_eq, e_fadd_0, e_fadd_1, e_fadd_2, e_fadd_3, e_fadd_4, cc_Circuit_lostBeyond_0, cc_Circuit_lostBeyond_1, cc_Circuit_lostBeyond_2, cc_Circuit_lostBeyond_3, e_aloadr_2, kl_1000, g_9_34, k_2, e_lmul, e_lload_5, k_1, e_lload_7, e_lsub, cc_Share_become_0, cc_Share_become_1, cc_Share_become_2, cc_Share_become_3, lay_27, lay_28, lay_30, lay_31, lay_32, lay_43, lay_44, lay_46, lay_49, lay_60, e_ret, eq_self, hm, lec (show m < 1000 by omega) hi, hi5, h1, hc, h2, h3, g2, g3, not_true_eq_false, not_false_eq_true, if_true, if_false, true_or, or_true, false_or, or_false, true_and, and_true, false_and, and_false, and_self, or_self, reduceIte, Bool.false_eq_true, i10, i01, e_inc1, oI_s]
      · have g2 := hle.mp h2
        have g3 := hle2.mp h3
        cases hf : afV mi x i with
        | none => simp only [b_55_e, b_55_41, b_55_71, b_55_77, b_55_133, b_55_157, k_m1, e_istore_3, e_kpi, e_kpr, e_kpl, e_kpd, e_istore_4, k_0, e_istore_5, e_jsr, e_iload_5, e_aloadr_0, g_5_34, e_icmp_ge, g_2_34, il_37, il_40, e_if_eq, g_1_34, il_2, il_5, il_33, il_35, il_36, il_41, il_42, il_tp, il_ta, il_sc, il_po, ik_2_0, ik_2_1, ik_2_2, ik_2_3, ik_2_4, e_iload_1, e_icmp_gt, e_icmp_lt, e_iload_4, e_if_ge, e_iinc_5, e_goto, kl_1, e_lstore_5, kl_0, e_lstore_7, e_iload_3, e_if_lt, e_icmp_le, e_isub, e_i2l, cc_Circuit_lostBetween_0, cc_Circuit_lostBetween_1, cc_Circuit_lostBetween_2, cc_Circuit_lostBetween_3, Option.toList_some, Option.toList_none, List.cons_append, List.nil_append, e_icmp_eq, e_fadd_0, e_fadd_1, e_fadd_2, e_fadd_3, e_fadd_4, cc_Circuit_lostBeyond_0, cc_Circuit_lostBeyond_1, cc_Circuit_lostBeyond_2, cc_Circuit_lostBeyond_3, e_aloadr_2, kl_1000, g_9_34, k_2, e_lmul, e_lload_5, k_1, e_lload_7, e_lsub, cc_Share_become_0, cc_Share_become_1, cc_Share_become_2, cc_Share_become_3, lay_27, lay_28, lay_30, lay_31, lay_32, lay_43, lay_44, lay_46, lay_49, lay_60, e_ret, eq_self, hm, lec (show m < 1000 by omega) hi, hi5, h1, hc, h2, h3, g2, g3, not_true_eq_false, not_false_eq_true, if_true, if_false, true_or, or_true, false_or, or_false, true_and, and_true, false_and, and_false, and_self, or_self, reduceIte, Bool.false_eq_true, i10, i01, e_inc1, oI_n, oI_s, ge_n]
        | some f =>
          have hf5 : f < 5 := by have := afV_some hf; omega
          simp only [b_55_e, b_55_41, b_55_71, b_55_77, b_55_133, b_55_157, k_m1, e_istore_3, e_kpi, e_kpr, e_kpl, e_kpd, e_istore_4, k_0, e_istore_5, e_jsr, e_iload_5, e_aloadr_0, g_5_34, e_icmp_ge, g_2_34, il_37, il_40, e_if_eq, g_1_34, il_2, il_5, il_33, il_35, il_36, il_41, il_42, il_tp, il_ta, il_sc, il_po, ik_2_0, ik_2_1, ik_2_2, ik_2_3, ik_2_4, e_iload_1, e_icmp_gt, e_icmp_lt, e_iload_4, e_if_ge, e_iinc_5, e_goto, kl_1, e_lstore_5, kl_0, e_lstore_7, e_iload_3, e_if_lt, e_icmp_le, e_isub, e_i2l, cc_Circuit_lostBetween_0, cc_Circuit_lostBetween_1, cc_Circuit_lostBetween_2, cc_Circuit_lostBetween_3, Option.toList_some, Option.toList_none, List.cons_append, List.nil_append, e_icmp_eq, e_fadd_0, e_fadd_1, e_fadd_2, e_fadd_3, e_fadd_4, cc_Circuit_lostBeyond_0, cc_Circuit_lostBeyond_1, cc_Circuit_lostBeyond_2, cc_Circuit_lostBeyond_3, e_aloadr_2, kl_1000, g_9_34, k_2, e_lmul, e_lload_5, k_1, e_lload_7, e_lsub, cc_Share_become_0, cc_Share_become_1, cc_Share_become_2, cc_Share_become_3, lay_27, lay_28, lay_30, lay_31, lay_32, lay_43, lay_44, lay_46, lay_49, lay_60, e_ret, eq_self, hm, lec (show m < 1000 by omega) hi, hi5, h1, hc, h2, h3, g2, g3, not_true_eq_false, not_false_eq_true, if_true, if_false, true_or, or_true, false_or, or_false, true_and, and_true, false_and, and_false, and_self, or_self, reduceIte, Bool.false_eq_true, i10, i01, e_inc1, oI_n, oI_s, ge_s hf5, reduceCtorEq]) (by omega)
  refine Eq.trans (show _ = _ from hl) ?_
  unfold vUp vDn
  have hbf : ∀ p, bfV mi x m = some p → p < 5 ∧ bd (mi 36 p) := fun p q => by have := bfV_some q; exact ⟨by omega, hp p this.1⟩
  have haf : ∀ p, afV mi x m = some p → p < 5 ∧ bd (mi 36 p) := fun p q => by have := afV_some q; exact ⟨by omega, hp p this.1⟩
  simp only [b_55_8, b_55_e, b_55_41, b_55_71, b_55_77, b_55_133, b_55_157, k_m1, e_istore_3, e_kpi, e_kpr, e_kpl, e_kpd, e_istore_4, k_0, e_istore_5, e_jsr, e_iload_5, e_aloadr_0, g_5_34, e_icmp_ge, g_2_34, il_37, il_40, e_if_eq, g_1_34, il_2, il_5, il_33, il_35, il_36, il_41, il_42, il_tp, il_ta, il_sc, il_po, ik_2_0, ik_2_1, ik_2_2, ik_2_3, ik_2_4, e_iload_1, e_icmp_gt, e_icmp_lt, e_iload_4, e_if_ge, e_iinc_5, e_goto, kl_1, e_lstore_5, kl_0, e_lstore_7, e_iload_3, e_if_lt, e_icmp_le, e_isub, e_i2l, cc_Circuit_lostBetween_0, cc_Circuit_lostBetween_1, cc_Circuit_lostBetween_2, cc_Circuit_lostBetween_3, Option.toList_some, Option.toList_none, List.cons_append, List.nil_append, e_icmp_eq, e_fadd_0, e_fadd_1, e_fadd_2, e_fadd_3, e_fadd_4, cc_Circuit_lostBeyond_0, cc_Circuit_lostBeyond_1, cc_Circuit_lostBeyond_2, cc_Circuit_lostBeyond_3, e_aloadr_2, kl_1000, g_9_34, k_2, e_lmul, e_lload_5, k_1, e_lload_7, e_lsub, cc_Share_become_0, cc_Share_become_1, cc_Share_become_2, cc_Share_become_3, lay_27, lay_28, lay_30, lay_31, lay_32, lay_43, lay_44, lay_46, lay_49, lay_60, e_ret, eq_self, hm, lecc, not_true_eq_false, not_false_eq_true, if_true, if_false, true_or, or_true, false_or, or_false, true_and, and_true, false_and, and_false, and_self, or_self, reduceIte, Bool.false_eq_true, i10, i01]
  have fin : ∀ g lo : Int, Int64.ofInt (1000 * (mi 2 2).toInt * g - (mi 2 1).toInt * lo) = 1000 * (mi 2 2).toInt64 * Int64.ofInt g - (mi 2 1).toInt64 * Int64.ofInt lo := fun g lo => by
    rw [Int64.ofInt_sub', Int64.ofInt_mul, Int64.ofInt_mul, Int64.ofInt_mul, i64_of, i64_of]
    rfl
  have fin2 : ∀ g : Int, Int64.ofInt (1000 * g) = 1000 * Int64.ofInt g := fun g => by rw [Int64.ofInt_mul]; rfl
  rw [fin, fin2]
  cases hb : bfV mi x m with
  | none =>
    cases ha : afV mi x m with
    | none => simp only [b_55_e, b_55_41, b_55_71, b_55_77, b_55_133, b_55_157, k_m1, e_istore_3, e_kpi, e_kpr, e_kpl, e_kpd, e_istore_4, k_0, e_istore_5, e_jsr, e_iload_5, e_aloadr_0, g_5_34, e_icmp_ge, g_2_34, il_37, il_40, e_if_eq, g_1_34, il_2, il_5, il_33, il_35, il_36, il_41, il_42, il_tp, il_ta, il_sc, il_po, ik_2_0, ik_2_1, ik_2_2, ik_2_3, ik_2_4, e_iload_1, e_icmp_gt, e_icmp_lt, e_iload_4, e_if_ge, e_iinc_5, e_goto, kl_1, e_lstore_5, kl_0, e_lstore_7, e_iload_3, e_if_lt, e_icmp_le, e_isub, e_i2l, cc_Circuit_lostBetween_0, cc_Circuit_lostBetween_1, cc_Circuit_lostBetween_2, cc_Circuit_lostBetween_3, Option.toList_some, Option.toList_none, List.cons_append, List.nil_append, e_icmp_eq, e_fadd_0, e_fadd_1, e_fadd_2, e_fadd_3, e_fadd_4, cc_Circuit_lostBeyond_0, cc_Circuit_lostBeyond_1, cc_Circuit_lostBeyond_2, cc_Circuit_lostBeyond_3, e_aloadr_2, kl_1000, g_9_34, k_2, e_lmul, e_lload_5, k_1, e_lload_7, e_lsub, cc_Share_become_0, cc_Share_become_1, cc_Share_become_2, cc_Share_become_3, lay_27, lay_28, lay_30, lay_31, lay_32, lay_43, lay_44, lay_46, lay_49, lay_60, e_ret, eq_self, not_true_eq_false, not_false_eq_true, if_true, if_false, true_or, or_true, false_or, or_false, true_and, and_true, false_and, and_false, and_self, or_self, reduceIte, Bool.false_eq_true, i10, i01, oI_n, lt_nN, hk, gapV, losV, show Int64.ofInt 1 = 1 from rfl, show Int64.ofInt 0 = 0 from rfl]
    | some q =>
      obtain ⟨hq5, hqb⟩ := haf q ha
      simp only [b_55_e, b_55_41, b_55_71, b_55_77, b_55_133, b_55_157, k_m1, e_istore_3, e_kpi, e_kpr, e_kpl, e_kpd, e_istore_4, k_0, e_istore_5, e_jsr, e_iload_5, e_aloadr_0, g_5_34, e_icmp_ge, g_2_34, il_37, il_40, e_if_eq, g_1_34, il_2, il_5, il_33, il_35, il_36, il_41, il_42, il_tp, il_ta, il_sc, il_po, ik_2_0, ik_2_1, ik_2_2, ik_2_3, ik_2_4, e_iload_1, e_icmp_gt, e_icmp_lt, e_iload_4, e_if_ge, e_iinc_5, e_goto, kl_1, e_lstore_5, kl_0, e_lstore_7, e_iload_3, e_if_lt, e_icmp_le, e_isub, e_i2l, cc_Circuit_lostBetween_0, cc_Circuit_lostBetween_1, cc_Circuit_lostBetween_2, cc_Circuit_lostBetween_3, Option.toList_some, Option.toList_none, List.cons_append, List.nil_append, e_icmp_eq, e_fadd_0, e_fadd_1, e_fadd_2, e_fadd_3, e_fadd_4, cc_Circuit_lostBeyond_0, cc_Circuit_lostBeyond_1, cc_Circuit_lostBeyond_2, cc_Circuit_lostBeyond_3, e_aloadr_2, kl_1000, g_9_34, k_2, e_lmul, e_lload_5, k_1, e_lload_7, e_lsub, cc_Share_become_0, cc_Share_become_1, cc_Share_become_2, cc_Share_become_3, lay_27, lay_28, lay_30, lay_31, lay_32, lay_43, lay_44, lay_46, lay_49, lay_60, e_ret, eq_self, not_true_eq_false, not_false_eq_true, if_true, if_false, true_or, or_true, false_or, or_false, true_and, and_true, false_and, and_false, and_self, or_self, reduceIte, Bool.false_eq_true, i10, i01, oI_n, oI_s, lt_nN, eq_m1p hq5, le_m1 hq5, hq5, hk, gapV, losV, cc_Circuit_lostBeyond_0 hqb hx hy, show Int64.ofInt 1 = 1 from rfl]
      rfl
  | some p =>
    obtain ⟨hp5, hpb⟩ := hbf p hb
    cases ha : afV mi x m with
    | none =>
      simp only [b_55_e, b_55_41, b_55_71, b_55_77, b_55_133, b_55_157, k_m1, e_istore_3, e_kpi, e_kpr, e_kpl, e_kpd, e_istore_4, k_0, e_istore_5, e_jsr, e_iload_5, e_aloadr_0, g_5_34, e_icmp_ge, g_2_34, il_37, il_40, e_if_eq, g_1_34, il_2, il_5, il_33, il_35, il_36, il_41, il_42, il_tp, il_ta, il_sc, il_po, ik_2_0, ik_2_1, ik_2_2, ik_2_3, ik_2_4, e_iload_1, e_icmp_gt, e_icmp_lt, e_iload_4, e_if_ge, e_iinc_5, e_goto, kl_1, e_lstore_5, kl_0, e_lstore_7, e_iload_3, e_if_lt, e_icmp_le, e_isub, e_i2l, cc_Circuit_lostBetween_0, cc_Circuit_lostBetween_1, cc_Circuit_lostBetween_2, cc_Circuit_lostBetween_3, Option.toList_some, Option.toList_none, List.cons_append, List.nil_append, e_icmp_eq, e_fadd_0, e_fadd_1, e_fadd_2, e_fadd_3, e_fadd_4, cc_Circuit_lostBeyond_0, cc_Circuit_lostBeyond_1, cc_Circuit_lostBeyond_2, cc_Circuit_lostBeyond_3, e_aloadr_2, kl_1000, g_9_34, k_2, e_lmul, e_lload_5, k_1, e_lload_7, e_lsub, cc_Share_become_0, cc_Share_become_1, cc_Share_become_2, cc_Share_become_3, lay_27, lay_28, lay_30, lay_31, lay_32, lay_43, lay_44, lay_46, lay_49, lay_60, e_ret, eq_self, not_true_eq_false, not_false_eq_true, if_true, if_false, true_or, or_true, false_or, or_false, true_and, and_true, false_and, and_false, and_self, or_self, reduceIte, Bool.false_eq_true, i10, i01, oI_n, oI_s, lt_sN hp5, eq_pm1 hp5, le_m1p hp5, nlt_m1 hp5, hp5, hk, gapV, losV, cc_Circuit_lostBeyond_0 hpb hx hy, show Int64.ofInt 1 = 1 from rfl]
      rfl
    | some q =>
      obtain ⟨hq5, hqb⟩ := haf q ha
      by_cases h1 : p < q
      · simp only [b_55_e, b_55_41, b_55_71, b_55_77, b_55_133, b_55_157, k_m1, e_istore_3, e_kpi, e_kpr, e_kpl, e_kpd, e_istore_4, k_0, e_istore_5, e_jsr, e_iload_5, e_aloadr_0, g_5_34, e_icmp_ge, g_2_34, il_37, il_40, e_if_eq, g_1_34, il_2, il_5, il_33, il_35, il_36, il_41, il_42, il_tp, il_ta, il_sc, il_po, ik_2_0, ik_2_1, ik_2_2, ik_2_3, ik_2_4, e_iload_1, e_icmp_gt, e_icmp_lt, e_iload_4, e_if_ge, e_iinc_5, e_goto, kl_1, e_lstore_5, kl_0, e_lstore_7, e_iload_3, e_if_lt, e_icmp_le, e_isub, e_i2l, cc_Circuit_lostBetween_0, cc_Circuit_lostBetween_1, cc_Circuit_lostBetween_2, cc_Circuit_lostBetween_3, Option.toList_some, Option.toList_none, List.cons_append, List.nil_append, e_icmp_eq, e_fadd_0, e_fadd_1, e_fadd_2, e_fadd_3, e_fadd_4, cc_Circuit_lostBeyond_0, cc_Circuit_lostBeyond_1, cc_Circuit_lostBeyond_2, cc_Circuit_lostBeyond_3, e_aloadr_2, kl_1000, g_9_34, k_2, e_lmul, e_lload_5, k_1, e_lload_7, e_lsub, cc_Share_become_0, cc_Share_become_1, cc_Share_become_2, cc_Share_become_3, lay_27, lay_28, lay_30, lay_31, lay_32, lay_43, lay_44, lay_46, lay_49, lay_60, e_ret, eq_self, not_true_eq_false, not_false_eq_true, if_true, if_false, true_or, or_true, false_or, or_false, true_and, and_true, false_and, and_false, and_self, or_self, reduceIte, Bool.false_eq_true, i10, i01, oI_s, lt_sN hp5, leN hq5 hp5, show ¬ q ≤ p by omega, h1, hp5, hq5, hk, gapV, losV, cc_Circuit_lostBetween_0 hpb hqb hx hy, i64_of, i32sub hqb hpb]
        rfl
      · by_cases h2 : p = q
        · subst h2
          simp only [b_55_e, b_55_41, b_55_71, b_55_77, b_55_133, b_55_157, k_m1, e_istore_3, e_kpi, e_kpr, e_kpl, e_kpd, e_istore_4, k_0, e_istore_5, e_jsr, e_iload_5, e_aloadr_0, g_5_34, e_icmp_ge, g_2_34, il_37, il_40, e_if_eq, g_1_34, il_2, il_5, il_33, il_35, il_36, il_41, il_42, il_tp, il_ta, il_sc, il_po, ik_2_0, ik_2_1, ik_2_2, ik_2_3, ik_2_4, e_iload_1, e_icmp_gt, e_icmp_lt, e_iload_4, e_if_ge, e_iinc_5, e_goto, kl_1, e_lstore_5, kl_0, e_lstore_7, e_iload_3, e_if_lt, e_icmp_le, e_isub, e_i2l, cc_Circuit_lostBetween_0, cc_Circuit_lostBetween_1, cc_Circuit_lostBetween_2, cc_Circuit_lostBetween_3, Option.toList_some, Option.toList_none, List.cons_append, List.nil_append, e_icmp_eq, e_fadd_0, e_fadd_1, e_fadd_2, e_fadd_3, e_fadd_4, cc_Circuit_lostBeyond_0, cc_Circuit_lostBeyond_1, cc_Circuit_lostBeyond_2, cc_Circuit_lostBeyond_3, e_aloadr_2, kl_1000, g_9_34, k_2, e_lmul, e_lload_5, k_1, e_lload_7, e_lsub, cc_Share_become_0, cc_Share_become_1, cc_Share_become_2, cc_Share_become_3, lay_27, lay_28, lay_30, lay_31, lay_32, lay_43, lay_44, lay_46, lay_49, lay_60, e_ret, eq_self, not_true_eq_false, not_false_eq_true, if_true, if_false, true_or, or_true, false_or, or_false, true_and, and_true, false_and, and_false, and_self, or_self, reduceIte, Bool.false_eq_true, i10, i01, oI_s, lt_sN hp5, Int32.le_refl, Nat.lt_irrefl, hp5, hk, gapV, losV, show Int64.ofInt 1 = 1 from rfl, show Int64.ofInt 0 = 0 from rfl]
        · simp only [b_55_e, b_55_41, b_55_71, b_55_77, b_55_133, b_55_157, k_m1, e_istore_3, e_kpi, e_kpr, e_kpl, e_kpd, e_istore_4, k_0, e_istore_5, e_jsr, e_iload_5, e_aloadr_0, g_5_34, e_icmp_ge, g_2_34, il_37, il_40, e_if_eq, g_1_34, il_2, il_5, il_33, il_35, il_36, il_41, il_42, il_tp, il_ta, il_sc, il_po, ik_2_0, ik_2_1, ik_2_2, ik_2_3, ik_2_4, e_iload_1, e_icmp_gt, e_icmp_lt, e_iload_4, e_if_ge, e_iinc_5, e_goto, kl_1, e_lstore_5, kl_0, e_lstore_7, e_iload_3, e_if_lt, e_icmp_le, e_isub, e_i2l, cc_Circuit_lostBetween_0, cc_Circuit_lostBetween_1, cc_Circuit_lostBetween_2, cc_Circuit_lostBetween_3, Option.toList_some, Option.toList_none, List.cons_append, List.nil_append, e_icmp_eq, e_fadd_0, e_fadd_1, e_fadd_2, e_fadd_3, e_fadd_4, cc_Circuit_lostBeyond_0, cc_Circuit_lostBeyond_1, cc_Circuit_lostBeyond_2, cc_Circuit_lostBeyond_3, e_aloadr_2, kl_1000, g_9_34, k_2, e_lmul, e_lload_5, k_1, e_lload_7, e_lsub, cc_Share_become_0, cc_Share_become_1, cc_Share_become_2, cc_Share_become_3, lay_27, lay_28, lay_30, lay_31, lay_32, lay_43, lay_44, lay_46, lay_49, lay_60, e_ret, eq_self, not_true_eq_false, not_false_eq_true, if_true, if_false, true_or, or_true, false_or, or_false, true_and, and_true, false_and, and_false, and_self, or_self, reduceIte, Bool.false_eq_true, i10, i01, oI_s, lt_sN hp5, leN hq5 hp5, show q ≤ p by omega, eqN hp5 hq5, ltN hp5 hq5, h1, h2, hp5, hq5, hk, gapV, losV, cc_Circuit_lostBeyond_0 hpb hx hy, show Int64.ofInt 1 = 1 from rfl]
          rfl
theorem cc_Circuit_voltsAt_0 {M : Nat} {c : List Instr} {L : List Value} {m k : Nat} {x : Int32} (hk : am_LAY[k]? = some (.inl 4)) (hm : mi 34 5 = nI m) (hm5 : m ≤ 5) (hx : bd x) (hp : ∀ n, n < m → bd (mi 36 n)) (hy : ∀ n, n < 5 → cTh mi n = true → bd (mi 41 n)) : ev E M (.invokevirtual 55 :: c) L (.ref k :: .int x :: .ref 34 :: []) (HH mi ml) = ev E M c L [] (HH mi (am_up (am_up ml k 0 (Int64.ofInt (vUp mi m x))) k 1 (Int64.ofInt (vDn mi m x)))) := e_inv (as := [.ref 34, .int x, .ref k]) (S := []) rfl rfl (Nat.le_of_ble_eq_true rfl) (rfl) (ct_Circuit_voltsAt hk hm hm5 hx hp hy)
theorem cc_Circuit_voltsAt_1 {M : Nat} {c : List Instr} {L : List Value} {s0 : Value} {m k : Nat} {x : Int32} (hk : am_LAY[k]? = some (.inl 4)) (hm : mi 34 5 = nI m) (hm5 : m ≤ 5) (hx : bd x) (hp : ∀ n, n < m → bd (mi 36 n)) (hy : ∀ n, n < 5 → cTh mi n = true → bd (mi 41 n)) : ev E M (.invokevirtual 55 :: c) L (.ref k :: .int x :: .ref 34 :: [s0]) (HH mi ml) = ev E M c L [s0] (HH mi (am_up (am_up ml k 0 (Int64.ofInt (vUp mi m x))) k 1 (Int64.ofInt (vDn mi m x)))) := e_inv (as := [.ref 34, .int x, .ref k]) (S := [s0]) rfl rfl (Nat.le_of_ble_eq_true rfl) (rfl) (ct_Circuit_voltsAt hk hm hm5 hx hp hy)
theorem cc_Circuit_voltsAt_2 {M : Nat} {c : List Instr} {L : List Value} {s0 s1 : Value} {m k : Nat} {x : Int32} (hk : am_LAY[k]? = some (.inl 4)) (hm : mi 34 5 = nI m) (hm5 : m ≤ 5) (hx : bd x) (hp : ∀ n, n < m → bd (mi 36 n)) (hy : ∀ n, n < 5 → cTh mi n = true → bd (mi 41 n)) : ev E M (.invokevirtual 55 :: c) L (.ref k :: .int x :: .ref 34 :: [s0, s1]) (HH mi ml) = ev E M c L [s0, s1] (HH mi (am_up (am_up ml k 0 (Int64.ofInt (vUp mi m x))) k 1 (Int64.ofInt (vDn mi m x)))) := e_inv (as := [.ref 34, .int x, .ref k]) (S := [s0, s1]) rfl rfl (Nat.le_of_ble_eq_true rfl) (rfl) (ct_Circuit_voltsAt hk hm hm5 hx hp hy)
theorem cc_Circuit_voltsAt_3 {M : Nat} {c : List Instr} {L : List Value} {s0 s1 s2 : Value} {m k : Nat} {x : Int32} (hk : am_LAY[k]? = some (.inl 4)) (hm : mi 34 5 = nI m) (hm5 : m ≤ 5) (hx : bd x) (hp : ∀ n, n < m → bd (mi 36 n)) (hy : ∀ n, n < 5 → cTh mi n = true → bd (mi 41 n)) : ev E M (.invokevirtual 55 :: c) L (.ref k :: .int x :: .ref 34 :: [s0, s1, s2]) (HH mi ml) = ev E M c L [s0, s1, s2] (HH mi (am_up (am_up ml k 0 (Int64.ofInt (vUp mi m x))) k 1 (Int64.ofInt (vDn mi m x)))) := e_inv (as := [.ref 34, .int x, .ref k]) (S := [s0, s1, s2]) rfl rfl (Nat.le_of_ble_eq_true rfl) (rfl) (ct_Circuit_voltsAt hk hm hm5 hx hp hy)
end Cl8
