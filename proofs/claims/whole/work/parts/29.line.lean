/-! LINE -/
def anyB (f : Nat → Bool) : Nat → Bool
  | 0 => false
  | n + 1 => anyB f n || f n
def cntB (f : Nat → Bool) : Nat → Nat
  | 0 => 0
  | n + 1 => if f n = true then cntB f n + 1 else cntB f n
theorem cntB_le {f : Nat → Bool} : ∀ {n : Nat}, cntB f n ≤ n := by
  intro n
  induction n with
  | zero => exact Nat.le_refl _
  | succ n ih => rw [cntB]; split <;> omega
theorem anyB_iff {f : Nat → Bool} : ∀ {n : Nat}, anyB f n = true ↔ ∃ i, i < n ∧ f i = true := by
  intro n
  induction n with
  | zero => simp [anyB]
  | succ n ih =>
    rw [anyB, Bool.or_eq_true, ih]
    constructor
    · rintro (⟨i, h1, h2⟩ | h)
      · exact ⟨i, by omega, h2⟩
      · exact ⟨n, by omega, h⟩
    · rintro ⟨i, h1, h2⟩
      by_cases hi : i = n
      · subst hi; exact Or.inr h2
      · exact Or.inl ⟨i, by omega, h2⟩
theorem fsti_any {c : Nat → Bool} {n : Nat} : (match fsti c 0 n with
    | some _ => true
    | none => false) = anyB c n := by
  cases h : fsti c 0 n with
  | none =>
    have h1 := fsti_none h
    cases h2 : anyB c n with
    | false => rfl
    | true =>
      obtain ⟨i, g1, g2⟩ := anyB_iff.mp h2
      rw [h1 i (by omega) (by omega)] at g2
      cases g2
  | some i =>
    obtain ⟨h1, h2, h3, h4⟩ := fsti_some h
    exact (anyB_iff.mpr ⟨i, by omega, h3⟩).symm
/-- a loop that looks for one -/
theorem loop_any {β : Type} (G : Nat → β) (c : Nat → Bool) (y z : β) (n : Nat) (h : ∀ i, i < n → G i = if c i = true then y else G (i + 1)) (hz : G n = z) : G 0 = if anyB c n = true then y else z := by
  have h1 := loop_fst G c (fun _ => y) n h n 0 (by omega)
  have h2 := fsti_any (c := c) (n := n)
  rw [h1, ← h2]
  cases fsti c 0 n with
  | none => simp [hz]
  | some i => simp
def sP (mi : Nat → Nat → Int32) (s : Nat) : Int32 := mi (6 + s) 1
def sI (mi : Nat → Nat → Int32) (s : Nat) : Bool := decide (¬ mi (6 + s) 2 = 0)
def tP (mi : Nat → Nat → Int32) (k t : Nat) : Int32 := mi (12 + 3 * k) t
def tA (mi : Nat → Nat → Int32) (k t : Nat) : Int32 := mi (13 + 3 * k) t
def byd (mi : Nat → Nat → Int32) (n nt : Nat) (v : Int32) : Bool := anyB (fun s => decide (v < sP mi s)) n || anyB (fun k => anyB (fun t => decide (v < tP mi k t)) 24) nt
def alw (mi : Nat → Nat → Int32) (n nt w : Nat) (v : Int32) : Prop := match w with
  | 0 => byd mi n nt v = false
  | 2 => v ≤ mi 2 3 ∧ mi 2 4 ≤ v
  | 3 => mi 2 2 ≤ v
  | 4 => v ≤ mi 2 2
  | _ => True
theorem nle_eq {x y : Int32} : (¬ x < y) = (y ≤ x) := propext Int32.not_lt
theorem nlt_eq {x y : Int32} : (¬ x ≤ y) = (y < x) := propext Int32.not_le
section Ln
variable {E : aE} {mi : Nat → Nat → Int32} {ml : Nat → Nat → Int64}
theorem ct_Line_hasStationAt {n : Nat} {x : Int32} (hn : mi 1 4 = nI n) (hn5 : n ≤ 5) : ev E 15 (am_B 15 0) [.ref 1, .int x, am_dm] [] (HH mi ml) = some (some (.int (if anyB (fun s => decide (sP mi s = x)) n = true then 1 else 0)), HH mi ml) := by
  simp only [b_15_e, b_15_25, b_15_31, k_0, e_istore_2, e_kpi, e_kpr, e_kpl, e_kpd, e_jsr, e_iload_2, e_aloadr_0, g_132_1, e_icmp_ge, g_129_1, il_3, il_4, il_29, il_51, g_385_6, g_385_7, g_385_8, g_385_9, g_385_10, gs_f385, e_iload_1, e_icmp_ne, k_1, e_zret0, e_zret1, e_iinc_2, e_goto, eq_self]
  have hl := loop_any (fun i => ev E 15 (am_B 15 (Int.toNat 2)) [.ref 1, .int x, .int (nI i)] [] (HH mi ml)) (fun s => decide (sP mi s = x)) (some (some (.int 1), HH mi ml)) (some (some (.int 0), HH mi ml)) n (fun i hi => by
    refine hd b_15_2 ?_
    have hi5 : i < 5 := by omega
    by_cases h1 : mi (6 + i) 1 = x
    · simp only [b_15_e, b_15_25, b_15_31, k_0, e_istore_2, e_kpi, e_kpr, e_kpl, e_kpd, e_jsr, e_iload_2, e_aloadr_0, g_132_1, e_icmp_ge, g_129_1, il_3, il_4, il_29, il_51, g_385_6, g_385_7, g_385_8, g_385_9, g_385_10, gs_f385, e_iload_1, e_icmp_ne, k_1, e_zret0, e_zret1, e_iinc_2, e_goto, eq_self, hn, lec (show n < 1000 by omega) hi, hi5, sP, h1, decide_true, not_true_eq_false, not_false_eq_true, if_true, if_false, true_or, or_true, false_or, or_false, true_and, and_true, false_and, and_false, and_self, or_self, reduceIte, Bool.false_eq_true, i10, i01, e_inc1]
    · simp only [b_15_e, b_15_25, b_15_31, k_0, e_istore_2, e_kpi, e_kpr, e_kpl, e_kpd, e_jsr, e_iload_2, e_aloadr_0, g_132_1, e_icmp_ge, g_129_1, il_3, il_4, il_29, il_51, g_385_6, g_385_7, g_385_8, g_385_9, g_385_10, gs_f385, e_iload_1, e_icmp_ne, k_1, e_zret0, e_zret1, e_iinc_2, e_goto, eq_self, hn, lec (show n < 1000 by omega) hi, hi5, sP, h1, decide_false, not_true_eq_false, not_false_eq_true, if_true, if_false, true_or, or_true, false_or, or_false, true_and, and_true, false_and, and_false, and_self, or_self, reduceIte, Bool.false_eq_true, i10, i01, e_inc1]) (by
    refine hd b_15_2 ?_
    simp only [b_15_e, b_15_25, b_15_31, k_0, e_istore_2, e_kpi, e_kpr, e_kpl, e_kpd, e_jsr, e_iload_2, e_aloadr_0, g_132_1, e_icmp_ge, g_129_1, il_3, il_4, il_29, il_51, g_385_6, g_385_7, g_385_8, g_385_9, g_385_10, gs_f385, e_iload_1, e_icmp_ne, k_1, e_zret0, e_zret1, e_iinc_2, e_goto, eq_self, hn, lecc, not_true_eq_false, not_false_eq_true, if_true, if_false, true_or, or_true, false_or, or_false, true_and, and_true, false_and, and_false, and_self, or_self, reduceIte, Bool.false_eq_true, i10, i01])
  refine Eq.trans (show _ = _ from hl) ?_
  exact b10
theorem cc_Line_hasStationAt_0 {M : Nat} {c : List Instr} {L : List Value} {n : Nat} {x : Int32} (hn : mi 1 4 = nI n) (hn5 : n ≤ 5) : ev E M (.invokevirtual 15 :: c) L (.int x :: .ref 1 :: []) (HH mi ml) = ev E M c L (.int (if anyB (fun s => decide (sP mi s = x)) n = true then 1 else 0) :: []) (HH mi ml) := e_inv (as := [.ref 1, .int x]) (S := []) rfl rfl (Nat.le_of_ble_eq_true rfl) (rfl) (ct_Line_hasStationAt hn hn5)
theorem cc_Line_hasStationAt_1 {M : Nat} {c : List Instr} {L : List Value} {s0 : Value} {n : Nat} {x : Int32} (hn : mi 1 4 = nI n) (hn5 : n ≤ 5) : ev E M (.invokevirtual 15 :: c) L (.int x :: .ref 1 :: [s0]) (HH mi ml) = ev E M c L (.int (if anyB (fun s => decide (sP mi s = x)) n = true then 1 else 0) :: [s0]) (HH mi ml) := e_inv (as := [.ref 1, .int x]) (S := [s0]) rfl rfl (Nat.le_of_ble_eq_true rfl) (rfl) (ct_Line_hasStationAt hn hn5)
theorem cc_Line_hasStationAt_2 {M : Nat} {c : List Instr} {L : List Value} {s0 s1 : Value} {n : Nat} {x : Int32} (hn : mi 1 4 = nI n) (hn5 : n ≤ 5) : ev E M (.invokevirtual 15 :: c) L (.int x :: .ref 1 :: [s0, s1]) (HH mi ml) = ev E M c L (.int (if anyB (fun s => decide (sP mi s = x)) n = true then 1 else 0) :: [s0, s1]) (HH mi ml) := e_inv (as := [.ref 1, .int x]) (S := [s0, s1]) rfl rfl (Nat.le_of_ble_eq_true rfl) (rfl) (ct_Line_hasStationAt hn hn5)
theorem cc_Line_hasStationAt_3 {M : Nat} {c : List Instr} {L : List Value} {s0 s1 s2 : Value} {n : Nat} {x : Int32} (hn : mi 1 4 = nI n) (hn5 : n ≤ 5) : ev E M (.invokevirtual 15 :: c) L (.int x :: .ref 1 :: [s0, s1, s2]) (HH mi ml) = ev E M c L (.int (if anyB (fun s => decide (sP mi s = x)) n = true then 1 else 0) :: [s0, s1, s2]) (HH mi ml) := e_inv (as := [.ref 1, .int x]) (S := [s0, s1, s2]) rfl rfl (Nat.le_of_ble_eq_true rfl) (rfl) (ct_Line_hasStationAt hn hn5)
theorem ct_Line_stationsIn {n : Nat} (hn : mi 1 4 = nI n) (hn5 : n ≤ 5) : ev E 37 (am_B 37 0) [.ref 1, am_dm, am_dm] [] (HH mi ml) = some (some (.int (nI (cntB (sI mi) n))), HH mi ml) := by
  simp only [b_37_e, b_37_27, b_37_33, k_0, e_istore_1, e_kpi, e_kpr, e_kpl, e_kpd, e_istore_2, e_jsr, e_iload_2, e_aloadr_0, g_132_1, e_icmp_ge, g_129_1, il_3, il_4, il_29, il_51, g_386_6, g_386_7, g_386_8, g_386_9, g_386_10, gs_f386, e_if_eq, e_iinc_1, e_iinc_2, e_goto, e_iload_1, e_iret, eq_self]
  have hl := loop_up (fun i => ev E 37 (am_B 37 (Int.toNat 4)) [.ref 1, .int (nI (cntB (sI mi) i)), .int (nI i)] [] (HH mi ml)) 0 n (fun i _ hi => by
    refine hd b_37_4 ?_
    have hi5 : i < 5 := by omega
    rw [cntB]
    by_cases h1 : mi (6 + i) 2 = 0
    · simp only [b_37_e, b_37_27, b_37_33, k_0, e_istore_1, e_kpi, e_kpr, e_kpl, e_kpd, e_istore_2, e_jsr, e_iload_2, e_aloadr_0, g_132_1, e_icmp_ge, g_129_1, il_3, il_4, il_29, il_51, g_386_6, g_386_7, g_386_8, g_386_9, g_386_10, gs_f386, e_if_eq, e_iinc_1, e_iinc_2, e_goto, e_iload_1, e_iret, eq_self, hn, lec (show n < 1000 by omega) hi, hi5, sI, h1, decide_false, not_true_eq_false, not_false_eq_true, if_true, if_false, true_or, or_true, false_or, or_false, true_and, and_true, false_and, and_false, and_self, or_self, reduceIte, Bool.false_eq_true, i10, i01, e_inc1]
    · simp only [b_37_e, b_37_27, b_37_33, k_0, e_istore_1, e_kpi, e_kpr, e_kpl, e_kpd, e_istore_2, e_jsr, e_iload_2, e_aloadr_0, g_132_1, e_icmp_ge, g_129_1, il_3, il_4, il_29, il_51, g_386_6, g_386_7, g_386_8, g_386_9, g_386_10, gs_f386, e_if_eq, e_iinc_1, e_iinc_2, e_goto, e_iload_1, e_iret, eq_self, hn, lec (show n < 1000 by omega) hi, hi5, sI, h1, decide_true, not_true_eq_false, not_false_eq_true, if_true, if_false, true_or, or_true, false_or, or_false, true_and, and_true, false_and, and_false, and_self, or_self, reduceIte, Bool.false_eq_true, i10, i01, e_inc1]) (by omega)
  refine Eq.trans (show _ = _ from hl) ?_
  simp only [b_37_4, b_37_e, b_37_27, b_37_33, k_0, e_istore_1, e_kpi, e_kpr, e_kpl, e_kpd, e_istore_2, e_jsr, e_iload_2, e_aloadr_0, g_132_1, e_icmp_ge, g_129_1, il_3, il_4, il_29, il_51, g_386_6, g_386_7, g_386_8, g_386_9, g_386_10, gs_f386, e_if_eq, e_iinc_1, e_iinc_2, e_goto, e_iload_1, e_iret, eq_self, hn, lecc, not_true_eq_false, not_false_eq_true, if_true, if_false, true_or, or_true, false_or, or_false, true_and, and_true, false_and, and_false, and_self, or_self, reduceIte, Bool.false_eq_true, i10, i01]
theorem cc_Line_stationsIn_0 {M : Nat} {c : List Instr} {L : List Value} {n : Nat} (hn : mi 1 4 = nI n) (hn5 : n ≤ 5) : ev E M (.invokevirtual 37 :: c) L (.ref 1 :: []) (HH mi ml) = ev E M c L (.int (nI (cntB (sI mi) n)) :: []) (HH mi ml) := e_inv (as := [.ref 1]) (S := []) rfl rfl (Nat.le_of_ble_eq_true rfl) (rfl) (ct_Line_stationsIn hn hn5)
theorem cc_Line_stationsIn_1 {M : Nat} {c : List Instr} {L : List Value} {s0 : Value} {n : Nat} (hn : mi 1 4 = nI n) (hn5 : n ≤ 5) : ev E M (.invokevirtual 37 :: c) L (.ref 1 :: [s0]) (HH mi ml) = ev E M c L (.int (nI (cntB (sI mi) n)) :: [s0]) (HH mi ml) := e_inv (as := [.ref 1]) (S := [s0]) rfl rfl (Nat.le_of_ble_eq_true rfl) (rfl) (ct_Line_stationsIn hn hn5)
theorem cc_Line_stationsIn_2 {M : Nat} {c : List Instr} {L : List Value} {s0 s1 : Value} {n : Nat} (hn : mi 1 4 = nI n) (hn5 : n ≤ 5) : ev E M (.invokevirtual 37 :: c) L (.ref 1 :: [s0, s1]) (HH mi ml) = ev E M c L (.int (nI (cntB (sI mi) n)) :: [s0, s1]) (HH mi ml) := e_inv (as := [.ref 1]) (S := [s0, s1]) rfl rfl (Nat.le_of_ble_eq_true rfl) (rfl) (ct_Line_stationsIn hn hn5)
theorem cc_Line_stationsIn_3 {M : Nat} {c : List Instr} {L : List Value} {s0 s1 s2 : Value} {n : Nat} (hn : mi 1 4 = nI n) (hn5 : n ≤ 5) : ev E M (.invokevirtual 37 :: c) L (.ref 1 :: [s0, s1, s2]) (HH mi ml) = ev E M c L (.int (nI (cntB (sI mi) n)) :: [s0, s1, s2]) (HH mi ml) := e_inv (as := [.ref 1]) (S := [s0, s1, s2]) rfl rfl (Nat.le_of_ble_eq_true rfl) (rfl) (ct_Line_stationsIn hn hn5)
theorem ct_Line_isDark {n : Nat} (hn : mi 1 4 = nI n) (hn5 : n ≤ 5) : ev E 36 (am_B 36 0) [.ref 1] [] (HH mi ml) = some (some (.int (if cntB (sI mi) n = 0 then 1 else 0)), HH mi ml) := by
  have hc := cntB_le (f := sI mi) (n := n)
  have hq : (nI (cntB (sI mi) n) = 0) = (cntB (sI mi) n = 0) := propext (nI_eq (b := 0) (by omega) (by decide))
  simp only [b_36_e, b_36_11, b_36_12, e_aloadr_0, cc_Line_stationsIn_0, cc_Line_stationsIn_1, cc_Line_stationsIn_2, cc_Line_stationsIn_3, Option.toList_some, Option.toList_none, List.cons_append, List.nil_append, e_if_ne, k_1, e_goto, k_0, e_jsr, e_zret0, e_zret1, eq_self, cc_Line_stationsIn_0 hn hn5, hq]
  by_cases h : cntB (sI mi) n = 0
  · simp only [h, not_true_eq_false, not_false_eq_true, if_true, if_false, true_or, or_true, false_or, or_false, true_and, and_true, false_and, and_false, and_self, or_self, reduceIte, Bool.false_eq_true, i10, i01]
  · simp only [h, not_true_eq_false, not_false_eq_true, if_true, if_false, true_or, or_true, false_or, or_false, true_and, and_true, false_and, and_false, and_self, or_self, reduceIte, Bool.false_eq_true, i10, i01]
theorem cc_Line_isDark_0 {M : Nat} {c : List Instr} {L : List Value} {n : Nat} (hn : mi 1 4 = nI n) (hn5 : n ≤ 5) : ev E M (.invokevirtual 36 :: c) L (.ref 1 :: []) (HH mi ml) = ev E M c L (.int (if cntB (sI mi) n = 0 then 1 else 0) :: []) (HH mi ml) := e_inv (as := [.ref 1]) (S := []) rfl rfl (Nat.le_of_ble_eq_true rfl) (rfl) (ct_Line_isDark hn hn5)
theorem cc_Line_isDark_1 {M : Nat} {c : List Instr} {L : List Value} {s0 : Value} {n : Nat} (hn : mi 1 4 = nI n) (hn5 : n ≤ 5) : ev E M (.invokevirtual 36 :: c) L (.ref 1 :: [s0]) (HH mi ml) = ev E M c L (.int (if cntB (sI mi) n = 0 then 1 else 0) :: [s0]) (HH mi ml) := e_inv (as := [.ref 1]) (S := [s0]) rfl rfl (Nat.le_of_ble_eq_true rfl) (rfl) (ct_Line_isDark hn hn5)
theorem cc_Line_isDark_2 {M : Nat} {c : List Instr} {L : List Value} {s0 s1 : Value} {n : Nat} (hn : mi 1 4 = nI n) (hn5 : n ≤ 5) : ev E M (.invokevirtual 36 :: c) L (.ref 1 :: [s0, s1]) (HH mi ml) = ev E M c L (.int (if cntB (sI mi) n = 0 then 1 else 0) :: [s0, s1]) (HH mi ml) := e_inv (as := [.ref 1]) (S := [s0, s1]) rfl rfl (Nat.le_of_ble_eq_true rfl) (rfl) (ct_Line_isDark hn hn5)
theorem cc_Line_isDark_3 {M : Nat} {c : List Instr} {L : List Value} {s0 s1 s2 : Value} {n : Nat} (hn : mi 1 4 = nI n) (hn5 : n ≤ 5) : ev E M (.invokevirtual 36 :: c) L (.ref 1 :: [s0, s1, s2]) (HH mi ml) = ev E M c L (.int (if cntB (sI mi) n = 0 then 1 else 0) :: [s0, s1, s2]) (HH mi ml) := e_inv (as := [.ref 1]) (S := [s0, s1, s2]) rfl rfl (Nat.le_of_ble_eq_true rfl) (rfl) (ct_Line_isDark hn hn5)
theorem ct_Line_isAnyBeyond {n nt : Nat} {v : Int32} (hn : mi 1 4 = nI n) (hn5 : n ≤ 5) (hnt : mi 1 5 = nI nt) (hnt5 : nt ≤ 5) : ev E 11 (am_B 11 0) [.ref 1, .int v, am_dm, am_dm] [] (HH mi ml) = some (some (.int (if byd mi n nt v = true then 1 else 0)), HH mi ml) := by
  simp only [b_11_e, b_11_25, b_11_31, b_11_66, b_11_72, b_11_78, k_0, e_istore_2, e_kpi, e_kpr, e_kpl, e_kpd, e_jsr, e_iload_2, e_aloadr_0, g_132_1, e_icmp_ge, g_129_1, il_3, il_4, il_29, il_51, g_385_6, g_385_7, g_385_8, g_385_9, g_385_10, gs_f385, e_iload_1, e_icmp_le, k_1, e_zret0, e_zret1, e_iinc_2, e_goto, g_133_1, e_istore_3, e_iload_3, k_24, g_130_1, g_448_11, g_448_14, g_448_17, g_448_20, g_448_23, gs_f448, il_2, il_5, il_33, il_35, il_36, il_41, il_42, il_tp, il_ta, il_sc, il_po, ik_2_0, ik_2_1, ik_2_2, ik_2_3, ik_2_4, e_iinc_3, eq_self]
  have hin : ∀ (k : Nat) (w : Value), k < nt → ev E 11 (am_B 11 (Int.toNat 43)) [.ref 1, .int v, .int (nI k), .int (nI 0)] [] (HH mi ml) = if anyB (fun t => decide (v < tP mi k t)) 24 = true then some (some (.int 1), HH mi ml) else ev E 11 (am_B 11 (Int.toNat 33)) [.ref 1, .int v, .int (nI (k + 1)), .int (nI 24)] [] (HH mi ml) := fun k w hk => by
    have hk5 : k < 5 := by omega
    exact loop_any (fun i => ev E 11 (am_B 11 (Int.toNat 43)) [.ref 1, .int v, .int (nI k), .int (nI i)] [] (HH mi ml)) (fun t => decide (v < tP mi k t)) (some (some (.int 1), HH mi ml)) _ 24 (fun i hi => by
      refine hd b_11_43 ?_
      by_cases h1 : mi (12 + 3 * k) i ≤ v
      · simp only [b_11_e, b_11_25, b_11_31, b_11_66, b_11_72, b_11_78, k_0, e_istore_2, e_kpi, e_kpr, e_kpl, e_kpd, e_jsr, e_iload_2, e_aloadr_0, g_132_1, e_icmp_ge, g_129_1, il_3, il_4, il_29, il_51, g_385_6, g_385_7, g_385_8, g_385_9, g_385_10, gs_f385, e_iload_1, e_icmp_le, k_1, e_zret0, e_zret1, e_iinc_2, e_goto, g_133_1, e_istore_3, e_iload_3, k_24, g_130_1, g_448_11, g_448_14, g_448_17, g_448_20, g_448_23, gs_f448, il_2, il_5, il_33, il_35, il_36, il_41, il_42, il_tp, il_ta, il_sc, il_po, ik_2_0, ik_2_1, ik_2_2, ik_2_3, ik_2_4, e_iinc_3, eq_self, le24 hi, hi, hk5, tP, h1, Int32.not_lt.mpr h1, decide_false, not_true_eq_false, not_false_eq_true, if_true, if_false, true_or, or_true, false_or, or_false, true_and, and_true, false_and, and_false, and_self, or_self, reduceIte, Bool.false_eq_true, i10, i01, e_inc1]
      · simp only [b_11_e, b_11_25, b_11_31, b_11_66, b_11_72, b_11_78, k_0, e_istore_2, e_kpi, e_kpr, e_kpl, e_kpd, e_jsr, e_iload_2, e_aloadr_0, g_132_1, e_icmp_ge, g_129_1, il_3, il_4, il_29, il_51, g_385_6, g_385_7, g_385_8, g_385_9, g_385_10, gs_f385, e_iload_1, e_icmp_le, k_1, e_zret0, e_zret1, e_iinc_2, e_goto, g_133_1, e_istore_3, e_iload_3, k_24, g_130_1, g_448_11, g_448_14, g_448_17, g_448_20, g_448_23, gs_f448, il_2, il_5, il_33, il_35, il_36, il_41, il_42, il_tp, il_ta, il_sc, il_po, ik_2_0, ik_2_1, ik_2_2, ik_2_3, ik_2_4, e_iinc_3, eq_self, le24 hi, hi, hk5, tP, h1, Int32.not_le.mp h1, decide_true, not_true_eq_false, not_false_eq_true, if_true, if_false, true_or, or_true, false_or, or_false, true_and, and_true, false_and, and_false, and_self, or_self, reduceIte, Bool.false_eq_true, i10, i01, e_inc1]) (by
      refine hd b_11_43 ?_
      simp only [b_11_e, b_11_25, b_11_31, b_11_66, b_11_72, b_11_78, k_0, e_istore_2, e_kpi, e_kpr, e_kpl, e_kpd, e_jsr, e_iload_2, e_aloadr_0, g_132_1, e_icmp_ge, g_129_1, il_3, il_4, il_29, il_51, g_385_6, g_385_7, g_385_8, g_385_9, g_385_10, gs_f385, e_iload_1, e_icmp_le, k_1, e_zret0, e_zret1, e_iinc_2, e_goto, g_133_1, e_istore_3, e_iload_3, k_24, g_130_1, g_448_11, g_448_14, g_448_17, g_448_20, g_448_23, gs_f448, il_2, il_5, il_33, il_35, il_36, il_41, il_42, il_tp, il_ta, il_sc, il_po, ik_2_0, ik_2_1, ik_2_2, ik_2_3, ik_2_4, e_iinc_3, eq_self, le2424, not_true_eq_false, not_false_eq_true, if_true, if_false, true_or, or_true, false_or, or_false, true_and, and_true, false_and, and_false, and_self, or_self, reduceIte, Bool.false_eq_true, i10, i01, e_inc1])
  have hmid : ∀ w : Value, ev E 11 (am_B 11 (Int.toNat 33)) [.ref 1, .int v, .int (nI 0), w] [] (HH mi ml) = if anyB (fun k => anyB (fun t => decide (v < tP mi k t)) 24) nt = true then some (some (.int 1), HH mi ml) else some (some (.int 0), HH mi ml) := by
    intro w
    refine loop_any (fun i => ev E 11 (am_B 11 (Int.toNat 33)) [.ref 1, .int v, .int (nI i), if i = 0 then w else .int (nI 24)] [] (HH mi ml)) (fun k => anyB (fun t => decide (v < tP mi k t)) 24) _ _ nt (fun i hi => ?_) ?_
    · refine hd b_11_33 ?_
      have h0 : ¬ i + 1 = 0 := by omega
      simp only [b_11_e, b_11_25, b_11_31, b_11_66, b_11_72, b_11_78, k_0, e_istore_2, e_kpi, e_kpr, e_kpl, e_kpd, e_jsr, e_iload_2, e_aloadr_0, g_132_1, e_icmp_ge, g_129_1, il_3, il_4, il_29, il_51, g_385_6, g_385_7, g_385_8, g_385_9, g_385_10, gs_f385, e_iload_1, e_icmp_le, k_1, e_zret0, e_zret1, e_iinc_2, e_goto, g_133_1, e_istore_3, e_iload_3, k_24, g_130_1, g_448_11, g_448_14, g_448_17, g_448_20, g_448_23, gs_f448, il_2, il_5, il_33, il_35, il_36, il_41, il_42, il_tp, il_ta, il_sc, il_po, ik_2_0, ik_2_1, ik_2_2, ik_2_3, ik_2_4, e_iinc_3, eq_self, hnt, lec (show nt < 1000 by omega) hi, h0, not_true_eq_false, not_false_eq_true, if_true, if_false, true_or, or_true, false_or, or_false, true_and, and_true, false_and, and_false, and_self, or_self, reduceIte, Bool.false_eq_true, i10, i01]
      rw [k0nI, hin i .null hi]
    · refine hd b_11_33 ?_
      simp only [b_11_e, b_11_25, b_11_31, b_11_66, b_11_72, b_11_78, k_0, e_istore_2, e_kpi, e_kpr, e_kpl, e_kpd, e_jsr, e_iload_2, e_aloadr_0, g_132_1, e_icmp_ge, g_129_1, il_3, il_4, il_29, il_51, g_385_6, g_385_7, g_385_8, g_385_9, g_385_10, gs_f385, e_iload_1, e_icmp_le, k_1, e_zret0, e_zret1, e_iinc_2, e_goto, g_133_1, e_istore_3, e_iload_3, k_24, g_130_1, g_448_11, g_448_14, g_448_17, g_448_20, g_448_23, gs_f448, il_2, il_5, il_33, il_35, il_36, il_41, il_42, il_tp, il_ta, il_sc, il_po, ik_2_0, ik_2_1, ik_2_2, ik_2_3, ik_2_4, e_iinc_3, eq_self, hnt, lecc, not_true_eq_false, not_false_eq_true, if_true, if_false, true_or, or_true, false_or, or_false, true_and, and_true, false_and, and_false, and_self, or_self, reduceIte, Bool.false_eq_true, i10, i01]
  have hl := loop_any (fun i => ev E 11 (am_B 11 (Int.toNat 2)) [.ref 1, .int v, .int (nI i), am_dm] [] (HH mi ml)) (fun s => decide (v < sP mi s)) (some (some (.int 1), HH mi ml)) (if anyB (fun k => anyB (fun t => decide (v < tP mi k t)) 24) nt = true then some (some (.int 1), HH mi ml) else some (some (.int 0), HH mi ml)) n (fun i hi => by
    refine hd b_11_2 ?_
    have hi5 : i < 5 := by omega
    by_cases h1 : mi (6 + i) 1 ≤ v
    · simp only [b_11_e, b_11_25, b_11_31, b_11_66, b_11_72, b_11_78, k_0, e_istore_2, e_kpi, e_kpr, e_kpl, e_kpd, e_jsr, e_iload_2, e_aloadr_0, g_132_1, e_icmp_ge, g_129_1, il_3, il_4, il_29, il_51, g_385_6, g_385_7, g_385_8, g_385_9, g_385_10, gs_f385, e_iload_1, e_icmp_le, k_1, e_zret0, e_zret1, e_iinc_2, e_goto, g_133_1, e_istore_3, e_iload_3, k_24, g_130_1, g_448_11, g_448_14, g_448_17, g_448_20, g_448_23, gs_f448, il_2, il_5, il_33, il_35, il_36, il_41, il_42, il_tp, il_ta, il_sc, il_po, ik_2_0, ik_2_1, ik_2_2, ik_2_3, ik_2_4, e_iinc_3, eq_self, hn, lec (show n < 1000 by omega) hi, hi5, sP, h1, Int32.not_lt.mpr h1, decide_false, not_true_eq_false, not_false_eq_true, if_true, if_false, true_or, or_true, false_or, or_false, true_and, and_true, false_and, and_false, and_self, or_self, reduceIte, Bool.false_eq_true, i10, i01, e_inc1]
    · simp only [b_11_e, b_11_25, b_11_31, b_11_66, b_11_72, b_11_78, k_0, e_istore_2, e_kpi, e_kpr, e_kpl, e_kpd, e_jsr, e_iload_2, e_aloadr_0, g_132_1, e_icmp_ge, g_129_1, il_3, il_4, il_29, il_51, g_385_6, g_385_7, g_385_8, g_385_9, g_385_10, gs_f385, e_iload_1, e_icmp_le, k_1, e_zret0, e_zret1, e_iinc_2, e_goto, g_133_1, e_istore_3, e_iload_3, k_24, g_130_1, g_448_11, g_448_14, g_448_17, g_448_20, g_448_23, gs_f448, il_2, il_5, il_33, il_35, il_36, il_41, il_42, il_tp, il_ta, il_sc, il_po, ik_2_0, ik_2_1, ik_2_2, ik_2_3, ik_2_4, e_iinc_3, eq_self, hn, lec (show n < 1000 by omega) hi, hi5, sP, h1, Int32.not_le.mp h1, decide_true, not_true_eq_false, not_false_eq_true, if_true, if_false, true_or, or_true, false_or, or_false, true_and, and_true, false_and, and_false, and_self, or_self, reduceIte, Bool.false_eq_true, i10, i01, e_inc1]) (by
    refine hd b_11_2 ?_
    simp only [b_11_e, b_11_25, b_11_31, b_11_66, b_11_72, b_11_78, k_0, e_istore_2, e_kpi, e_kpr, e_kpl, e_kpd, e_jsr, e_iload_2, e_aloadr_0, g_132_1, e_icmp_ge, g_129_1, il_3, il_4, il_29, il_51, g_385_6, g_385_7, g_385_8, g_385_9, g_385_10, gs_f385, e_iload_1, e_icmp_le, k_1, e_zret0, e_zret1, e_iinc_2, e_goto, g_133_1, e_istore_3, e_iload_3, k_24, g_130_1, g_448_11, g_448_14, g_448_17, g_448_20, g_448_23, gs_f448, il_2, il_5, il_33, il_35, il_36, il_41, il_42, il_tp, il_ta, il_sc, il_po, ik_2_0, ik_2_1, ik_2_2, ik_2_3, ik_2_4, e_iinc_3, eq_self, hn, lecc, not_true_eq_false, not_false_eq_true, if_true, if_false, true_or, or_true, false_or, or_false, true_and, and_true, false_and, and_false, and_self, or_self, reduceIte, Bool.false_eq_true, i10, i01]
    exact hmid _)
  refine Eq.trans (show _ = _ from hl) ?_
  unfold byd
  by_cases h1 : anyB (fun s => decide (v < sP mi s)) n = true
  · simp [h1]
  · by_cases h2 : anyB (fun k => anyB (fun t => decide (v < tP mi k t)) 24) nt = true
    · simp [h1, h2]
    · simp [h1, h2]
theorem cc_Line_isAnyBeyond_0 {M : Nat} {c : List Instr} {L : List Value} {n nt : Nat} {v : Int32} (hn : mi 1 4 = nI n) (hn5 : n ≤ 5) (hnt : mi 1 5 = nI nt) (hnt5 : nt ≤ 5) : ev E M (.invokevirtual 11 :: c) L (.int v :: .ref 1 :: []) (HH mi ml) = ev E M c L (.int (if byd mi n nt v = true then 1 else 0) :: []) (HH mi ml) := e_inv (as := [.ref 1, .int v]) (S := []) rfl rfl (Nat.le_of_ble_eq_true rfl) (rfl) (ct_Line_isAnyBeyond hn hn5 hnt hnt5)
theorem cc_Line_isAnyBeyond_1 {M : Nat} {c : List Instr} {L : List Value} {s0 : Value} {n nt : Nat} {v : Int32} (hn : mi 1 4 = nI n) (hn5 : n ≤ 5) (hnt : mi 1 5 = nI nt) (hnt5 : nt ≤ 5) : ev E M (.invokevirtual 11 :: c) L (.int v :: .ref 1 :: [s0]) (HH mi ml) = ev E M c L (.int (if byd mi n nt v = true then 1 else 0) :: [s0]) (HH mi ml) := e_inv (as := [.ref 1, .int v]) (S := [s0]) rfl rfl (Nat.le_of_ble_eq_true rfl) (rfl) (ct_Line_isAnyBeyond hn hn5 hnt hnt5)
theorem cc_Line_isAnyBeyond_2 {M : Nat} {c : List Instr} {L : List Value} {s0 s1 : Value} {n nt : Nat} {v : Int32} (hn : mi 1 4 = nI n) (hn5 : n ≤ 5) (hnt : mi 1 5 = nI nt) (hnt5 : nt ≤ 5) : ev E M (.invokevirtual 11 :: c) L (.int v :: .ref 1 :: [s0, s1]) (HH mi ml) = ev E M c L (.int (if byd mi n nt v = true then 1 else 0) :: [s0, s1]) (HH mi ml) := e_inv (as := [.ref 1, .int v]) (S := [s0, s1]) rfl rfl (Nat.le_of_ble_eq_true rfl) (rfl) (ct_Line_isAnyBeyond hn hn5 hnt hnt5)
theorem cc_Line_isAnyBeyond_3 {M : Nat} {c : List Instr} {L : List Value} {s0 s1 s2 : Value} {n nt : Nat} {v : Int32} (hn : mi 1 4 = nI n) (hn5 : n ≤ 5) (hnt : mi 1 5 = nI nt) (hnt5 : nt ≤ 5) : ev E M (.invokevirtual 11 :: c) L (.int v :: .ref 1 :: [s0, s1, s2]) (HH mi ml) = ev E M c L (.int (if byd mi n nt v = true then 1 else 0) :: [s0, s1, s2]) (HH mi ml) := e_inv (as := [.ref 1, .int v]) (S := [s0, s1, s2]) rfl rfl (Nat.le_of_ble_eq_true rfl) (rfl) (ct_Line_isAnyBeyond hn hn5 hnt hnt5)
theorem al_0 : am_tsw 108 0 4 #[36, 108, 50, 76, 92] (nI 0) = Int.toNat 36 := by decide +kernel
theorem al_1 : am_tsw 108 0 4 #[36, 108, 50, 76, 92] (nI 1) = Int.toNat 108 := by decide +kernel
theorem al_2 : am_tsw 108 0 4 #[36, 108, 50, 76, 92] (nI 2) = Int.toNat 50 := by decide +kernel
theorem al_3 : am_tsw 108 0 4 #[36, 108, 50, 76, 92] (nI 3) = Int.toNat 76 := by decide +kernel
theorem al_4 : am_tsw 108 0 4 #[36, 108, 50, 76, 92] (nI 4) = Int.toNat 92 := by decide +kernel
noncomputable def alwD (mi : Nat → Nat → Int32) (n nt w : Nat) (v : Int32) : Int32 := @ite _ (alw mi n nt w v) (Classical.propDecidable _) 1 0
theorem alwD_t {mi : Nat → Nat → Int32} {n nt w : Nat} {v : Int32} (h : alw mi n nt w v) : alwD mi n nt w v = 1 := if_pos h
theorem alwD_f {mi : Nat → Nat → Int32} {n nt w : Nat} {v : Int32} (h : ¬ alw mi n nt w v) : alwD mi n nt w v = 0 := if_neg h
theorem ct_Line_allows {n nt w : Nat} {v : Int32} (hw : w < 5) (hn : mi 1 4 = nI n) (hn5 : n ≤ 5) (hnt : mi 1 5 = nI nt) (hnt5 : nt ≤ 5) : ev E 10 (am_B 10 0) [.ref 1, .int (nI w), .int v] [] (HH mi ml) = some (some (.int (alwD mi n nt w v)), HH mi ml) := by
  rcases (show w = 0 ∨ w = 1 ∨ w = 2 ∨ w = 3 ∨ w = 4 by omega) with rfl | rfl | rfl | rfl | rfl
  · by_cases h : byd mi n nt v = true
    · rw [alwD_f (show ¬ alw mi n nt 0 v by simp [alw, h])]
      simp only [b_10_e, b_10_36, b_10_48, b_10_49, b_10_50, b_10_74, b_10_75, b_10_76, b_10_90, b_10_91, b_10_92, b_10_106, b_10_107, b_10_108, e_iload_1, e_tsw, e_aloadr_0, e_iload_2, cc_Line_isAnyBeyond_0, cc_Line_isAnyBeyond_1, cc_Line_isAnyBeyond_2, cc_Line_isAnyBeyond_3, Option.toList_some, Option.toList_none, List.cons_append, List.nil_append, e_if_ne, k_1, e_goto, k_0, e_jsr, e_zret0, e_zret1, g_128_1, k_3, il_2, il_5, il_33, il_35, il_36, il_41, il_42, il_tp, il_ta, il_sc, il_po, ik_2_0, ik_2_1, ik_2_2, ik_2_3, ik_2_4, e_icmp_gt, k_4, e_icmp_lt, k_2, eq_self, al_0, cc_Line_isAnyBeyond_0 hn hn5 hnt hnt5, h, not_true_eq_false, not_false_eq_true, if_true, if_false, true_or, or_true, false_or, or_false, true_and, and_true, false_and, and_false, and_self, or_self, reduceIte, Bool.false_eq_true, i10, i01]
    · rw [alwD_t (show alw mi n nt 0 v by simpa [alw] using h)]
      simp only [b_10_e, b_10_36, b_10_48, b_10_49, b_10_50, b_10_74, b_10_75, b_10_76, b_10_90, b_10_91, b_10_92, b_10_106, b_10_107, b_10_108, e_iload_1, e_tsw, e_aloadr_0, e_iload_2, cc_Line_isAnyBeyond_0, cc_Line_isAnyBeyond_1, cc_Line_isAnyBeyond_2, cc_Line_isAnyBeyond_3, Option.toList_some, Option.toList_none, List.cons_append, List.nil_append, e_if_ne, k_1, e_goto, k_0, e_jsr, e_zret0, e_zret1, g_128_1, k_3, il_2, il_5, il_33, il_35, il_36, il_41, il_42, il_tp, il_ta, il_sc, il_po, ik_2_0, ik_2_1, ik_2_2, ik_2_3, ik_2_4, e_icmp_gt, k_4, e_icmp_lt, k_2, eq_self, al_0, cc_Line_isAnyBeyond_0 hn hn5 hnt hnt5, h, not_true_eq_false, not_false_eq_true, if_true, if_false, true_or, or_true, false_or, or_false, true_and, and_true, false_and, and_false, and_self, or_self, reduceIte, Bool.false_eq_true, i10, i01]
  · rw [alwD_t (show alw mi n nt 1 v by simp [alw])]
    simp only [b_10_e, b_10_36, b_10_48, b_10_49, b_10_50, b_10_74, b_10_75, b_10_76, b_10_90, b_10_91, b_10_92, b_10_106, b_10_107, b_10_108, e_iload_1, e_tsw, e_aloadr_0, e_iload_2, cc_Line_isAnyBeyond_0, cc_Line_isAnyBeyond_1, cc_Line_isAnyBeyond_2, cc_Line_isAnyBeyond_3, Option.toList_some, Option.toList_none, List.cons_append, List.nil_append, e_if_ne, k_1, e_goto, k_0, e_jsr, e_zret0, e_zret1, g_128_1, k_3, il_2, il_5, il_33, il_35, il_36, il_41, il_42, il_tp, il_ta, il_sc, il_po, ik_2_0, ik_2_1, ik_2_2, ik_2_3, ik_2_4, e_icmp_gt, k_4, e_icmp_lt, k_2, eq_self, al_1, not_true_eq_false, not_false_eq_true, if_true, if_false, true_or, or_true, false_or, or_false, true_and, and_true, false_and, and_false, and_self, or_self, reduceIte, Bool.false_eq_true, i10, i01]
  · by_cases h1 : mi 2 3 < v
    · rw [alwD_f (show ¬ alw mi n nt 2 v from fun q => Int32.not_lt.mpr q.1 h1)]
      simp only [b_10_e, b_10_36, b_10_48, b_10_49, b_10_50, b_10_74, b_10_75, b_10_76, b_10_90, b_10_91, b_10_92, b_10_106, b_10_107, b_10_108, e_iload_1, e_tsw, e_aloadr_0, e_iload_2, cc_Line_isAnyBeyond_0, cc_Line_isAnyBeyond_1, cc_Line_isAnyBeyond_2, cc_Line_isAnyBeyond_3, Option.toList_some, Option.toList_none, List.cons_append, List.nil_append, e_if_ne, k_1, e_goto, k_0, e_jsr, e_zret0, e_zret1, g_128_1, k_3, il_2, il_5, il_33, il_35, il_36, il_41, il_42, il_tp, il_ta, il_sc, il_po, ik_2_0, ik_2_1, ik_2_2, ik_2_3, ik_2_4, e_icmp_gt, k_4, e_icmp_lt, k_2, eq_self, al_2, h1, not_true_eq_false, not_false_eq_true, if_true, if_false, true_or, or_true, false_or, or_false, true_and, and_true, false_and, and_false, and_self, or_self, reduceIte, Bool.false_eq_true, i10, i01]
    · by_cases h2 : v < mi 2 4
      · rw [alwD_f (show ¬ alw mi n nt 2 v from fun q => Int32.not_lt.mpr q.2 h2)]
        simp only [b_10_e, b_10_36, b_10_48, b_10_49, b_10_50, b_10_74, b_10_75, b_10_76, b_10_90, b_10_91, b_10_92, b_10_106, b_10_107, b_10_108, e_iload_1, e_tsw, e_aloadr_0, e_iload_2, cc_Line_isAnyBeyond_0, cc_Line_isAnyBeyond_1, cc_Line_isAnyBeyond_2, cc_Line_isAnyBeyond_3, Option.toList_some, Option.toList_none, List.cons_append, List.nil_append, e_if_ne, k_1, e_goto, k_0, e_jsr, e_zret0, e_zret1, g_128_1, k_3, il_2, il_5, il_33, il_35, il_36, il_41, il_42, il_tp, il_ta, il_sc, il_po, ik_2_0, ik_2_1, ik_2_2, ik_2_3, ik_2_4, e_icmp_gt, k_4, e_icmp_lt, k_2, eq_self, al_2, h1, h2, not_true_eq_false, not_false_eq_true, if_true, if_false, true_or, or_true, false_or, or_false, true_and, and_true, false_and, and_false, and_self, or_self, reduceIte, Bool.false_eq_true, i10, i01]
      · rw [alwD_t (show alw mi n nt 2 v from ⟨Int32.not_lt.mp h1, Int32.not_lt.mp h2⟩)]
        simp only [b_10_e, b_10_36, b_10_48, b_10_49, b_10_50, b_10_74, b_10_75, b_10_76, b_10_90, b_10_91, b_10_92, b_10_106, b_10_107, b_10_108, e_iload_1, e_tsw, e_aloadr_0, e_iload_2, cc_Line_isAnyBeyond_0, cc_Line_isAnyBeyond_1, cc_Line_isAnyBeyond_2, cc_Line_isAnyBeyond_3, Option.toList_some, Option.toList_none, List.cons_append, List.nil_append, e_if_ne, k_1, e_goto, k_0, e_jsr, e_zret0, e_zret1, g_128_1, k_3, il_2, il_5, il_33, il_35, il_36, il_41, il_42, il_tp, il_ta, il_sc, il_po, ik_2_0, ik_2_1, ik_2_2, ik_2_3, ik_2_4, e_icmp_gt, k_4, e_icmp_lt, k_2, eq_self, al_2, h1, h2, not_true_eq_false, not_false_eq_true, if_true, if_false, true_or, or_true, false_or, or_false, true_and, and_true, false_and, and_false, and_self, or_self, reduceIte, Bool.false_eq_true, i10, i01]
  · by_cases h1 : v < mi 2 2
    · rw [alwD_f (show ¬ alw mi n nt 3 v from fun q => Int32.not_lt.mpr q h1)]
      simp only [b_10_e, b_10_36, b_10_48, b_10_49, b_10_50, b_10_74, b_10_75, b_10_76, b_10_90, b_10_91, b_10_92, b_10_106, b_10_107, b_10_108, e_iload_1, e_tsw, e_aloadr_0, e_iload_2, cc_Line_isAnyBeyond_0, cc_Line_isAnyBeyond_1, cc_Line_isAnyBeyond_2, cc_Line_isAnyBeyond_3, Option.toList_some, Option.toList_none, List.cons_append, List.nil_append, e_if_ne, k_1, e_goto, k_0, e_jsr, e_zret0, e_zret1, g_128_1, k_3, il_2, il_5, il_33, il_35, il_36, il_41, il_42, il_tp, il_ta, il_sc, il_po, ik_2_0, ik_2_1, ik_2_2, ik_2_3, ik_2_4, e_icmp_gt, k_4, e_icmp_lt, k_2, eq_self, al_3, h1, not_true_eq_false, not_false_eq_true, if_true, if_false, true_or, or_true, false_or, or_false, true_and, and_true, false_and, and_false, and_self, or_self, reduceIte, Bool.false_eq_true, i10, i01]
    · rw [alwD_t (show alw mi n nt 3 v from Int32.not_lt.mp h1)]
      simp only [b_10_e, b_10_36, b_10_48, b_10_49, b_10_50, b_10_74, b_10_75, b_10_76, b_10_90, b_10_91, b_10_92, b_10_106, b_10_107, b_10_108, e_iload_1, e_tsw, e_aloadr_0, e_iload_2, cc_Line_isAnyBeyond_0, cc_Line_isAnyBeyond_1, cc_Line_isAnyBeyond_2, cc_Line_isAnyBeyond_3, Option.toList_some, Option.toList_none, List.cons_append, List.nil_append, e_if_ne, k_1, e_goto, k_0, e_jsr, e_zret0, e_zret1, g_128_1, k_3, il_2, il_5, il_33, il_35, il_36, il_41, il_42, il_tp, il_ta, il_sc, il_po, ik_2_0, ik_2_1, ik_2_2, ik_2_3, ik_2_4, e_icmp_gt, k_4, e_icmp_lt, k_2, eq_self, al_3, h1, not_true_eq_false, not_false_eq_true, if_true, if_false, true_or, or_true, false_or, or_false, true_and, and_true, false_and, and_false, and_self, or_self, reduceIte, Bool.false_eq_true, i10, i01]
  · by_cases h1 : mi 2 2 < v
    · rw [alwD_f (show ¬ alw mi n nt 4 v from fun q => Int32.not_lt.mpr q h1)]
      simp only [b_10_e, b_10_36, b_10_48, b_10_49, b_10_50, b_10_74, b_10_75, b_10_76, b_10_90, b_10_91, b_10_92, b_10_106, b_10_107, b_10_108, e_iload_1, e_tsw, e_aloadr_0, e_iload_2, cc_Line_isAnyBeyond_0, cc_Line_isAnyBeyond_1, cc_Line_isAnyBeyond_2, cc_Line_isAnyBeyond_3, Option.toList_some, Option.toList_none, List.cons_append, List.nil_append, e_if_ne, k_1, e_goto, k_0, e_jsr, e_zret0, e_zret1, g_128_1, k_3, il_2, il_5, il_33, il_35, il_36, il_41, il_42, il_tp, il_ta, il_sc, il_po, ik_2_0, ik_2_1, ik_2_2, ik_2_3, ik_2_4, e_icmp_gt, k_4, e_icmp_lt, k_2, eq_self, al_4, h1, not_true_eq_false, not_false_eq_true, if_true, if_false, true_or, or_true, false_or, or_false, true_and, and_true, false_and, and_false, and_self, or_self, reduceIte, Bool.false_eq_true, i10, i01]
    · rw [alwD_t (show alw mi n nt 4 v from Int32.not_lt.mp h1)]
      simp only [b_10_e, b_10_36, b_10_48, b_10_49, b_10_50, b_10_74, b_10_75, b_10_76, b_10_90, b_10_91, b_10_92, b_10_106, b_10_107, b_10_108, e_iload_1, e_tsw, e_aloadr_0, e_iload_2, cc_Line_isAnyBeyond_0, cc_Line_isAnyBeyond_1, cc_Line_isAnyBeyond_2, cc_Line_isAnyBeyond_3, Option.toList_some, Option.toList_none, List.cons_append, List.nil_append, e_if_ne, k_1, e_goto, k_0, e_jsr, e_zret0, e_zret1, g_128_1, k_3, il_2, il_5, il_33, il_35, il_36, il_41, il_42, il_tp, il_ta, il_sc, il_po, ik_2_0, ik_2_1, ik_2_2, ik_2_3, ik_2_4, e_icmp_gt, k_4, e_icmp_lt, k_2, eq_self, al_4, h1, not_true_eq_false, not_false_eq_true, if_true, if_false, true_or, or_true, false_or, or_false, true_and, and_true, false_and, and_false, and_self, or_self, reduceIte, Bool.false_eq_true, i10, i01]
theorem cc_Line_allows_0 {M : Nat} {c : List Instr} {L : List Value} {n nt w : Nat} {v : Int32} (hw : w < 5) (hn : mi 1 4 = nI n) (hn5 : n ≤ 5) (hnt : mi 1 5 = nI nt) (hnt5 : nt ≤ 5) : ev E M (.invokevirtual 10 :: c) L (.int v :: .int (nI w) :: .ref 1 :: []) (HH mi ml) = ev E M c L (.int (alwD mi n nt w v) :: []) (HH mi ml) := e_inv (as := [.ref 1, .int (nI w), .int v]) (S := []) rfl rfl (Nat.le_of_ble_eq_true rfl) (rfl) (ct_Line_allows hw hn hn5 hnt hnt5)
theorem cc_Line_allows_1 {M : Nat} {c : List Instr} {L : List Value} {s0 : Value} {n nt w : Nat} {v : Int32} (hw : w < 5) (hn : mi 1 4 = nI n) (hn5 : n ≤ 5) (hnt : mi 1 5 = nI nt) (hnt5 : nt ≤ 5) : ev E M (.invokevirtual 10 :: c) L (.int v :: .int (nI w) :: .ref 1 :: [s0]) (HH mi ml) = ev E M c L (.int (alwD mi n nt w v) :: [s0]) (HH mi ml) := e_inv (as := [.ref 1, .int (nI w), .int v]) (S := [s0]) rfl rfl (Nat.le_of_ble_eq_true rfl) (rfl) (ct_Line_allows hw hn hn5 hnt hnt5)
theorem cc_Line_allows_2 {M : Nat} {c : List Instr} {L : List Value} {s0 s1 : Value} {n nt w : Nat} {v : Int32} (hw : w < 5) (hn : mi 1 4 = nI n) (hn5 : n ≤ 5) (hnt : mi 1 5 = nI nt) (hnt5 : nt ≤ 5) : ev E M (.invokevirtual 10 :: c) L (.int v :: .int (nI w) :: .ref 1 :: [s0, s1]) (HH mi ml) = ev E M c L (.int (alwD mi n nt w v) :: [s0, s1]) (HH mi ml) := e_inv (as := [.ref 1, .int (nI w), .int v]) (S := [s0, s1]) rfl rfl (Nat.le_of_ble_eq_true rfl) (rfl) (ct_Line_allows hw hn hn5 hnt hnt5)
theorem cc_Line_allows_3 {M : Nat} {c : List Instr} {L : List Value} {s0 s1 s2 : Value} {n nt w : Nat} {v : Int32} (hw : w < 5) (hn : mi 1 4 = nI n) (hn5 : n ≤ 5) (hnt : mi 1 5 = nI nt) (hnt5 : nt ≤ 5) : ev E M (.invokevirtual 10 :: c) L (.int v :: .int (nI w) :: .ref 1 :: [s0, s1, s2]) (HH mi ml) = ev E M c L (.int (alwD mi n nt w v) :: [s0, s1, s2]) (HH mi ml) := e_inv (as := [.ref 1, .int (nI w), .int v]) (S := [s0, s1, s2]) rfl rfl (Nat.le_of_ble_eq_true rfl) (rfl) (ct_Line_allows hw hn hn5 hnt hnt5)
def fgt (mi : Nat → Nat → Int32) : Nat → Nat → Int32 := am_up (am_up (am_up mi 26 8 0) 45 2 0) 48 2 0
theorem le2 {i : Nat} (h : i < 2) : ((2 : Int32) ≤ nI i) = False := by
  have : ¬ nI 2 ≤ nI i := fun q => by have := (nI_leI (by decide) (by omega)).mp q; omega
  exact eq_false this
theorem le22 : ((2 : Int32) ≤ nI 2) = True := by decide +kernel
theorem ct_Day_forget   : ev E 12 (am_B 12 0) [.ref 26, am_dm] [] (HH mi ml) = some (none, HH (fgt mi) ml) := by
  simp only [b_12_e, b_12_28, e_aloadr_0, k_0, p_72_26, e_istore_1, e_kpi, e_kpr, e_kpl, e_kpd, e_jsr, e_iload_1, k_2, e_icmp_ge, g_69_26, il_3, il_4, il_29, il_51, p_194_45, p_194_48, ps_f194, e_iinc_1, e_goto, e_ret, eq_self, true_or]
  refine hd b_12_7 ?_
  rw [k0nI]
  simp only [b_12_e, b_12_28, e_aloadr_0, k_0, p_72_26, e_istore_1, e_kpi, e_kpr, e_kpl, e_kpd, e_jsr, e_iload_1, k_2, e_icmp_ge, g_69_26, il_3, il_4, il_29, il_51, p_194_45, p_194_48, ps_f194, e_iinc_1, e_goto, e_ret, eq_self, le2 (show 0 < 2 by decide), show (0 : Nat) < 2 by decide, not_true_eq_false, not_false_eq_true, if_true, if_false, true_or, or_true, false_or, or_false, true_and, and_true, false_and, and_false, and_self, or_self, reduceIte, Bool.false_eq_true, i10, i01, e_inc1]
  refine hd b_12_7 ?_
  simp only [b_12_e, b_12_28, e_aloadr_0, k_0, p_72_26, e_istore_1, e_kpi, e_kpr, e_kpl, e_kpd, e_jsr, e_iload_1, k_2, e_icmp_ge, g_69_26, il_3, il_4, il_29, il_51, p_194_45, p_194_48, ps_f194, e_iinc_1, e_goto, e_ret, eq_self, le2 (show 0 + 1 < 2 by decide), show (0 : Nat) + 1 < 2 by decide, not_true_eq_false, not_false_eq_true, if_true, if_false, true_or, or_true, false_or, or_false, true_and, and_true, false_and, and_false, and_self, or_self, reduceIte, Bool.false_eq_true, i10, i01, e_inc1]
  refine hd b_12_7 ?_
  simp only [b_12_e, b_12_28, e_aloadr_0, k_0, p_72_26, e_istore_1, e_kpi, e_kpr, e_kpl, e_kpd, e_jsr, e_iload_1, k_2, e_icmp_ge, g_69_26, il_3, il_4, il_29, il_51, p_194_45, p_194_48, ps_f194, e_iinc_1, e_goto, e_ret, eq_self, show ((2 : Int32) ≤ nI (0 + 1 + 1)) = True from le22, not_true_eq_false, not_false_eq_true, if_true, if_false, true_or, or_true, false_or, or_false, true_and, and_true, false_and, and_false, and_self, or_self, reduceIte, Bool.false_eq_true, i10, i01]
  rfl
theorem cc_Day_forget_0 {M : Nat} {c : List Instr} {L : List Value}   : ev E M (.invokevirtual 12 :: c) L (.ref 26 :: []) (HH mi ml) = ev E M c L [] (HH (fgt mi) ml) := e_inv (as := [.ref 26]) (S := []) rfl rfl (Nat.le_of_ble_eq_true rfl) (rfl) (ct_Day_forget )
theorem cc_Day_forget_1 {M : Nat} {c : List Instr} {L : List Value} {s0 : Value}   : ev E M (.invokevirtual 12 :: c) L (.ref 26 :: [s0]) (HH mi ml) = ev E M c L [s0] (HH (fgt mi) ml) := e_inv (as := [.ref 26]) (S := [s0]) rfl rfl (Nat.le_of_ble_eq_true rfl) (rfl) (ct_Day_forget )
theorem cc_Day_forget_2 {M : Nat} {c : List Instr} {L : List Value} {s0 s1 : Value}   : ev E M (.invokevirtual 12 :: c) L (.ref 26 :: [s0, s1]) (HH mi ml) = ev E M c L [s0, s1] (HH (fgt mi) ml) := e_inv (as := [.ref 26]) (S := [s0, s1]) rfl rfl (Nat.le_of_ble_eq_true rfl) (rfl) (ct_Day_forget )
theorem cc_Day_forget_3 {M : Nat} {c : List Instr} {L : List Value} {s0 s1 s2 : Value}   : ev E M (.invokevirtual 12 :: c) L (.ref 26 :: [s0, s1, s2]) (HH mi ml) = ev E M c L [s0, s1, s2] (HH (fgt mi) ml) := e_inv (as := [.ref 26]) (S := [s0, s1, s2]) rfl rfl (Nat.le_of_ble_eq_true rfl) (rfl) (ct_Day_forget )
end Ln
