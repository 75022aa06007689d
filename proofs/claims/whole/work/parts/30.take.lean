/-! STATIONS AND LOADS ARE TAKEN -/
def ipos (mi : Nat → Nat → Int32) (x : Int32) : Nat → Nat
  | 0 => 0
  | j + 1 => if x < mi 36 j then ipos mi x j else j + 1
theorem ipos_le {mi : Nat → Nat → Int32} {x : Int32} : ∀ {j : Nat}, ipos mi x j ≤ j := by
  intro j
  induction j with
  | zero => exact Nat.le_refl _
  | succ j ih => rw [ipos]; split <;> omega
def shf (mi : Nat → Nat → Int32) (m j : Nat) : Nat → Nat → Int32 := fun a b => if (a = 36 ∨ a = 35) ∧ j < b ∧ b ≤ m then mi a (b - 1) else mi a b
/-- a station put in, in the order of places -/
def ads (mi : Nat → Nat → Int32) (m : Nat) (s x : Int32) : Nat → Nat → Int32 := am_up (am_up (am_up (shf mi m (ipos mi x m)) 36 (ipos mi x m) x) 35 (ipos mi x m) s) 34 5 (nI (m + 1))
theorem ads_ne {mi : Nat → Nat → Int32} {m a b : Nat} {s x : Int32} (h1 : ¬ a = 34) (h2 : ¬ a = 35) (h3 : ¬ a = 36) : ads mi m s x a b = mi a b := by
  unfold ads
  rw [am_upa, if_neg (fun q => h1 q.1), am_upa, if_neg (fun q => h2 q.1), am_upa, if_neg (fun q => h3 q.1)]
  unfold shf
  rw [if_neg (fun q => by rcases q.1 with e | e <;> contradiction)]
theorem nI_sub1 {j : Nat} : nI (j + 1) - 1 = nI j := nI_pred j
theorem le0s {j : Nat} (h : j < 1000) : (nI (j + 1) ≤ (0 : Int32)) = False := eq_false (nI_nle (by omega) (by omega))
theorem le00 : (nI 0 ≤ (0 : Int32)) = True := by decide +kernel
theorem lt5 {m : Nat} (h : m < 5) : (nI m < (5 : Int32)) = True := eq_true ((nI_ltI (b := 5) (by omega) (by decide)).mpr h)
def oF (mi : Nat → Nat → Int32) (k n : Nat) : Nat := (mi k n).toNatClampNeg
def ldH (mi : Nat → Nat → Int32) (k t n : Nat) : Bool := decide (oF mi k n ≤ t ∧ ¬ tP mi n (t - oF mi k n) = -1)
def tkl (mi : Nat → Nat → Int32) (k t : Nat) : Nat → Nat → Nat → Int32
  | 0 => clr2 mi 5
  | i + 1 => if ldH mi k t i = true then am_up (am_up (am_up (tkl mi k t i) 40 i 1) 41 i (tP mi i (t - oF mi k i))) 42 i (tA mi i (t - oF mi k i)) else tkl mi k t i
theorem tkl_ne {mi : Nat → Nat → Int32} {k t a b : Nat} (h1 : ¬ a = 40) (h2 : ¬ a = 41) (h3 : ¬ a = 42) : ∀ i, tkl mi k t i a b = mi a b := by
  intro i
  induction i with
  | zero => unfold tkl clr2; rw [if_neg (fun q => by rcases q.1 with e | e <;> contradiction)]
  | succ i ih =>
    rw [tkl]
    split
    · rw [am_upa, if_neg (fun q => h3 q.1), am_upa, if_neg (fun q => h2 q.1), am_upa, if_neg (fun q => h1 q.1), ih]
    · exact ih
/-- stations that are taken -/
def tkS (mi : Nat → Nat → Int32) (w : Int32) (s : Nat) : Bool := decide (sI mi s = true ∧ ¬ nI s = w)
def tks (mi : Nat → Nat → Int32) (w : Int32) : Nat → Nat → Nat → Int32
  | 0 => am_up mi 34 5 0
  | i + 1 => if tkS mi w i = true then ads (tks mi w i) (cntB (tkS mi w) i) (nI i) (sP mi i) else tks mi w i
theorem tks_ne {mi : Nat → Nat → Int32} {w : Int32} {a b : Nat} (h1 : ¬ a = 34) (h2 : ¬ a = 35) (h3 : ¬ a = 36) : ∀ i, tks mi w i a b = mi a b := by
  intro i
  induction i with
  | zero => unfold tks; rw [am_upa, if_neg (fun q => h1 q.1)]
  | succ i ih =>
    rw [tks]
    split
    · rw [ads_ne h1 h2 h3, ih]
    · exact ih
theorem tks_cnt {mi : Nat → Nat → Int32} {w : Int32} : ∀ i, tks mi w i 34 5 = nI (cntB (tkS mi w) i) := by
  intro i
  induction i with
  | zero => unfold tks; rw [am_upa, if_pos ⟨rfl, rfl⟩]; rfl
  | succ i ih =>
    rw [tks, cntB]
    split
    · unfold ads; rw [am_upa, if_pos ⟨rfl, rfl⟩]
    · exact ih
theorem nI_subN {a b : Nat} (h : b ≤ a) : nI a - nI b = nI (a - b) := by
  obtain ⟨d, rfl⟩ : ∃ d, a = b + d := ⟨a - b, by omega⟩
  rw [← nI_add, Nat.add_sub_cancel_left, Int32.add_comm]
  rw [Int32.add_sub_cancel]
theorem nI_subL {a b : Nat} (ha : a < 1000) (hb : b < 1000) (h : a < b) : ¬ (0 : Int32) ≤ nI a - nI b := by
  rw [Int32.le_iff_toInt_le, Int32.toInt_sub, nI_toInt (by omega), nI_toInt (by omega), Int.bmod_eq_of_le (by omega) (by omega)]
  have : (0 : Int32).toInt = 0 := rfl
  omega
section Tk
variable {E : aE} {mi : Nat → Nat → Int32} {ml : Nat → Nat → Int64}
theorem ct_Circuit_addStation {m : Nat} {s x : Int32} (hm : mi 34 5 = nI m) (hm5 : m < 5) : ev E 41 (am_B 41 0) [.ref 34, .int s, .int x, am_dm] [] (HH mi ml) = some (none, HH (ads mi m s x) ml) := by
  simp only [b_41_e, b_41_9, b_41_64, e_aloadr_0, g_5_34, k_5, e_icmp_lt, e_ret, e_istore_3, e_kpi, e_kpr, e_kpl, e_kpd, e_jsr, e_iload_3, e_if_le, g_1_34, k_1, e_isub, il_2, il_5, il_33, il_35, il_36, il_41, il_42, il_tp, il_ta, il_sc, il_po, ik_2_0, ik_2_1, ik_2_2, ik_2_3, ik_2_4, e_iload_2, e_icmp_le, is_2, is_5, is_33, is_35, is_36, is_41, is_42, is_tp, is_ta, is_sc, is_po, g_0_34, e_iinc_3, e_goto, e_iload_1, e_dupr, e_dupi, e_iadd, p_5_34, eq_self, hm, lt5 hm5, not_true_eq_false, not_false_eq_true, if_true, if_false, true_or, or_true, false_or, or_false, true_and, and_true, false_and, and_false, and_self, or_self, reduceIte, Bool.false_eq_true, i10, i01]
  have hl : ∀ j, j ≤ m → ipos mi x j = ipos mi x m → ev E 41 (am_B 41 (Int.toNat 14)) [.ref 34, .int s, .int x, .int (nI j)] [] (HH (shf mi m j) ml) = some (none, HH (ads mi m s x) ml) := by
    intro j
    induction j with
    | zero =>
      intro hj hp
      have hp0 : ipos mi x m = 0 := hp.symm
      refine hd b_41_14 ?_
      have hc : am_up (am_up (shf mi m 0) 36 0 x) 35 0 s 34 5 = nI m := by rw [am_upa, if_neg (by decide), am_upa, if_neg (by decide), ← hm]; simp [shf]
      simp only [b_41_e, b_41_9, b_41_64, e_aloadr_0, g_5_34, k_5, e_icmp_lt, e_ret, e_istore_3, e_kpi, e_kpr, e_kpl, e_kpd, e_jsr, e_iload_3, e_if_le, g_1_34, k_1, e_isub, il_2, il_5, il_33, il_35, il_36, il_41, il_42, il_tp, il_ta, il_sc, il_po, ik_2_0, ik_2_1, ik_2_2, ik_2_3, ik_2_4, e_iload_2, e_icmp_le, is_2, is_5, is_33, is_35, is_36, is_41, is_42, is_tp, is_ta, is_sc, is_po, g_0_34, e_iinc_3, e_goto, e_iload_1, e_dupr, e_dupi, e_iadd, p_5_34, eq_self, le00, show (0 : Nat) < 5 by decide, not_true_eq_false, not_false_eq_true, if_true, if_false, true_or, or_true, false_or, or_false, true_and, and_true, false_and, and_false, and_self, or_self, reduceIte, Bool.false_eq_true, i10, i01, hc, nI_1]
      unfold ads
      rw [hp0]
    | succ j ih =>
      intro hj hp
      refine hd b_41_14 ?_
      have hj5 : j < 5 := by omega
      have hj15 : j + 1 < 5 := by omega
      have a1 : shf mi m (j + 1) 36 j = mi 36 j := by unfold shf; rw [if_neg (by omega)]
      rw [ipos] at hp
      by_cases h1 : x < mi 36 j
      · rw [if_pos h1] at hp
        have hnl : ¬ mi 36 j ≤ x := Int32.not_le.mpr h1
        have e1 : am_up (am_up (shf mi m (j + 1)) 36 (j + 1) (mi 36 j)) 35 (j + 1) (mi 35 j) = shf mi m j := by
          funext a b
          simp only [am_upa, shf]
          by_cases hb : b = j + 1
          · subst hb
            by_cases ha : a = 35
            · subst ha; simp; omega
            · by_cases ha2 : a = 36
              · subst ha2; simp; omega
              · simp [ha, ha2]
          · have : (j + 1 < b) = (j < b) := propext ⟨fun q => by omega, fun q => by omega⟩
            simp only [this, hb, and_false, if_false]
        have a2 : am_up (shf mi m (j + 1)) 36 (j + 1) (mi 36 j) 35 j = mi 35 j := by rw [am_upa, if_neg (by omega)]; unfold shf; rw [if_neg (by omega)]
        simp only [b_41_e, b_41_9, b_41_64, e_aloadr_0, g_5_34, k_5, e_icmp_lt, e_ret, e_istore_3, e_kpi, e_kpr, e_kpl, e_kpd, e_jsr, e_iload_3, e_if_le, g_1_34, k_1, e_isub, il_2, il_5, il_33, il_35, il_36, il_41, il_42, il_tp, il_ta, il_sc, il_po, ik_2_0, ik_2_1, ik_2_2, ik_2_3, ik_2_4, e_iload_2, e_icmp_le, is_2, is_5, is_33, is_35, is_36, is_41, is_42, is_tp, is_ta, is_sc, is_po, g_0_34, e_iinc_3, e_goto, e_iload_1, e_dupr, e_dupi, e_iadd, p_5_34, eq_self, le0s (show j < 1000 by omega), nI_sub1, hj5, hj15, a1, a2, hnl, e_dec1, e1, not_true_eq_false, not_false_eq_true, if_true, if_false, true_or, or_true, false_or, or_false, true_and, and_true, false_and, and_false, and_self, or_self, reduceIte, Bool.false_eq_true, i10, i01]
        exact ih (by omega) hp
      · rw [if_neg h1] at hp
        have hle : mi 36 j ≤ x := Int32.not_lt.mp h1
        have hc : am_up (am_up (shf mi m (j + 1)) 36 (j + 1) x) 35 (j + 1) s 34 5 = nI m := by rw [am_upa, if_neg (by omega), am_upa, if_neg (by omega), ← hm]; simp [shf]
        simp only [b_41_e, b_41_9, b_41_64, e_aloadr_0, g_5_34, k_5, e_icmp_lt, e_ret, e_istore_3, e_kpi, e_kpr, e_kpl, e_kpd, e_jsr, e_iload_3, e_if_le, g_1_34, k_1, e_isub, il_2, il_5, il_33, il_35, il_36, il_41, il_42, il_tp, il_ta, il_sc, il_po, ik_2_0, ik_2_1, ik_2_2, ik_2_3, ik_2_4, e_iload_2, e_icmp_le, is_2, is_5, is_33, is_35, is_36, is_41, is_42, is_tp, is_ta, is_sc, is_po, g_0_34, e_iinc_3, e_goto, e_iload_1, e_dupr, e_dupi, e_iadd, p_5_34, eq_self, le0s (show j < 1000 by omega), nI_sub1, hj5, hj15, a1, hle, not_true_eq_false, not_false_eq_true, if_true, if_false, true_or, or_true, false_or, or_false, true_and, and_true, false_and, and_false, and_self, or_self, reduceIte, Bool.false_eq_true, i10, i01, hc, nI_1]
        unfold ads
        rw [← hp]
  have h0 : shf mi m m = mi := by
    funext a b
    unfold shf
    rw [if_neg (by omega)]
  have := hl m (Nat.le_refl _) rfl
  rw [h0] at this
  exact this
theorem cc_Circuit_addStation_0 {M : Nat} {c : List Instr} {L : List Value} {m : Nat} {s x : Int32} (hm : mi 34 5 = nI m) (hm5 : m < 5) : ev E M (.invokevirtual 41 :: c) L (.int x :: .int s :: .ref 34 :: []) (HH mi ml) = ev E M c L [] (HH (ads mi m s x) ml) := e_inv (as := [.ref 34, .int s, .int x]) (S := []) rfl rfl (Nat.le_of_ble_eq_true rfl) (rfl) (ct_Circuit_addStation hm hm5)
theorem cc_Circuit_addStation_1 {M : Nat} {c : List Instr} {L : List Value} {s0 : Value} {m : Nat} {s x : Int32} (hm : mi 34 5 = nI m) (hm5 : m < 5) : ev E M (.invokevirtual 41 :: c) L (.int x :: .int s :: .ref 34 :: [s0]) (HH mi ml) = ev E M c L [s0] (HH (ads mi m s x) ml) := e_inv (as := [.ref 34, .int s, .int x]) (S := [s0]) rfl rfl (Nat.le_of_ble_eq_true rfl) (rfl) (ct_Circuit_addStation hm hm5)
theorem cc_Circuit_addStation_2 {M : Nat} {c : List Instr} {L : List Value} {s0 s1 : Value} {m : Nat} {s x : Int32} (hm : mi 34 5 = nI m) (hm5 : m < 5) : ev E M (.invokevirtual 41 :: c) L (.int x :: .int s :: .ref 34 :: [s0, s1]) (HH mi ml) = ev E M c L [s0, s1] (HH (ads mi m s x) ml) := e_inv (as := [.ref 34, .int s, .int x]) (S := [s0, s1]) rfl rfl (Nat.le_of_ble_eq_true rfl) (rfl) (ct_Circuit_addStation hm hm5)
theorem cc_Circuit_addStation_3 {M : Nat} {c : List Instr} {L : List Value} {s0 s1 s2 : Value} {m : Nat} {s x : Int32} (hm : mi 34 5 = nI m) (hm5 : m < 5) : ev E M (.invokevirtual 41 :: c) L (.int x :: .int s :: .ref 34 :: [s0, s1, s2]) (HH mi ml) = ev E M c L [s0, s1, s2] (HH (ads mi m s x) ml) := e_inv (as := [.ref 34, .int s, .int x]) (S := [s0, s1, s2]) rfl rfl (Nat.le_of_ble_eq_true rfl) (rfl) (ct_Circuit_addStation hm hm5)
theorem ct_Day_takeStations {n : Nat} {w : Int32} (hn : mi 1 4 = nI n) (hn5 : n ≤ 5) : ev E 39 (am_B 39 0) [.ref 26, .int w, am_dm] [] (HH mi ml) = some (none, HH (tks mi w n) ml) := by
  simp only [b_39_e, b_39_60, b_39_66, e_aloadr_0, g_64_26, cc_Circuit_clearStations_0, cc_Circuit_clearStations_1, cc_Circuit_clearStations_2, cc_Circuit_clearStations_3, Option.toList_some, Option.toList_none, List.cons_append, List.nil_append, k_0, e_istore_2, e_kpi, e_kpr, e_kpl, e_kpd, e_jsr, e_iload_2, g_73_26, g_132_1, e_icmp_ge, g_129_1, il_3, il_4, il_29, il_51, g_386_6, g_386_7, g_386_8, g_386_9, g_386_10, gs_f386, e_if_eq, e_iload_1, e_icmp_eq, g_385_6, g_385_7, g_385_8, g_385_9, g_385_10, gs_f385, cc_Circuit_addStation_0, cc_Circuit_addStation_1, cc_Circuit_addStation_2, cc_Circuit_addStation_3, e_iinc_2, e_goto, e_ret, eq_self]
  have hl := loop_up (fun i => ev E 39 (am_B 39 (Int.toNat 9)) [.ref 26, .int w, .int (nI i)] [] (HH (tks mi w i) ml)) 0 n (fun i _ hi => by
    refine hd b_39_9 ?_
    have hi5 : i < 5 := by omega
    have a1 : tks mi w i 1 4 = nI n := by rw [tks_ne (by decide) (by decide) (by decide), hn]
    have a2 : tks mi w i (6 + i) 2 = mi (6 + i) 2 := tks_ne (by omega) (by omega) (by omega) i
    have a3 : tks mi w i (6 + i) 1 = sP mi i := tks_ne (by omega) (by omega) (by omega) i
    have hcl := cntB_le (f := tkS mi w) (n := i)
    rw [tks]
    by_cases h1 : mi (6 + i) 2 = 0
    · have hc : tkS mi w i = false := by simp [tkS, sI, h1]
      simp only [b_39_e, b_39_60, b_39_66, e_aloadr_0, g_64_26, cc_Circuit_clearStations_0, cc_Circuit_clearStations_1, cc_Circuit_clearStations_2, cc_Circuit_clearStations_3, Option.toList_some, Option.toList_none, List.cons_append, List.nil_append, k_0, e_istore_2, e_kpi, e_kpr, e_kpl, e_kpd, e_jsr, e_iload_2, g_73_26, g_132_1, e_icmp_ge, g_129_1, il_3, il_4, il_29, il_51, g_386_6, g_386_7, g_386_8, g_386_9, g_386_10, gs_f386, e_if_eq, e_iload_1, e_icmp_eq, g_385_6, g_385_7, g_385_8, g_385_9, g_385_10, gs_f385, cc_Circuit_addStation_0, cc_Circuit_addStation_1, cc_Circuit_addStation_2, cc_Circuit_addStation_3, e_iinc_2, e_goto, e_ret, eq_self, a1, a2, lec (show n < 1000 by omega) hi, hi5, h1, hc, not_true_eq_false, not_false_eq_true, if_true, if_false, true_or, or_true, false_or, or_false, true_and, and_true, false_and, and_false, and_self, or_self, reduceIte, Bool.false_eq_true, i10, i01, e_inc1]
    · by_cases h2 : nI i = w
      · have hc : tkS mi w i = false := by simp [tkS, h2]
        simp only [b_39_e, b_39_60, b_39_66, e_aloadr_0, g_64_26, cc_Circuit_clearStations_0, cc_Circuit_clearStations_1, cc_Circuit_clearStations_2, cc_Circuit_clearStations_3, Option.toList_some, Option.toList_none, List.cons_append, List.nil_append, k_0, e_istore_2, e_kpi, e_kpr, e_kpl, e_kpd, e_jsr, e_iload_2, g_73_26, g_132_1, e_icmp_ge, g_129_1, il_3, il_4, il_29, il_51, g_386_6, g_386_7, g_386_8, g_386_9, g_386_10, gs_f386, e_if_eq, e_iload_1, e_icmp_eq, g_385_6, g_385_7, g_385_8, g_385_9, g_385_10, gs_f385, cc_Circuit_addStation_0, cc_Circuit_addStation_1, cc_Circuit_addStation_2, cc_Circuit_addStation_3, e_iinc_2, e_goto, e_ret, eq_self, a1, a2, lec (show n < 1000 by omega) hi, hi5, h1, eq_true h2, hc, not_true_eq_false, not_false_eq_true, if_true, if_false, true_or, or_true, false_or, or_false, true_and, and_true, false_and, and_false, and_self, or_self, reduceIte, Bool.false_eq_true, i10, i01, e_inc1]
      · have hc : tkS mi w i = true := by simp [tkS, sI, h1, h2]
        simp only [b_39_e, b_39_60, b_39_66, e_aloadr_0, g_64_26, cc_Circuit_clearStations_0, cc_Circuit_clearStations_1, cc_Circuit_clearStations_2, cc_Circuit_clearStations_3, Option.toList_some, Option.toList_none, List.cons_append, List.nil_append, k_0, e_istore_2, e_kpi, e_kpr, e_kpl, e_kpd, e_jsr, e_iload_2, g_73_26, g_132_1, e_icmp_ge, g_129_1, il_3, il_4, il_29, il_51, g_386_6, g_386_7, g_386_8, g_386_9, g_386_10, gs_f386, e_if_eq, e_iload_1, e_icmp_eq, g_385_6, g_385_7, g_385_8, g_385_9, g_385_10, gs_f385, cc_Circuit_addStation_0, cc_Circuit_addStation_1, cc_Circuit_addStation_2, cc_Circuit_addStation_3, e_iinc_2, e_goto, e_ret, eq_self, a1, a2, a3, lec (show n < 1000 by omega) hi, hi5, h1, h2, hc, cc_Circuit_addStation_0 (tks_cnt i) (show cntB (tkS mi w) i < 5 by omega), not_true_eq_false, not_false_eq_true, if_true, if_false, true_or, or_true, false_or, or_false, true_and, and_true, false_and, and_false, and_self, or_self, reduceIte, Bool.false_eq_true, i10, i01, e_inc1]) (by omega)
  refine Eq.trans (show _ = _ from hl) ?_
  have a1 : tks mi w n 1 4 = nI n := by rw [tks_ne (by decide) (by decide) (by decide), hn]
  simp only [b_39_9, b_39_e, b_39_60, b_39_66, e_aloadr_0, g_64_26, cc_Circuit_clearStations_0, cc_Circuit_clearStations_1, cc_Circuit_clearStations_2, cc_Circuit_clearStations_3, Option.toList_some, Option.toList_none, List.cons_append, List.nil_append, k_0, e_istore_2, e_kpi, e_kpr, e_kpl, e_kpd, e_jsr, e_iload_2, g_73_26, g_132_1, e_icmp_ge, g_129_1, il_3, il_4, il_29, il_51, g_386_6, g_386_7, g_386_8, g_386_9, g_386_10, gs_f386, e_if_eq, e_iload_1, e_icmp_eq, g_385_6, g_385_7, g_385_8, g_385_9, g_385_10, gs_f385, cc_Circuit_addStation_0, cc_Circuit_addStation_1, cc_Circuit_addStation_2, cc_Circuit_addStation_3, e_iinc_2, e_goto, e_ret, eq_self, a1, lecc, not_true_eq_false, not_false_eq_true, if_true, if_false, true_or, or_true, false_or, or_false, true_and, and_true, false_and, and_false, and_self, or_self, reduceIte, Bool.false_eq_true, i10, i01]
theorem cc_Day_takeStations_0 {M : Nat} {c : List Instr} {L : List Value} {n : Nat} {w : Int32} (hn : mi 1 4 = nI n) (hn5 : n ≤ 5) : ev E M (.invokevirtual 39 :: c) L (.int w :: .ref 26 :: []) (HH mi ml) = ev E M c L [] (HH (tks mi w n) ml) := e_inv (as := [.ref 26, .int w]) (S := []) rfl rfl (Nat.le_of_ble_eq_true rfl) (rfl) (ct_Day_takeStations hn hn5)
theorem cc_Day_takeStations_1 {M : Nat} {c : List Instr} {L : List Value} {s0 : Value} {n : Nat} {w : Int32} (hn : mi 1 4 = nI n) (hn5 : n ≤ 5) : ev E M (.invokevirtual 39 :: c) L (.int w :: .ref 26 :: [s0]) (HH mi ml) = ev E M c L [s0] (HH (tks mi w n) ml) := e_inv (as := [.ref 26, .int w]) (S := [s0]) rfl rfl (Nat.le_of_ble_eq_true rfl) (rfl) (ct_Day_takeStations hn hn5)
theorem cc_Day_takeStations_2 {M : Nat} {c : List Instr} {L : List Value} {s0 s1 : Value} {n : Nat} {w : Int32} (hn : mi 1 4 = nI n) (hn5 : n ≤ 5) : ev E M (.invokevirtual 39 :: c) L (.int w :: .ref 26 :: [s0, s1]) (HH mi ml) = ev E M c L [s0, s1] (HH (tks mi w n) ml) := e_inv (as := [.ref 26, .int w]) (S := [s0, s1]) rfl rfl (Nat.le_of_ble_eq_true rfl) (rfl) (ct_Day_takeStations hn hn5)
theorem cc_Day_takeStations_3 {M : Nat} {c : List Instr} {L : List Value} {s0 s1 s2 : Value} {n : Nat} {w : Int32} (hn : mi 1 4 = nI n) (hn5 : n ≤ 5) : ev E M (.invokevirtual 39 :: c) L (.int w :: .ref 26 :: [s0, s1, s2]) (HH mi ml) = ev E M c L [s0, s1, s2] (HH (tks mi w n) ml) := e_inv (as := [.ref 26, .int w]) (S := [s0, s1, s2]) rfl rfl (Nat.le_of_ble_eq_true rfl) (rfl) (ct_Day_takeStations hn hn5)
theorem ct_Day_takeLoads {k nt t : Nat} (hk : k = 5 ∨ k = 33) (ht : t < 24) (hnt : mi 1 5 = nI nt) (hnt5 : nt ≤ 5) (ho : ∀ n, n < nt → mi k n = nI (oF mi k n) ∧ oF mi k n ≤ 5) : ev E 42 (am_B 42 0) [.ref 26, .int (nI t), .ref k, am_dm, am_dm, am_dm] [] (HH mi ml) = some (some (.int (if anyB (ldH mi k t) nt = true then 1 else 0)), HH (tkl mi k t nt) ml) := by
  have hka : ¬ k = 40 ∧ ¬ k = 41 ∧ ¬ k = 42 := by omega
  simp only [b_42_e, b_42_103, b_42_109, k_0, e_istore_3, e_kpi, e_kpr, e_kpl, e_kpd, e_aloadr_0, g_64_26, cc_Circuit_clearLoads_0, cc_Circuit_clearLoads_1, cc_Circuit_clearLoads_2, cc_Circuit_clearLoads_3, Option.toList_some, Option.toList_none, List.cons_append, List.nil_append, e_istore_4, e_jsr, e_iload_4, g_73_26, g_133_1, e_icmp_ge, e_iload_1, e_aloadr_2, il_2, il_5, il_33, il_35, il_36, il_41, il_42, il_tp, il_ta, il_sc, il_po, ik_2_0, ik_2_1, ik_2_2, ik_2_3, ik_2_4, e_isub, e_istore_5, e_iload_5, cc_X_isTick_0, cc_X_isTick_1, cc_X_isTick_2, cc_X_isTick_3, e_if_eq, g_130_1, il_3, il_4, il_29, il_51, g_448_11, g_448_14, g_448_17, g_448_20, g_448_23, gs_f448, k_m1, e_icmp_eq, g_449_11, g_449_14, g_449_17, g_449_20, g_449_23, gs_f449, cc_Circuit_addLoad_0, cc_Circuit_addLoad_1, cc_Circuit_addLoad_2, cc_Circuit_addLoad_3, k_1, e_iinc_4, e_goto, e_iload_3, e_zret0, e_zret1, eq_self]
  obtain ⟨v', hl⟩ := loop_upj (fun i v => ev E 42 (am_B 42 (Int.toNat 12)) [.ref 26, .int (nI t), .ref k, .int (if anyB (ldH mi k t) i = true then 1 else 0), .int (nI i), v] [] (HH (tkl mi k t i) ml)) 0 nt (fun i v _ hi => by
    refine ⟨.int (nI t - mi k i), hd b_42_12 ?_⟩
    have hi5 : i < 5 := by omega
    obtain ⟨ho1, ho2⟩ := ho i hi
    have a1 : tkl mi k t i 1 5 = nI nt := by rw [tkl_ne (by decide) (by decide) (by decide), hnt]
    have a2 : tkl mi k t i k i = mi k i := tkl_ne hka.1 hka.2.1 hka.2.2 i
    rw [tkl, anyB]
    have hrow : ev E 42 [.iaload, .isub, .istore 5, .iload 5, .invokevirtual 23, .ifCond .eq 103, .aload 0, .getfield 73, .getfield 130, .iload 4, .aaload, .getfield 448, .iload 5, .iaload, .bipush (-1), .if_icmp .eq 103, .aload 0, .getfield 64, .iload 4, .aload 0, .getfield 73, .getfield 130, .iload 4, .aaload, .getfield 448, .iload 5, .iaload, .aload 0, .getfield 73, .getfield 130, .iload 4, .aaload, .getfield 449, .iload 5, .iaload, .invokevirtual 44, .bipush 1, .istore 3, .jsr 103] [.ref 26, .int (nI t), .ref k, .int (if anyB (ldH mi k t) i = true then 1 else 0), .int (nI i), v] [.int (nI i), .ref k, .int (nI t)] (HH (tkl mi k t i) ml) = ev E 42 [.isub, .istore 5, .iload 5, .invokevirtual 23, .ifCond .eq 103, .aload 0, .getfield 73, .getfield 130, .iload 4, .aaload, .getfield 448, .iload 5, .iaload, .bipush (-1), .if_icmp .eq 103, .aload 0, .getfield 64, .iload 4, .aload 0, .getfield 73, .getfield 130, .iload 4, .aaload, .getfield 448, .iload 5, .iaload, .aload 0, .getfield 73, .getfield 130, .iload 4, .aaload, .getfield 449, .iload 5, .iaload, .invokevirtual 44, .bipush 1, .istore 3, .jsr 103] [.ref 26, .int (nI t), .ref k, .int (if anyB (ldH mi k t) i = true then 1 else 0), .int (nI i), v] [.int (mi k i), .int (nI t)] (HH (tkl mi k t i) ml) := by
      rw [← a2]
      rcases hk with rfl | rfl
      · exact il_5 hi5
      · exact il_33 hi5
    by_cases h1 : oF mi k i ≤ t
    · have hs : nI t - mi k i = nI (t - oF mi k i) := by rw [ho1, nI_subN h1]
      have htl : t - oF mi k i < 24 := by omega
      have hti : (0 ≤ nI (t - oF mi k i) ∧ nI (t - oF mi k i) < 24) = True := eq_true ⟨nI_pos' (by omega), (nI_ltI (b := 24) (by omega) (by decide)).mpr htl⟩
      have a3 : tkl mi k t i (12 + 3 * i) (t - oF mi k i) = tP mi i (t - oF mi k i) := tkl_ne (by omega) (by omega) (by omega) i
      have a4 : tkl mi k t i (13 + 3 * i) (t - oF mi k i) = tA mi i (t - oF mi k i) := tkl_ne (by omega) (by omega) (by omega) i
      by_cases h2 : tP mi i (t - oF mi k i) = -1
      · have hc : ldH mi k t i = false := by simp [ldH, h2]
        simp only [b_42_e, b_42_103, b_42_109, k_0, e_istore_3, e_kpi, e_kpr, e_kpl, e_kpd, e_aloadr_0, g_64_26, cc_Circuit_clearLoads_0, cc_Circuit_clearLoads_1, cc_Circuit_clearLoads_2, cc_Circuit_clearLoads_3, Option.toList_some, Option.toList_none, List.cons_append, List.nil_append, e_istore_4, e_jsr, e_iload_4, g_73_26, g_133_1, e_icmp_ge, e_iload_1, e_aloadr_2, il_2, il_5, il_33, il_35, il_36, il_41, il_42, il_tp, il_ta, il_sc, il_po, ik_2_0, ik_2_1, ik_2_2, ik_2_3, ik_2_4, e_isub, e_istore_5, e_iload_5, cc_X_isTick_0, cc_X_isTick_1, cc_X_isTick_2, cc_X_isTick_3, e_if_eq, g_130_1, il_3, il_4, il_29, il_51, g_448_11, g_448_14, g_448_17, g_448_20, g_448_23, gs_f448, k_m1, e_icmp_eq, g_449_11, g_449_14, g_449_17, g_449_20, g_449_23, gs_f449, cc_Circuit_addLoad_0, cc_Circuit_addLoad_1, cc_Circuit_addLoad_2, cc_Circuit_addLoad_3, k_1, e_iinc_4, e_goto, e_iload_3, e_zret0, e_zret1, eq_self, a1, lec (show nt < 1000 by omega) hi, hi5, hrow, hs, htl, hti, a3, h2, hc, bz0, Bool.or_false, not_true_eq_false, not_false_eq_true, if_true, if_false, true_or, or_true, false_or, or_false, true_and, and_true, false_and, and_false, and_self, or_self, reduceIte, Bool.false_eq_true, i10, i01, e_inc1]
      · have hc : ldH mi k t i = true := by simp [ldH, h1, h2]
        simp only [b_42_e, b_42_103, b_42_109, k_0, e_istore_3, e_kpi, e_kpr, e_kpl, e_kpd, e_aloadr_0, g_64_26, cc_Circuit_clearLoads_0, cc_Circuit_clearLoads_1, cc_Circuit_clearLoads_2, cc_Circuit_clearLoads_3, Option.toList_some, Option.toList_none, List.cons_append, List.nil_append, e_istore_4, e_jsr, e_iload_4, g_73_26, g_133_1, e_icmp_ge, e_iload_1, e_aloadr_2, il_2, il_5, il_33, il_35, il_36, il_41, il_42, il_tp, il_ta, il_sc, il_po, ik_2_0, ik_2_1, ik_2_2, ik_2_3, ik_2_4, e_isub, e_istore_5, e_iload_5, cc_X_isTick_0, cc_X_isTick_1, cc_X_isTick_2, cc_X_isTick_3, e_if_eq, g_130_1, il_3, il_4, il_29, il_51, g_448_11, g_448_14, g_448_17, g_448_20, g_448_23, gs_f448, k_m1, e_icmp_eq, g_449_11, g_449_14, g_449_17, g_449_20, g_449_23, gs_f449, cc_Circuit_addLoad_0, cc_Circuit_addLoad_1, cc_Circuit_addLoad_2, cc_Circuit_addLoad_3, k_1, e_iinc_4, e_goto, e_iload_3, e_zret0, e_zret1, eq_self, a1, lec (show nt < 1000 by omega) hi, hi5, hrow, hs, htl, hti, a3, a4, h2, hc, bz0, Bool.or_true, cc_Circuit_addLoad_0 hi5, not_true_eq_false, not_false_eq_true, if_true, if_false, true_or, or_true, false_or, or_false, true_and, and_true, false_and, and_false, and_self, or_self, reduceIte, Bool.false_eq_true, i10, i01, e_inc1]
    · have hs : ¬ ((0 : Int32) ≤ nI t - mi k i ∧ nI t - mi k i < 24) := by
        rw [ho1]
        exact fun q => nI_subL (by omega) (by omega) (by omega) q.1
      have hc : ldH mi k t i = false := by simp [ldH, h1]
      simp only [b_42_e, b_42_103, b_42_109, k_0, e_istore_3, e_kpi, e_kpr, e_kpl, e_kpd, e_aloadr_0, g_64_26, cc_Circuit_clearLoads_0, cc_Circuit_clearLoads_1, cc_Circuit_clearLoads_2, cc_Circuit_clearLoads_3, Option.toList_some, Option.toList_none, List.cons_append, List.nil_append, e_istore_4, e_jsr, e_iload_4, g_73_26, g_133_1, e_icmp_ge, e_iload_1, e_aloadr_2, il_2, il_5, il_33, il_35, il_36, il_41, il_42, il_tp, il_ta, il_sc, il_po, ik_2_0, ik_2_1, ik_2_2, ik_2_3, ik_2_4, e_isub, e_istore_5, e_iload_5, cc_X_isTick_0, cc_X_isTick_1, cc_X_isTick_2, cc_X_isTick_3, e_if_eq, g_130_1, il_3, il_4, il_29, il_51, g_448_11, g_448_14, g_448_17, g_448_20, g_448_23, gs_f448, k_m1, e_icmp_eq, g_449_11, g_449_14, g_449_17, g_449_20, g_449_23, gs_f449, cc_Circuit_addLoad_0, cc_Circuit_addLoad_1, cc_Circuit_addLoad_2, cc_Circuit_addLoad_3, k_1, e_iinc_4, e_goto, e_iload_3, e_zret0, e_zret1, eq_self, a1, lec (show nt < 1000 by omega) hi, hi5, hrow, hs, hc, bz0, Bool.or_false, not_true_eq_false, not_false_eq_true, if_true, if_false, true_or, or_true, false_or, or_false, true_and, and_true, false_and, and_false, and_self, or_self, reduceIte, Bool.false_eq_true, i10, i01, e_inc1]) (by omega) am_dm
  refine Eq.trans (show _ = _ from hl) ?_
  have a1 : tkl mi k t nt 1 5 = nI nt := by rw [tkl_ne (by decide) (by decide) (by decide), hnt]
  simp only [b_42_12, b_42_e, b_42_103, b_42_109, k_0, e_istore_3, e_kpi, e_kpr, e_kpl, e_kpd, e_aloadr_0, g_64_26, cc_Circuit_clearLoads_0, cc_Circuit_clearLoads_1, cc_Circuit_clearLoads_2, cc_Circuit_clearLoads_3, Option.toList_some, Option.toList_none, List.cons_append, List.nil_append, e_istore_4, e_jsr, e_iload_4, g_73_26, g_133_1, e_icmp_ge, e_iload_1, e_aloadr_2, il_2, il_5, il_33, il_35, il_36, il_41, il_42, il_tp, il_ta, il_sc, il_po, ik_2_0, ik_2_1, ik_2_2, ik_2_3, ik_2_4, e_isub, e_istore_5, e_iload_5, cc_X_isTick_0, cc_X_isTick_1, cc_X_isTick_2, cc_X_isTick_3, e_if_eq, g_130_1, il_3, il_4, il_29, il_51, g_448_11, g_448_14, g_448_17, g_448_20, g_448_23, gs_f448, k_m1, e_icmp_eq, g_449_11, g_449_14, g_449_17, g_449_20, g_449_23, gs_f449, cc_Circuit_addLoad_0, cc_Circuit_addLoad_1, cc_Circuit_addLoad_2, cc_Circuit_addLoad_3, k_1, e_iinc_4, e_goto, e_iload_3, e_zret0, e_zret1, eq_self, a1, lecc, not_true_eq_false, not_false_eq_true, if_true, if_false, true_or, or_true, false_or, or_false, true_and, and_true, false_and, and_false, and_self, or_self, reduceIte, Bool.false_eq_true, i10, i01, e_zret bzo]
theorem cc_Day_takeLoads_0 {M : Nat} {c : List Instr} {L : List Value} {k nt t : Nat} (hk : k = 5 ∨ k = 33) (ht : t < 24) (hnt : mi 1 5 = nI nt) (hnt5 : nt ≤ 5) (ho : ∀ n, n < nt → mi k n = nI (oF mi k n) ∧ oF mi k n ≤ 5) : ev E M (.invokevirtual 42 :: c) L (.ref k :: .int (nI t) :: .ref 26 :: []) (HH mi ml) = ev E M c L (.int (if anyB (ldH mi k t) nt = true then 1 else 0) :: []) (HH (tkl mi k t nt) ml) := e_inv (as := [.ref 26, .int (nI t), .ref k]) (S := []) rfl rfl (Nat.le_of_ble_eq_true rfl) (rfl) (ct_Day_takeLoads hk ht hnt hnt5 ho)
theorem cc_Day_takeLoads_1 {M : Nat} {c : List Instr} {L : List Value} {s0 : Value} {k nt t : Nat} (hk : k = 5 ∨ k = 33) (ht : t < 24) (hnt : mi 1 5 = nI nt) (hnt5 : nt ≤ 5) (ho : ∀ n, n < nt → mi k n = nI (oF mi k n) ∧ oF mi k n ≤ 5) : ev E M (.invokevirtual 42 :: c) L (.ref k :: .int (nI t) :: .ref 26 :: [s0]) (HH mi ml) = ev E M c L (.int (if anyB (ldH mi k t) nt = true then 1 else 0) :: [s0]) (HH (tkl mi k t nt) ml) := e_inv (as := [.ref 26, .int (nI t), .ref k]) (S := [s0]) rfl rfl (Nat.le_of_ble_eq_true rfl) (rfl) (ct_Day_takeLoads hk ht hnt hnt5 ho)
theorem cc_Day_takeLoads_2 {M : Nat} {c : List Instr} {L : List Value} {s0 s1 : Value} {k nt t : Nat} (hk : k = 5 ∨ k = 33) (ht : t < 24) (hnt : mi 1 5 = nI nt) (hnt5 : nt ≤ 5) (ho : ∀ n, n < nt → mi k n = nI (oF mi k n) ∧ oF mi k n ≤ 5) : ev E M (.invokevirtual 42 :: c) L (.ref k :: .int (nI t) :: .ref 26 :: [s0, s1]) (HH mi ml) = ev E M c L (.int (if anyB (ldH mi k t) nt = true then 1 else 0) :: [s0, s1]) (HH (tkl mi k t nt) ml) := e_inv (as := [.ref 26, .int (nI t), .ref k]) (S := [s0, s1]) rfl rfl (Nat.le_of_ble_eq_true rfl) (rfl) (ct_Day_takeLoads hk ht hnt hnt5 ho)
theorem cc_Day_takeLoads_3 {M : Nat} {c : List Instr} {L : List Value} {s0 s1 s2 : Value} {k nt t : Nat} (hk : k = 5 ∨ k = 33) (ht : t < 24) (hnt : mi 1 5 = nI nt) (hnt5 : nt ≤ 5) (ho : ∀ n, n < nt → mi k n = nI (oF mi k n) ∧ oF mi k n ≤ 5) : ev E M (.invokevirtual 42 :: c) L (.ref k :: .int (nI t) :: .ref 26 :: [s0, s1, s2]) (HH mi ml) = ev E M c L (.int (if anyB (ldH mi k t) nt = true then 1 else 0) :: [s0, s1, s2]) (HH (tkl mi k t nt) ml) := e_inv (as := [.ref 26, .int (nI t), .ref k]) (S := [s0, s1, s2]) rfl rfl (Nat.le_of_ble_eq_true rfl) (rfl) (ct_Day_takeLoads hk ht hnt hnt5 ho)
end Tk
